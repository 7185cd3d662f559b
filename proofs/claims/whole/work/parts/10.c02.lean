def fX10_clauses (F : Nat) (σ : St) (a0 : Int32) (a1 : Int32) : Option (Nat × Int32 × St) := bd1 (fX10_checkValley F σ a0) fun t1 => if t1 = 0 then (bd1 (fX10_checkBelow F σ a1 3) fun t2 => if t2 = 0 then (bd2 (fX2_bindingBits F σ 0) fun r3 u4 => bd1 (fX6_countOf F u4 a0 a1 r3) fun r5 => some (0, r5, u4)) else some (t2, 0, σ)) else some (t1, 0, σ)
set_option maxRecDepth 20000 in
theorem wfX10_clauses {X : XT} {D : va_G} {cI : ClassId} {ad : Nat → Nat} {F : Nat} {σ : St} {a0 : Int32} {a1 : Int32} {res : Nat × Int32 × St} (C : Cx X (gC D cI ad) cX10_clauses 3 RX10 8 146 2) (hr : RetXi X (gC D cI ad) cX10_clauses 3 2 res) (hx : ThrX X (gC D cI ad) cX10_clauses 3 2 res) (h : fX10_clauses F σ a0 a1 = some res) : WP X (gC D cI ad) 3 0 0 σ [(0, .ref (ad 0)), (1, .int a0), (2, .int a1)] [] := by
  unfold fX10_clauses at h
  refine w_aload_n C dX10_clauses_0 rfl 0 rfl ?_
  refine w_iload_n C dX10_clauses_1 rfl 1 rfl ?_
  refine bd1_w h (fun t1 hc h => ?_)
  refine w_callX C hx (n := 1) (As := [.int a0]) (st := []) 0 (Nat.le_of_ble_eq_true rfl) rfl rfl (cfX10_checkValley D cI ad (l := X.2.1) C.2.2.1 hx.1 hc) tw5_0 cy_X10_checkValley (by decide +kernel) ⟨by decide, by decide⟩ (by decide) rfl rfl (Nat.le_of_ble_eq_true rfl) dX10_clauses_2 rfl h (fun h => ?_)
  refine w_aload_n C dX10_clauses_5 rfl 0 rfl ?_
  refine w_iload_n C dX10_clauses_6 rfl 2 rfl ?_
  refine w_iconst C 3 dX10_clauses_7 rfl (by decide) ?_
  refine bd1_w h (fun t2 hc h => ?_)
  refine w_callX C hx (n := 2) (As := [.int a1, .int 3]) (st := []) 0 (Nat.le_of_ble_eq_true rfl) rfl rfl (cfX10_checkBelow D cI ad (l := X.2.1) C.2.2.1 hx.1 hc) tw5_51 cy_X10_checkBelow (by decide +kernel) ⟨by decide, by decide⟩ (by decide) rfl rfl (Nat.le_of_ble_eq_true rfl) dX10_clauses_8 rfl h (fun h => ?_)
  refine w_aload_n C dX10_clauses_11 rfl 0 rfl ?_
  refine w_get C 0 12 (Nat.le_of_ble_eq_true rfl) rfl rfl inB_X10 (by decide) tw2_184 rfl dX10_clauses_12 rfl ?_
  refine w_iload_n C dX10_clauses_15 rfl 1 rfl ?_
  refine w_iload_n C dX10_clauses_16 rfl 2 rfl ?_
  refine w_aload_n C dX10_clauses_17 rfl 0 rfl ?_
  refine w_get C 0 10 (Nat.le_of_ble_eq_true rfl) rfl rfl inB_X10 (by decide) tw2_182 rfl dX10_clauses_18 rfl ?_
  refine w_aload_n C dX10_clauses_21 rfl 0 rfl ?_
  refine w_get C 0 7 (Nat.le_of_ble_eq_true rfl) rfl rfl inB_X10 (by decide) tw2_179 rfl dX10_clauses_22 rfl ?_
  refine w_iconst C 0 dX10_clauses_25 rfl (by decide) ?_
  refine bd2_w h (fun r3 u4 hc h => ?_)
  refine w_callVi C (n := 2) (As := [.ref (ad 30), .int 0]) (st := [.int a1, .int a0, .ref (ad 81)]) 66 (Nat.le_of_ble_eq_true rfl) rfl rfl (cfX2_bindingBits D cI ad (l := X.2.1) C.2.2.1 hc) tw4_88 cy_X2_bindingBits (by decide +kernel) ⟨Nat.le_of_ble_eq_true rfl, Nat.le_of_ble_eq_true rfl⟩ (by decide) rfl rfl (Nat.le_of_ble_eq_true rfl) dX10_clauses_26 rfl ?_
  refine bd1_w h (fun r5 hc h => ?_)
  refine w_callVi C (n := 3) (As := [.int a0, .int a1, .int r3]) (st := []) 81 (Nat.le_of_ble_eq_true rfl) rfl rfl (cfX6_countOf D cI ad (l := X.2.1) C.2.2.1 hc) tw5_74 cy_X6_countOf (by decide +kernel) ⟨Nat.le_of_ble_eq_true rfl, Nat.le_of_ble_eq_true rfl⟩ (by decide) rfl rfl (Nat.le_of_ble_eq_true rfl) dX10_clauses_29 rfl ?_
  exact w_rxi hr h (by decide) dX10_clauses_32
theorem cfX10_clauses (D : va_G) (cI : ClassId) (ad : Nat → Nat) {l : Launch} (had : gAp (gC D cI ad)) (hst : l.stackTraces = false) {F : Nat} {σ : St} {a0 : Int32} {a1 : Int32} {res : Nat × Int32 × St} (h : fX10_clauses F σ a0 a1 = some res) : MX l yX10_clauses (wB yX10_clauses cX10_clauses 3 (some .int)) 8 146 2 (gC D cI ad) [.ref (ad 0), .int a0, .int a1] σ res := mk_MX had (by decide +kernel) (Nat.le_of_ble_eq_true rfl) hst rfl (by decide) (by decide) (fun X hX C hr hx => wfX10_clauses C hr hx h)

def fX10_done (F : Nat) (σ : St) (a0 : Int32) (a1 : Int32) (a2 : Int32) : Option (Nat × Int32 × St) := bd1 (fX10_checkValley F σ a0) fun t1 => if t1 = 0 then (bd1 (fX10_checkBelow F σ a1 8) fun t2 => if t2 = 0 then (bd1 (fX10_checkBelow F σ a2 2) fun t3 => if t3 = 0 then (if a2 = 0 then (ckI ((a0 * 8) + a1) 48 (some (0, σ 34 (Int32.toNatClampNeg ((a0 * 8) + a1)), σ))) else bd2 (fX2_bindingBits F σ 0) fun r4 u5 => bd1 (fX6_weighAll F u5 r4) fun u6 => bd1 (fX6_hasStamped F u6 a0 a1 0) fun r7 => if r7 = 0 then (some (0, 0, u6)) else some (0, 1, u6)) else some (t3, 0, σ)) else some (t2, 0, σ)) else some (t1, 0, σ)
set_option maxRecDepth 20000 in
theorem wfX10_done {X : XT} {D : va_G} {cI : ClassId} {ad : Nat → Nat} {F : Nat} {σ : St} {a0 : Int32} {a1 : Int32} {a2 : Int32} {res : Nat × Int32 × St} (C : Cx X (gC D cI ad) cX10_done 4 RX10 8 140 3) (hr : RetXi X (gC D cI ad) cX10_done 4 3 res) (hx : ThrX X (gC D cI ad) cX10_done 4 3 res) (h : fX10_done F σ a0 a1 a2 = some res) : WP X (gC D cI ad) 4 0 0 σ [(0, .ref (ad 0)), (1, .int a0), (2, .int a1), (3, .int a2)] [] := by
  unfold fX10_done at h
  refine w_aload_n C dX10_done_0 rfl 0 rfl ?_
  refine w_iload_n C dX10_done_1 rfl 1 rfl ?_
  refine bd1_w h (fun t1 hc h => ?_)
  refine w_callX C hx (n := 1) (As := [.int a0]) (st := []) 0 (Nat.le_of_ble_eq_true rfl) rfl rfl (cfX10_checkValley D cI ad (l := X.2.1) C.2.2.1 hx.1 hc) tw5_0 cy_X10_checkValley (by decide +kernel) ⟨by decide, by decide⟩ (by decide) rfl rfl (Nat.le_of_ble_eq_true rfl) dX10_done_2 rfl h (fun h => ?_)
  refine w_aload_n C dX10_done_5 rfl 0 rfl ?_
  refine w_iload_n C dX10_done_6 rfl 2 rfl ?_
  refine w_bipush C 8 dX10_done_7 rfl (by decide) ?_
  refine bd1_w h (fun t2 hc h => ?_)
  refine w_callX C hx (n := 2) (As := [.int a1, .int 8]) (st := []) 0 (Nat.le_of_ble_eq_true rfl) rfl rfl (cfX10_checkBelow D cI ad (l := X.2.1) C.2.2.1 hx.1 hc) tw5_51 cy_X10_checkBelow (by decide +kernel) ⟨by decide, by decide⟩ (by decide) rfl rfl (Nat.le_of_ble_eq_true rfl) dX10_done_9 rfl h (fun h => ?_)
  refine w_aload_n C dX10_done_12 rfl 0 rfl ?_
  refine w_iload_n C dX10_done_13 rfl 3 rfl ?_
  refine w_iconst C 2 dX10_done_14 rfl (by decide) ?_
  refine bd1_w h (fun t3 hc h => ?_)
  refine w_callX C hx (n := 2) (As := [.int a2, .int 2]) (st := []) 0 (Nat.le_of_ble_eq_true rfl) rfl rfl (cfX10_checkBelow D cI ad (l := X.2.1) C.2.2.1 hx.1 hc) tw5_51 cy_X10_checkBelow (by decide +kernel) ⟨by decide, by decide⟩ (by decide) rfl rfl (Nat.le_of_ble_eq_true rfl) dX10_done_15 rfl h (fun h => ?_)
  refine w_iload_n C dX10_done_18 rfl 3 rfl ?_
  refine w_if_ne C (qt := 37) dX10_done_19 (by decide) rfl h (fun _ h => ?_) (fun _ h => ?_)
  · refine w_aload_n C dX10_done_37 rfl 0 rfl ?_
    refine w_get C 0 12 (Nat.le_of_ble_eq_true rfl) rfl rfl inB_X10 (by decide) tw2_184 rfl dX10_done_38 rfl ?_
    refine w_aload_n C dX10_done_41 rfl 0 rfl ?_
    refine w_get C 0 10 (Nat.le_of_ble_eq_true rfl) rfl rfl inB_X10 (by decide) tw2_182 rfl dX10_done_42 rfl ?_
    refine w_aload_n C dX10_done_45 rfl 0 rfl ?_
    refine w_get C 0 7 (Nat.le_of_ble_eq_true rfl) rfl rfl inB_X10 (by decide) tw2_179 rfl dX10_done_46 rfl ?_
    refine w_iconst C 0 dX10_done_49 rfl (by decide) ?_
    refine bd2_w h (fun r4 u5 hc h => ?_)
    refine w_callVi C (n := 2) (As := [.ref (ad 30), .int 0]) (st := [.ref (ad 81)]) 66 (Nat.le_of_ble_eq_true rfl) rfl rfl (cfX2_bindingBits D cI ad (l := X.2.1) C.2.2.1 hc) tw4_88 cy_X2_bindingBits (by decide +kernel) ⟨Nat.le_of_ble_eq_true rfl, Nat.le_of_ble_eq_true rfl⟩ (by decide) rfl rfl (Nat.le_of_ble_eq_true rfl) dX10_done_50 rfl ?_
    refine bd1_w h (fun u6 hc h => ?_)
    refine w_callVv C (n := 1) (As := [.int r4]) (st := []) 81 (Nat.le_of_ble_eq_true rfl) rfl rfl (cfX6_weighAll D cI ad (l := X.2.1) C.2.2.1 hc) tw4_149 cy_X6_weighAll (by decide +kernel) ⟨Nat.le_of_ble_eq_true rfl, Nat.le_of_ble_eq_true rfl⟩ (by decide) rfl rfl (Nat.le_of_ble_eq_true rfl) dX10_done_53 rfl ?_
    refine w_aload_n C dX10_done_56 rfl 0 rfl ?_
    refine w_get C 0 12 (Nat.le_of_ble_eq_true rfl) rfl rfl inB_X10 (by decide) tw2_184 rfl dX10_done_57 rfl ?_
    refine w_iload_n C dX10_done_60 rfl 1 rfl ?_
    refine w_iload_n C dX10_done_61 rfl 2 rfl ?_
    refine w_iconst C 0 dX10_done_62 rfl (by decide) ?_
    refine bd1_w h (fun r7 hc h => ?_)
    refine w_callVi C (n := 3) (As := [.int a0, .int a1, .int 0]) (st := []) 81 (Nat.le_of_ble_eq_true rfl) rfl rfl (cfX6_hasStamped D cI ad (l := X.2.1) C.2.2.1 hc) tw5_89 cy_X6_hasStamped (by decide +kernel) ⟨Nat.le_of_ble_eq_true rfl, Nat.le_of_ble_eq_true rfl⟩ (by decide) rfl rfl (Nat.le_of_ble_eq_true rfl) dX10_done_63 rfl ?_
    refine w_if_eq C (qt := 73) dX10_done_66 (by decide) rfl h (fun _ h => ?_) (fun _ h => ?_)
    · refine w_iconst C 0 dX10_done_73 rfl (by decide) ?_
      exact w_rxi hr h (by decide) dX10_done_74
    · refine w_iconst C 1 dX10_done_69 rfl (by decide) ?_
      refine w_goto (q := 74) C dX10_done_70 (by decide) ?_
      exact w_rxi hr h (by decide) dX10_done_74
  · refine w_aload_n C dX10_done_22 rfl 0 rfl ?_
    refine w_get C 0 7 (Nat.le_of_ble_eq_true rfl) rfl rfl inB_X10 (by decide) tw2_179 rfl dX10_done_23 rfl ?_
    refine w_get C 30 6 (Nat.le_of_ble_eq_true rfl) rfl rfl inB_X9 (by decide) tw1_209 rfl dX10_done_26 rfl ?_
    refine w_iload_n C dX10_done_29 rfl 1 rfl ?_
    refine w_bipush C 8 dX10_done_30 rfl (by decide) ?_
    refine w_imul C dX10_done_32 rfl ?_
    refine w_iload_n C dX10_done_33 rfl 2 rfl ?_
    refine w_iadd C dX10_done_34 rfl ?_
    refine w_iald C 34 48 0 (Nat.le_of_ble_eq_true rfl) (fun _ => rfl) rfl h dX10_done_35 rfl (fun h => ?_)
    exact w_rxi hr h (by decide) dX10_done_36
theorem cfX10_done (D : va_G) (cI : ClassId) (ad : Nat → Nat) {l : Launch} (had : gAp (gC D cI ad)) (hst : l.stackTraces = false) {F : Nat} {σ : St} {a0 : Int32} {a1 : Int32} {a2 : Int32} {res : Nat × Int32 × St} (h : fX10_done F σ a0 a1 a2 = some res) : MX l yX10_done (wB yX10_done cX10_done 4 (some .int)) 8 140 3 (gC D cI ad) [.ref (ad 0), .int a0, .int a1, .int a2] σ res := mk_MX had (by decide +kernel) (Nat.le_of_ble_eq_true rfl) hst rfl (by decide) (by decide) (fun X hX C hr hx => wfX10_done C hr hx h)

def fX10_refuse (F : Nat) (σ : St) (a0 : Int32) : Option (Int32 × St) := ckI (a0) 3 (ckI (a0) 3 (nm (up σ 41 (Int32.toNatClampNeg a0) ((σ 41 (Int32.toNatClampNeg a0)) + 1)) fun u1 => some ((-1), u1)))
set_option maxRecDepth 20000 in
theorem wfX10_refuse {X : XT} {D : va_G} {cI : ClassId} {ad : Nat → Nat} {F : Nat} {σ : St} {a0 : Int32} {r : Int32} {σ' : St} (C : Cx X (gC D cI ad) cX10_refuse 2 RX10 0 0 0) (hr : RetI X (gC D cI ad) cX10_refuse 2 0 r σ') (h : fX10_refuse F σ a0 = some (r, σ')) : WP X (gC D cI ad) 2 0 0 σ [(0, .ref (ad 0)), (1, .int a0)] [] := by
  unfold fX10_refuse at h
  refine w_aload_n C dX10_refuse_0 rfl 0 rfl ?_
  refine w_get C 0 7 (Nat.le_of_ble_eq_true rfl) rfl rfl inB_X10 (by decide) tw2_179 rfl dX10_refuse_1 rfl ?_
  refine w_get C 30 13 (Nat.le_of_ble_eq_true rfl) rfl rfl inB_X9 (by decide) tw1_222 rfl dX10_refuse_4 rfl ?_
  refine w_iload_n C dX10_refuse_7 rfl 1 rfl ?_
  refine w_dup2 C rfl rfl dX10_refuse_8 rfl ?_
  refine w_iald C 41 3 0 (Nat.le_of_ble_eq_true rfl) (fun _ => rfl) rfl h dX10_refuse_9 rfl (fun h => ?_)
  refine w_iconst C 1 dX10_refuse_10 rfl (by decide) ?_
  refine w_iadd C dX10_refuse_11 rfl ?_
  refine w_iast C 41 3 0 (Nat.le_of_ble_eq_true rfl) (fun _ => rfl) rfl h dX10_refuse_12 rfl (fun h => ?_)
  refine w_nst h (fun u1 h => ?_)
  refine w_iconst C (-1) dX10_refuse_13 rfl (by decide) ?_
  exact w_ri2 hr h (by decide) dX10_refuse_14
theorem cfX10_refuse (D : va_G) (cI : ClassId) (ad : Nat → Nat) {l : Launch} (had : gAp (gC D cI ad)) {F : Nat} {σ : St} {a0 : Int32} {r : Int32} {σ' : St} (h : fX10_refuse F σ a0 = some (r, σ')) : MI l yX10_refuse (wB yX10_refuse cX10_refuse 2 (some .int)) 0 0 (gC D cI ad) [.ref (ad 0), .int a0] σ r σ' := mk_MI had (by decide +kernel) (Nat.le_of_ble_eq_true rfl) (fun X hX C hr => wfX10_refuse C hr h)

def fX9_note (F : Nat) (σ : St) (a0 : Int32) (a1 : Int32) (a2 : Int32) (a3 : Int32) : Option St := jn (fun v1 : St => nm ((v1 30 1) * 4) fun x4 => ckI (x4) 160 (nm (up v1 35 (Int32.toNatClampNeg x4) a0) fun u5 => ckI (x4 + 1) 160 (nm (up u5 35 (Int32.toNatClampNeg (x4 + 1)) a1) fun u6 => ckI (x4 + 2) 160 (nm (up u6 35 (Int32.toNatClampNeg (x4 + 2)) a2) fun u7 => ckI (x4 + 3) 160 (nm (up u7 35 (Int32.toNatClampNeg (x4 + 3)) a3) fun u8 => nm (up u8 30 1 ((u8 30 1) + 1)) fun u10 => some u10))))) fun J2 => if (σ 30 1) < (40 : Int32) then (J2 σ) else nm (acp σ 35 4 35 0 156) fun u11 => nm (up u11 30 1 39) fun u13 => J2 u13
set_option maxRecDepth 20000 in
theorem wfX9_note {X : XT} {D : va_G} {cI : ClassId} {ad : Nat → Nat} {F : Nat} {σ : St} {a0 : Int32} {a1 : Int32} {a2 : Int32} {a3 : Int32} {σ' : St} (C : Cx X (gC D cI ad) cX9_note 6 RX9 1 40 0) (hr : RetV X (gC D cI ad) cX9_note 6 0 σ') (h : fX9_note F σ a0 a1 a2 a3 = some σ') : WP X (gC D cI ad) 6 0 0 σ [(0, .ref (ad 30)), (1, .int a0), (2, .int a1), (3, .int a2), (4, .int a3)] [] := by
  unfold fX9_note at h
  refine w_aload_n C dX9_note_0 rfl 0 rfl ?_
  refine w_get C 30 1 (Nat.le_of_ble_eq_true rfl) rfl rfl inB_X9 (by decide) tw1_192 rfl dX9_note_1 rfl ?_
  refine w_bipush C 40 dX9_note_4 rfl (by decide) ?_
  refine jn_w (fun v1 : St => WP X (gC D cI ad) 6 0 31 v1 [(0, .ref (ad 30)), (1, .int a0), (2, .int a1), (3, .int a2), (4, .int a3)] []) h (fun v1 h => ?_) (fun J2 hJ3 h => ?_)
  · refine w_aload_n C dX9_note_31 rfl 0 rfl ?_
    refine w_get C 30 1 (Nat.le_of_ble_eq_true rfl) rfl rfl inB_X9 (by decide) tw1_192 rfl dX9_note_32 rfl ?_
    refine w_iconst C 4 dX9_note_35 rfl (by decide) ?_
    refine w_imul C dX9_note_36 rfl ?_
    refine w_nm h (fun x4 h => ?_)
    refine w_istore C [(5, .int x4), (0, .ref (ad 30)), (1, .int a0), (2, .int a1), (3, .int a2), (4, .int a3)] dX9_note_37 rfl (by decide) rfl ?_
    refine w_aload_n C dX9_note_39 rfl 1 rfl ?_
    refine w_get C 30 7 (Nat.le_of_ble_eq_true rfl) rfl rfl inB_X9 (by decide) tw1_210 rfl dX9_note_40 rfl ?_
    refine w_iload C dX9_note_43 rfl 0 rfl ?_
    refine w_iload_n C dX9_note_45 rfl 2 rfl ?_
    refine w_iast C 35 160 0 (Nat.le_of_ble_eq_true rfl) (fun _ => rfl) rfl h dX9_note_46 rfl (fun h => ?_)
    refine w_nst h (fun u5 h => ?_)
    refine w_aload_n C dX9_note_47 rfl 1 rfl ?_
    refine w_get C 30 7 (Nat.le_of_ble_eq_true rfl) rfl rfl inB_X9 (by decide) tw1_210 rfl dX9_note_48 rfl ?_
    refine w_iload C dX9_note_51 rfl 0 rfl ?_
    refine w_iconst C 1 dX9_note_53 rfl (by decide) ?_
    refine w_iadd C dX9_note_54 rfl ?_
    refine w_iload_n C dX9_note_55 rfl 3 rfl ?_
    refine w_iast C 35 160 0 (Nat.le_of_ble_eq_true rfl) (fun _ => rfl) rfl h dX9_note_56 rfl (fun h => ?_)
    refine w_nst h (fun u6 h => ?_)
    refine w_aload_n C dX9_note_57 rfl 1 rfl ?_
    refine w_get C 30 7 (Nat.le_of_ble_eq_true rfl) rfl rfl inB_X9 (by decide) tw1_210 rfl dX9_note_58 rfl ?_
    refine w_iload C dX9_note_61 rfl 0 rfl ?_
    refine w_iconst C 2 dX9_note_63 rfl (by decide) ?_
    refine w_iadd C dX9_note_64 rfl ?_
    refine w_iload_n C dX9_note_65 rfl 4 rfl ?_
    refine w_iast C 35 160 0 (Nat.le_of_ble_eq_true rfl) (fun _ => rfl) rfl h dX9_note_66 rfl (fun h => ?_)
    refine w_nst h (fun u7 h => ?_)
    refine w_aload_n C dX9_note_67 rfl 1 rfl ?_
    refine w_get C 30 7 (Nat.le_of_ble_eq_true rfl) rfl rfl inB_X9 (by decide) tw1_210 rfl dX9_note_68 rfl ?_
    refine w_iload C dX9_note_71 rfl 0 rfl ?_
    refine w_iconst C 3 dX9_note_73 rfl (by decide) ?_
    refine w_iadd C dX9_note_74 rfl ?_
    refine w_iload C dX9_note_75 rfl 5 rfl ?_
    refine w_iast C 35 160 0 (Nat.le_of_ble_eq_true rfl) (fun _ => rfl) rfl h dX9_note_77 rfl (fun h => ?_)
    refine w_nst h (fun u8 h => ?_)
    refine w_aload_n C dX9_note_78 rfl 1 rfl ?_
    refine w_dup C rfl dX9_note_79 rfl ?_
    refine w_get C 30 1 (Nat.le_of_ble_eq_true rfl) rfl rfl inB_X9 (by decide) tw1_192 rfl dX9_note_80 rfl ?_
    refine w_iconst C 1 dX9_note_83 rfl (by decide) ?_
    refine w_iadd C dX9_note_84 rfl ?_
    refine w_put C 30 1 ((u8 30 1) + 1) (Nat.le_of_ble_eq_true rfl) rfl rfl inB_X9 tyX9_ok nmX9 (by decide) tw1_192 rfl rfl rfl (Nat.le_of_ble_eq_true rfl) rfl dX9_note_85 rfl ?_
    refine w_nst h (fun u10 h => ?_)
    exact w_rv hr h (by decide) dX9_note_88
  · refine w_icmp_lt C (qt := 31) dX9_note_6 (by decide) rfl h (fun _ h => ?_) (fun _ h => ?_)
    · exact w_sub (lv' := [(0, .ref (ad 30)), (1, .int a0), (2, .int a1), (3, .int a2), (4, .int a3)]) [0, 1, 2, 3, 4] rfl (hJ3 σ h)
    · refine w_aload_n C dX9_note_9 rfl 0 rfl ?_
      refine w_get C 30 7 (Nat.le_of_ble_eq_true rfl) rfl rfl inB_X9 (by decide) tw1_210 rfl dX9_note_10 rfl ?_
      refine w_iconst C 4 dX9_note_13 rfl (by decide) ?_
      refine w_aload_n C dX9_note_14 rfl 0 rfl ?_
      refine w_get C 30 7 (Nat.le_of_ble_eq_true rfl) rfl rfl inB_X9 (by decide) tw1_210 rfl dX9_note_15 rfl ?_
      refine w_iconst C 0 dX9_note_18 rfl (by decide) ?_
      refine w_sipush C 156 dX9_note_19 rfl (by decide) ?_
      refine w_acopy C 35 35 160 160 0 4 0 156 (all4 tw3_2 tw3_4 tw3_3 tw1_22) (Nat.le_of_ble_eq_true rfl) (Nat.le_of_ble_eq_true rfl) (fun _ => rfl) (fun _ => rfl) rfl ⟨by decide, by decide⟩ ⟨by decide, by decide⟩ ⟨by decide, by decide⟩ (by decide) (by decide) ⟨Nat.le_of_ble_eq_true rfl, Nat.le_of_ble_eq_true rfl⟩ dX9_note_22 rfl ?_
      refine w_nst h (fun u11 h => ?_)
      refine w_aload_n C dX9_note_25 rfl 0 rfl ?_
      refine w_bipush C 39 dX9_note_26 rfl (by decide) ?_
      refine w_put C 30 1 39 (Nat.le_of_ble_eq_true rfl) rfl rfl inB_X9 tyX9_ok nmX9 (by decide) tw1_192 rfl rfl rfl (Nat.le_of_ble_eq_true rfl) rfl dX9_note_28 rfl ?_
      refine w_nst h (fun u13 h => ?_)
      exact w_sub (lv' := [(0, .ref (ad 30)), (1, .int a0), (2, .int a1), (3, .int a2), (4, .int a3)]) [0, 1, 2, 3, 4] rfl (hJ3 u13 h)
theorem cfX9_note (D : va_G) (cI : ClassId) (ad : Nat → Nat) {l : Launch} (had : gAp (gC D cI ad)) {F : Nat} {σ : St} {a0 : Int32} {a1 : Int32} {a2 : Int32} {a3 : Int32} {σ' : St} (h : fX9_note F σ a0 a1 a2 a3 = some σ') : MV l yX9_note (wB yX9_note cX9_note 6 none) 1 40 (gC D cI ad) [.ref (ad 30), .int a0, .int a1, .int a2, .int a3] σ σ' := mk_MV had (by decide +kernel) (Nat.le_of_ble_eq_true rfl) (fun X hX C hr => wfX9_note C hr h)

def fX10_years (F : Nat) (σ : St) (a0 : Int32) : Option (Int32 × St) := jn (fun v1 : Unit => bd2 (fX10_refuse F σ 1) fun r4 u5 => some (r4, u5)) fun J2 => if a0 < (1 : Int32) then (J2 (())) else if (50 : Int32) < a0 then (J2 (())) else if ((σ 30 0) + a0) ≤ (999 : Int32) then (nm (up σ 30 0 ((σ 30 0) + a0)) fun u7 => bd1 (fX9_note F u7 0 a0 0 0) fun u8 => some (u8 30 0, u8)) else J2 (())
set_option maxRecDepth 20000 in
theorem wfX10_years {X : XT} {D : va_G} {cI : ClassId} {ad : Nat → Nat} {F : Nat} {σ : St} {a0 : Int32} {r : Int32} {σ' : St} (C : Cx X (gC D cI ad) cX10_years 2 RX10 2 65 0) (hr : RetI X (gC D cI ad) cX10_years 2 0 r σ') (h : fX10_years F σ a0 = some (r, σ')) : WP X (gC D cI ad) 2 0 0 σ [(0, .ref (ad 0)), (1, .int a0)] [] := by
  unfold fX10_years at h
  refine w_iload_n C dX10_years_0 rfl 1 rfl ?_
  refine w_iconst C 1 dX10_years_1 rfl (by decide) ?_
  refine jn_w (fun v1 : Unit => WP X (gC D cI ad) 2 0 26 σ [(0, .ref (ad 0))] []) h (fun v1 h => ?_) (fun J2 hJ3 h => ?_)
  · refine w_aload_n C dX10_years_26 rfl 0 rfl ?_
    refine w_iconst C 1 dX10_years_27 rfl (by decide) ?_
    refine bd2_w h (fun r4 u5 hc h => ?_)
    refine w_callVi C (n := 1) (As := [.int 1]) (st := []) 0 (Nat.le_of_ble_eq_true rfl) rfl rfl (cfX10_refuse D cI ad (l := X.2.1) C.2.2.1 hc) tw2_234 cy_X10_refuse (by decide +kernel) ⟨Nat.le_of_ble_eq_true rfl, Nat.le_of_ble_eq_true rfl⟩ (by decide) rfl rfl (Nat.le_of_ble_eq_true rfl) dX10_years_28 rfl ?_
    exact w_ri2 hr h (by decide) dX10_years_31
  · refine w_icmp_lt C (qt := 26) dX10_years_2 (by decide) rfl h (fun _ h => ?_) (fun _ h => ?_)
    · exact w_sub (lv' := [(0, .ref (ad 0))]) [0] rfl (hJ3 (()) h)
    · refine w_iload_n C dX10_years_5 rfl 1 rfl ?_
      refine w_bipush C 50 dX10_years_6 rfl (by decide) ?_
      refine w_icmp_gt C (qt := 26) dX10_years_8 (by decide) rfl h (fun _ h => ?_) (fun _ h => ?_)
      · exact w_sub (lv' := [(0, .ref (ad 0))]) [0] rfl (hJ3 (()) h)
      · refine w_aload_n C dX10_years_11 rfl 0 rfl ?_
        refine w_get C 0 7 (Nat.le_of_ble_eq_true rfl) rfl rfl inB_X10 (by decide) tw2_179 rfl dX10_years_12 rfl ?_
        refine w_get C 30 0 (Nat.le_of_ble_eq_true rfl) rfl rfl inB_X9 (by decide) tw1_191 rfl dX10_years_15 rfl ?_
        refine w_iload_n C dX10_years_18 rfl 1 rfl ?_
        refine w_iadd C dX10_years_19 rfl ?_
        refine w_sipush C 999 dX10_years_20 rfl (by decide) ?_
        refine w_icmp_le C (qt := 32) dX10_years_23 (by decide) rfl h (fun _ h => ?_) (fun _ h => ?_)
        · refine w_aload_n C dX10_years_32 rfl 0 rfl ?_
          refine w_get C 0 7 (Nat.le_of_ble_eq_true rfl) rfl rfl inB_X10 (by decide) tw2_179 rfl dX10_years_33 rfl ?_
          refine w_dup C rfl dX10_years_36 rfl ?_
          refine w_get C 30 0 (Nat.le_of_ble_eq_true rfl) rfl rfl inB_X9 (by decide) tw1_191 rfl dX10_years_37 rfl ?_
          refine w_iload_n C dX10_years_40 rfl 1 rfl ?_
          refine w_iadd C dX10_years_41 rfl ?_
          refine w_put C 30 0 ((σ 30 0) + a0) (Nat.le_of_ble_eq_true rfl) rfl rfl inB_X9 tyX9_ok nmX9 (by decide) tw1_191 rfl rfl rfl (Nat.le_of_ble_eq_true rfl) rfl dX10_years_42 rfl ?_
          refine w_nst h (fun u7 h => ?_)
          refine w_aload_n C dX10_years_45 rfl 0 rfl ?_
          refine w_get C 0 7 (Nat.le_of_ble_eq_true rfl) rfl rfl inB_X10 (by decide) tw2_179 rfl dX10_years_46 rfl ?_
          refine w_iconst C 0 dX10_years_49 rfl (by decide) ?_
          refine w_iload_n C dX10_years_50 rfl 1 rfl ?_
          refine w_iconst C 0 dX10_years_51 rfl (by decide) ?_
          refine w_iconst C 0 dX10_years_52 rfl (by decide) ?_
          refine bd1_w h (fun u8 hc h => ?_)
          refine w_callVv C (n := 4) (As := [.int 0, .int a0, .int 0, .int 0]) (st := []) 30 (Nat.le_of_ble_eq_true rfl) rfl rfl (cfX9_note D cI ad (l := X.2.1) C.2.2.1 hc) tw2_238 cy_X9_note (by decide +kernel) ⟨Nat.le_of_ble_eq_true rfl, Nat.le_of_ble_eq_true rfl⟩ (by decide) rfl rfl (Nat.le_of_ble_eq_true rfl) dX10_years_53 rfl ?_
          refine w_aload_n C dX10_years_56 rfl 0 rfl ?_
          refine w_get C 0 7 (Nat.le_of_ble_eq_true rfl) rfl rfl inB_X10 (by decide) tw2_179 rfl dX10_years_57 rfl ?_
          refine w_get C 30 0 (Nat.le_of_ble_eq_true rfl) rfl rfl inB_X9 (by decide) tw1_191 rfl dX10_years_60 rfl ?_
          exact w_ri2 hr h (by decide) dX10_years_63
        · exact w_sub (lv' := [(0, .ref (ad 0))]) [0] rfl (hJ3 (()) h)
theorem cfX10_years (D : va_G) (cI : ClassId) (ad : Nat → Nat) {l : Launch} (had : gAp (gC D cI ad)) {F : Nat} {σ : St} {a0 : Int32} {r : Int32} {σ' : St} (h : fX10_years F σ a0 = some (r, σ')) : MI l yX10_years (wB yX10_years cX10_years 2 (some .int)) 2 65 (gC D cI ad) [.ref (ad 0), .int a0] σ r σ' := mk_MI had (by decide +kernel) (Nat.le_of_ble_eq_true rfl) (fun X hX C hr => wfX10_years C hr h)

def fX9_renew (F : Nat) (σ : St) (a0 : Int32) : Option St := ckI (a0) 8 (nm (up σ 31 (Int32.toNatClampNeg a0) (σ 30 0)) fun u1 => ckI (a0) 8 (nm (up u1 32 (Int32.toNatClampNeg a0) 0) fun u2 => some u2))
set_option maxRecDepth 20000 in
theorem wfX9_renew {X : XT} {D : va_G} {cI : ClassId} {ad : Nat → Nat} {F : Nat} {σ : St} {a0 : Int32} {σ' : St} (C : Cx X (gC D cI ad) cX9_renew 2 RX9 0 0 0) (hr : RetV X (gC D cI ad) cX9_renew 2 0 σ') (h : fX9_renew F σ a0 = some σ') : WP X (gC D cI ad) 2 0 0 σ [(0, .ref (ad 30)), (1, .int a0)] [] := by
  unfold fX9_renew at h
  refine w_aload_n C dX9_renew_0 rfl 0 rfl ?_
  refine w_get C 30 3 (Nat.le_of_ble_eq_true rfl) rfl rfl inB_X9 (by decide) tw1_197 rfl dX9_renew_1 rfl ?_
  refine w_iload_n C dX9_renew_4 rfl 1 rfl ?_
  refine w_aload_n C dX9_renew_5 rfl 0 rfl ?_
  refine w_get C 30 0 (Nat.le_of_ble_eq_true rfl) rfl rfl inB_X9 (by decide) tw1_189 rfl dX9_renew_6 rfl ?_
  refine w_iast C 31 8 0 (Nat.le_of_ble_eq_true rfl) (fun _ => rfl) rfl h dX9_renew_9 rfl (fun h => ?_)
  refine w_nst h (fun u1 h => ?_)
  refine w_aload_n C dX9_renew_10 rfl 0 rfl ?_
  refine w_get C 30 4 (Nat.le_of_ble_eq_true rfl) rfl rfl inB_X9 (by decide) tw1_199 rfl dX9_renew_11 rfl ?_
  refine w_iload_n C dX9_renew_14 rfl 1 rfl ?_
  refine w_iconst C 0 dX9_renew_15 rfl (by decide) ?_
  refine w_iast C 32 8 0 (Nat.le_of_ble_eq_true rfl) (fun _ => rfl) rfl h dX9_renew_16 rfl (fun h => ?_)
  refine w_nst h (fun u2 h => ?_)
  exact w_rv hr h (by decide) dX9_renew_17
theorem cfX9_renew (D : va_G) (cI : ClassId) (ad : Nat → Nat) {l : Launch} (had : gAp (gC D cI ad)) {F : Nat} {σ : St} {a0 : Int32} {σ' : St} (h : fX9_renew F σ a0 = some σ') : MV l yX9_renew (wB yX9_renew cX9_renew 2 none) 0 0 (gC D cI ad) [.ref (ad 30), .int a0] σ σ' := mk_MV had (by decide +kernel) (Nat.le_of_ble_eq_true rfl) (fun X hX C hr => wfX9_renew C hr h)

def fX10_again (F : Nat) (σ : St) (a0 : Int32) : Option (Nat × Int32 × St) := bd1 (fX10_checkDance F σ a0) fun t1 => if t1 = 0 then (bd1 (fX9_since F σ a0) fun r2 => ckI (a0) 8 (ckI (a0) 8 (bd1 (fX9_note F σ 1 a0 (σ 32 (Int32.toNatClampNeg a0)) (σ 31 (Int32.toNatClampNeg a0))) fun u3 => bd1 (fX9_renew F u3 a0) fun u4 => some (0, r2, u4)))) else some (t1, 0, σ)
set_option maxRecDepth 20000 in
theorem wfX10_again {X : XT} {D : va_G} {cI : ClassId} {ad : Nat → Nat} {F : Nat} {σ : St} {a0 : Int32} {res : Nat × Int32 × St} (C : Cx X (gC D cI ad) cX10_again 3 RX10 8 131 1) (hr : RetXi X (gC D cI ad) cX10_again 3 1 res) (hx : ThrX X (gC D cI ad) cX10_again 3 1 res) (h : fX10_again F σ a0 = some res) : WP X (gC D cI ad) 3 0 0 σ [(0, .ref (ad 0)), (1, .int a0)] [] := by
  unfold fX10_again at h
  refine w_aload_n C dX10_again_0 rfl 0 rfl ?_
  refine w_iload_n C dX10_again_1 rfl 1 rfl ?_
  refine bd1_w h (fun t1 hc h => ?_)
  refine w_callX C hx (n := 1) (As := [.int a0]) (st := []) 0 (Nat.le_of_ble_eq_true rfl) rfl rfl (cfX10_checkDance D cI ad (l := X.2.1) C.2.2.1 hx.1 hc) tw5_12 cy_X10_checkDance (by decide +kernel) ⟨by decide, by decide⟩ (by decide) rfl rfl (Nat.le_of_ble_eq_true rfl) dX10_again_2 rfl h (fun h => ?_)
  refine w_aload_n C dX10_again_5 rfl 0 rfl ?_
  refine w_get C 0 7 (Nat.le_of_ble_eq_true rfl) rfl rfl inB_X10 (by decide) tw2_179 rfl dX10_again_6 rfl ?_
  refine w_iload_n C dX10_again_9 rfl 1 rfl ?_
  refine bd1_w h (fun r2 hc h => ?_)
  refine w_callVi C (n := 1) (As := [.int a0]) (st := []) 30 (Nat.le_of_ble_eq_true rfl) rfl rfl (cfX9_since D cI ad (l := X.2.1) C.2.2.1 hc) tw5_18 cy_X9_since (by decide +kernel) ⟨Nat.le_of_ble_eq_true rfl, Nat.le_of_ble_eq_true rfl⟩ (by decide) rfl rfl (Nat.le_of_ble_eq_true rfl) dX10_again_10 rfl ?_
  refine w_istore_n C [(2, .int r2), (0, .ref (ad 0)), (1, .int a0)] dX10_again_13 rfl (by decide) rfl ?_
  refine w_aload_n C dX10_again_14 rfl 1 rfl ?_
  refine w_get C 0 7 (Nat.le_of_ble_eq_true rfl) rfl rfl inB_X10 (by decide) tw2_179 rfl dX10_again_15 rfl ?_
  refine w_iconst C 1 dX10_again_18 rfl (by decide) ?_
  refine w_iload_n C dX10_again_19 rfl 2 rfl ?_
  refine w_aload_n C dX10_again_20 rfl 1 rfl ?_
  refine w_get C 0 7 (Nat.le_of_ble_eq_true rfl) rfl rfl inB_X10 (by decide) tw2_179 rfl dX10_again_21 rfl ?_
  refine w_get C 30 4 (Nat.le_of_ble_eq_true rfl) rfl rfl inB_X9 (by decide) tw1_202 rfl dX10_again_24 rfl ?_
  refine w_iload_n C dX10_again_27 rfl 2 rfl ?_
  refine w_iald C 32 8 0 (Nat.le_of_ble_eq_true rfl) (fun _ => rfl) rfl h dX10_again_28 rfl (fun h => ?_)
  refine w_aload_n C dX10_again_29 rfl 1 rfl ?_
  refine w_get C 0 7 (Nat.le_of_ble_eq_true rfl) rfl rfl inB_X10 (by decide) tw2_179 rfl dX10_again_30 rfl ?_
  refine w_get C 30 3 (Nat.le_of_ble_eq_true rfl) rfl rfl inB_X9 (by decide) tw1_198 rfl dX10_again_33 rfl ?_
  refine w_iload_n C dX10_again_36 rfl 2 rfl ?_
  refine w_iald C 31 8 0 (Nat.le_of_ble_eq_true rfl) (fun _ => rfl) rfl h dX10_again_37 rfl (fun h => ?_)
  refine bd1_w h (fun u3 hc h => ?_)
  refine w_callVv C (n := 4) (As := [.int 1, .int a0, .int (σ 32 (Int32.toNatClampNeg a0)), .int (σ 31 (Int32.toNatClampNeg a0))]) (st := []) 30 (Nat.le_of_ble_eq_true rfl) rfl rfl (cfX9_note D cI ad (l := X.2.1) C.2.2.1 hc) tw2_238 cy_X9_note (by decide +kernel) ⟨Nat.le_of_ble_eq_true rfl, Nat.le_of_ble_eq_true rfl⟩ (by decide) rfl rfl (Nat.le_of_ble_eq_true rfl) dX10_again_38 rfl ?_
  refine w_aload_n C dX10_again_41 rfl 1 rfl ?_
  refine w_get C 0 7 (Nat.le_of_ble_eq_true rfl) rfl rfl inB_X10 (by decide) tw2_179 rfl dX10_again_42 rfl ?_
  refine w_iload_n C dX10_again_45 rfl 2 rfl ?_
  refine bd1_w h (fun u4 hc h => ?_)
  refine w_callVv C (n := 1) (As := [.int a0]) (st := []) 30 (Nat.le_of_ble_eq_true rfl) rfl rfl (cfX9_renew D cI ad (l := X.2.1) C.2.2.1 hc) tw5_97 cy_X9_renew (by decide +kernel) ⟨Nat.le_of_ble_eq_true rfl, Nat.le_of_ble_eq_true rfl⟩ (by decide) rfl rfl (Nat.le_of_ble_eq_true rfl) dX10_again_46 rfl ?_
  refine w_iload_n C dX10_again_49 rfl 0 rfl ?_
  exact w_rxi hr h (by decide) dX10_again_50
theorem cfX10_again (D : va_G) (cI : ClassId) (ad : Nat → Nat) {l : Launch} (had : gAp (gC D cI ad)) (hst : l.stackTraces = false) {F : Nat} {σ : St} {a0 : Int32} {res : Nat × Int32 × St} (h : fX10_again F σ a0 = some res) : MX l yX10_again (wB yX10_again cX10_again 3 (some .int)) 8 131 1 (gC D cI ad) [.ref (ad 0), .int a0] σ res := mk_MX had (by decide +kernel) (Nat.le_of_ble_eq_true rfl) hst rfl (by decide) (by decide) (fun X hX C hr hx => wfX10_again C hr hx h)

def fX10_breaks (F : Nat) (σ : St) (a0 : Int32) : Option (Nat × Int32 × St) := bd1 (fX10_checkDance F σ a0) fun t1 => if t1 = 0 then (ckI (a0) 8 (if (σ 32 (Int32.toNatClampNeg a0)) = 0 then (ckI (a0) 8 (nm (up σ 32 (Int32.toNatClampNeg a0) 1) fun u2 => bd1 (fX9_note F u2 2 a0 0 0) fun u3 => some (0, 1, u3))) else bd2 (fX10_refuse F σ 1) fun r4 u5 => some (0, 0, u5))) else some (t1, 0, σ)
set_option maxRecDepth 20000 in
theorem wfX10_breaks {X : XT} {D : va_G} {cI : ClassId} {ad : Nat → Nat} {F : Nat} {σ : St} {a0 : Int32} {res : Nat × Int32 × St} (C : Cx X (gC D cI ad) cX10_breaks 2 RX10 8 131 1) (hr : RetXz X (gC D cI ad) cX10_breaks 2 1 res) (hx : ThrX X (gC D cI ad) cX10_breaks 2 1 res) (h : fX10_breaks F σ a0 = some res) : WP X (gC D cI ad) 2 0 0 σ [(0, .ref (ad 0)), (1, .int a0)] [] := by
  unfold fX10_breaks at h
  refine w_aload_n C dX10_breaks_0 rfl 0 rfl ?_
  refine w_iload_n C dX10_breaks_1 rfl 1 rfl ?_
  refine bd1_w h (fun t1 hc h => ?_)
  refine w_callX C hx (n := 1) (As := [.int a0]) (st := []) 0 (Nat.le_of_ble_eq_true rfl) rfl rfl (cfX10_checkDance D cI ad (l := X.2.1) C.2.2.1 hx.1 hc) tw5_12 cy_X10_checkDance (by decide +kernel) ⟨by decide, by decide⟩ (by decide) rfl rfl (Nat.le_of_ble_eq_true rfl) dX10_breaks_2 rfl h (fun h => ?_)
  refine w_aload_n C dX10_breaks_5 rfl 0 rfl ?_
  refine w_get C 0 7 (Nat.le_of_ble_eq_true rfl) rfl rfl inB_X10 (by decide) tw2_179 rfl dX10_breaks_6 rfl ?_
  refine w_get C 30 4 (Nat.le_of_ble_eq_true rfl) rfl rfl inB_X9 (by decide) tw1_202 rfl dX10_breaks_9 rfl ?_
  refine w_iload_n C dX10_breaks_12 rfl 1 rfl ?_
  refine w_iald C 32 8 0 (Nat.le_of_ble_eq_true rfl) (fun _ => rfl) rfl h dX10_breaks_13 rfl (fun h => ?_)
  refine w_if_eq C (qt := 25) dX10_breaks_14 (by decide) rfl h (fun _ h => ?_) (fun _ h => ?_)
  · refine w_aload_n C dX10_breaks_25 rfl 0 rfl ?_
    refine w_get C 0 7 (Nat.le_of_ble_eq_true rfl) rfl rfl inB_X10 (by decide) tw2_179 rfl dX10_breaks_26 rfl ?_
    refine w_get C 30 4 (Nat.le_of_ble_eq_true rfl) rfl rfl inB_X9 (by decide) tw1_202 rfl dX10_breaks_29 rfl ?_
    refine w_iload_n C dX10_breaks_32 rfl 1 rfl ?_
    refine w_iconst C 1 dX10_breaks_33 rfl (by decide) ?_
    refine w_iast C 32 8 0 (Nat.le_of_ble_eq_true rfl) (fun _ => rfl) rfl h dX10_breaks_34 rfl (fun h => ?_)
    refine w_nst h (fun u2 h => ?_)
    refine w_aload_n C dX10_breaks_35 rfl 0 rfl ?_
    refine w_get C 0 7 (Nat.le_of_ble_eq_true rfl) rfl rfl inB_X10 (by decide) tw2_179 rfl dX10_breaks_36 rfl ?_
    refine w_iconst C 2 dX10_breaks_39 rfl (by decide) ?_
    refine w_iload_n C dX10_breaks_40 rfl 1 rfl ?_
    refine w_iconst C 0 dX10_breaks_41 rfl (by decide) ?_
    refine w_iconst C 0 dX10_breaks_42 rfl (by decide) ?_
    refine bd1_w h (fun u3 hc h => ?_)
    refine w_callVv C (n := 4) (As := [.int 2, .int a0, .int 0, .int 0]) (st := []) 30 (Nat.le_of_ble_eq_true rfl) rfl rfl (cfX9_note D cI ad (l := X.2.1) C.2.2.1 hc) tw2_238 cy_X9_note (by decide +kernel) ⟨Nat.le_of_ble_eq_true rfl, Nat.le_of_ble_eq_true rfl⟩ (by decide) rfl rfl (Nat.le_of_ble_eq_true rfl) dX10_breaks_43 rfl ?_
    refine w_iconst C 1 dX10_breaks_46 rfl (by decide) ?_
    exact w_rxz hr (by decide) h (by decide) dX10_breaks_47
  · refine w_aload_n C dX10_breaks_17 rfl 0 rfl ?_
    refine w_iconst C 1 dX10_breaks_18 rfl (by decide) ?_
    refine bd2_w h (fun r4 u5 hc h => ?_)
    refine w_callVi C (n := 1) (As := [.int 1]) (st := []) 0 (Nat.le_of_ble_eq_true rfl) rfl rfl (cfX10_refuse D cI ad (l := X.2.1) C.2.2.1 hc) tw2_234 cy_X10_refuse (by decide +kernel) ⟨Nat.le_of_ble_eq_true rfl, Nat.le_of_ble_eq_true rfl⟩ (by decide) rfl rfl (Nat.le_of_ble_eq_true rfl) dX10_breaks_19 rfl ?_
    refine w_pop C rfl dX10_breaks_22 rfl ?_
    refine w_iconst C 0 dX10_breaks_23 rfl (by decide) ?_
    exact w_rxz hr (by decide) h (by decide) dX10_breaks_24
theorem cfX10_breaks (D : va_G) (cI : ClassId) (ad : Nat → Nat) {l : Launch} (had : gAp (gC D cI ad)) (hst : l.stackTraces = false) {F : Nat} {σ : St} {a0 : Int32} {res : Nat × Int32 × St} (h : fX10_breaks F σ a0 = some res) : MX l yX10_breaks (wB yX10_breaks cX10_breaks 2 (some .boolean)) 8 131 1 (gC D cI ad) [.ref (ad 0), .int a0] σ res := mk_MXz had (by decide +kernel) (Nat.le_of_ble_eq_true rfl) hst rfl (by decide) (by decide) (fun X hX C hr hx => wfX10_breaks C hr hx h)

def fX0_changes (F : Nat) (σ : St) (a0 : Int32) (a1 : Int32) : Option Int32 := bd1 (fX10_placeOf F σ a0 a1) fun r1 => ckI (r1) 80 (nm (σ 8 (Int32.toNatClampNeg r1)) fun x2 => if x2 = (3 : Int32) then (some 0) else if x2 = (4 : Int32) then (some 0) else some 1)
set_option maxRecDepth 20000 in
theorem wfX0_changes {X : XT} {D : va_G} {cI : ClassId} {ad : Nat → Nat} {F : Nat} {σ : St} {a0 : Int32} {a1 : Int32} {r : Int32} (C : Cx X (gC D cI ad) cX0_changes 4 RX0 1 21 0) (hr : RetZ X (gC D cI ad) cX0_changes 4 0 r σ) (h : fX0_changes F σ a0 a1 = some r) : WP X (gC D cI ad) 4 0 0 σ [(0, .ref (ad 2)), (1, .int a0), (2, .int a1)] [] := by
  unfold fX0_changes at h
  refine w_aload_n C dX0_changes_0 rfl 0 rfl ?_
  refine w_get C 2 10 (Nat.le_of_ble_eq_true rfl) rfl rfl inB_X0 (by decide) tw1_100 rfl dX0_changes_1 rfl ?_
  refine w_iload_n C dX0_changes_4 rfl 1 rfl ?_
  refine w_iload_n C dX0_changes_5 rfl 2 rfl ?_
  refine bd1_w h (fun r1 hc h => ?_)
  refine w_callNi C (n := 2) (As := [.int a0, .int a1]) (st := [.ref (ad 8)]) (host := RX10) (cfX10_placeOf D cI ad (l := X.2.1) C.2.2.1 hc) (by decide +kernel) cs_X10_placeOf (by decide +kernel) ⟨Nat.le_of_ble_eq_true rfl, Nat.le_of_ble_eq_true rfl⟩ (by decide) rfl rfl (Nat.le_of_ble_eq_true rfl) dX0_changes_6 rfl ?_
  refine w_iald C 8 80 0 (Nat.le_of_ble_eq_true rfl) (fun _ => rfl) rfl h dX0_changes_9 rfl (fun h => ?_)
  refine w_nm h (fun x2 h => ?_)
  refine w_istore_n C [(3, .int x2), (0, .ref (ad 2)), (1, .int a0), (2, .int a1)] dX0_changes_10 rfl (by decide) rfl ?_
  refine w_iload_n C dX0_changes_11 rfl 0 rfl ?_
  refine w_iconst C 3 dX0_changes_12 rfl (by decide) ?_
  refine w_icmp_eq C (qt := 25) dX0_changes_13 (by decide) rfl h (fun _ h => ?_) (fun _ h => ?_)
  · refine w_iconst C 0 dX0_changes_25 rfl (by decide) ?_
    exact w_rz1 hr (by decide) h (by decide) dX0_changes_26
  · refine w_iload_n C dX0_changes_16 rfl 0 rfl ?_
    refine w_iconst C 4 dX0_changes_17 rfl (by decide) ?_
    refine w_icmp_eq C (qt := 25) dX0_changes_18 (by decide) rfl h (fun _ h => ?_) (fun _ h => ?_)
    · refine w_iconst C 0 dX0_changes_25 rfl (by decide) ?_
      exact w_rz1 hr (by decide) h (by decide) dX0_changes_26
    · refine w_iconst C 1 dX0_changes_21 rfl (by decide) ?_
      refine w_goto (q := 26) C dX0_changes_22 (by decide) ?_
      exact w_rz1 hr (by decide) h (by decide) dX0_changes_26
theorem cfX0_changes (D : va_G) (cI : ClassId) (ad : Nat → Nat) {l : Launch} (had : gAp (gC D cI ad)) {F : Nat} {σ : St} {a0 : Int32} {a1 : Int32} {r : Int32} (h : fX0_changes F σ a0 a1 = some r) : MI l yX0_changes (wB yX0_changes cX0_changes 4 (some .boolean)) 1 21 (gC D cI ad) [.ref (ad 2), .int a0, .int a1] σ r σ := mk_MZ had (by decide +kernel) (Nat.le_of_ble_eq_true rfl) (fun X hX C hr => wfX0_changes C hr h)

def fX10_stumble (F : Nat) (σ : St) (a0 : Int32) (a1 : Int32) (a2 : Int32) : Option (Nat × Int32 × St) := bd1 (fX10_checkStep F σ a0 a1) fun t1 => if t1 = 0 then (jn (fun v2 : Unit => bd2 (fX10_refuse F σ 1) fun r5 u6 => some (0, r5, u6)) fun J3 => if a2 < 0 then (J3 (())) else if (9 : Int32) < a2 then (J3 (())) else bd1 (fX0_changes F σ a0 a1) fun r7 => if r7 = 0 then (J3 (())) else bd1 (fX10_placeOf F σ a0 a1) fun r8 => ckI (r8) 80 (nm (σ 33 (Int32.toNatClampNeg r8)) fun x9 => ckI (r8) 80 (nm (up σ 33 (Int32.toNatClampNeg r8) a2) fun u10 => bd1 (fX9_note F u10 3 a0 a1 x9) fun u11 => some (0, x9, u11)))) else some (t1, 0, σ)
set_option maxRecDepth 20000 in
theorem wfX10_stumble {X : XT} {D : va_G} {cI : ClassId} {ad : Nat → Nat} {F : Nat} {σ : St} {a0 : Int32} {a1 : Int32} {a2 : Int32} {res : Nat × Int32 × St} (C : Cx X (gC D cI ad) cX10_stumble 6 RX10 9 153 2) (hr : RetXi X (gC D cI ad) cX10_stumble 6 2 res) (hx : ThrX X (gC D cI ad) cX10_stumble 6 2 res) (h : fX10_stumble F σ a0 a1 a2 = some res) : WP X (gC D cI ad) 6 0 0 σ [(0, .ref (ad 0)), (1, .int a0), (2, .int a1), (3, .int a2)] [] := by
  unfold fX10_stumble at h
  refine w_aload_n C dX10_stumble_0 rfl 0 rfl ?_
  refine w_iload_n C dX10_stumble_1 rfl 1 rfl ?_
  refine w_iload_n C dX10_stumble_2 rfl 2 rfl ?_
  refine bd1_w h (fun t1 hc h => ?_)
  refine w_callX C hx (n := 2) (As := [.int a0, .int a1]) (st := []) 0 (Nat.le_of_ble_eq_true rfl) rfl rfl (cfX10_checkStep D cI ad (l := X.2.1) C.2.2.1 hx.1 hc) tw5_37 cy_X10_checkStep (by decide +kernel) ⟨by decide, by decide⟩ (by decide) rfl rfl (Nat.le_of_ble_eq_true rfl) dX10_stumble_3 rfl h (fun h => ?_)
  refine w_iload_n C dX10_stumble_6 rfl 3 rfl ?_
  refine jn_w (fun v2 : Unit => WP X (gC D cI ad) 6 2 28 σ [(0, .ref (ad 0))] []) h (fun v2 h => ?_) (fun J3 hJ4 h => ?_)
  · refine w_aload_n C dX10_stumble_28 rfl 0 rfl ?_
    refine w_iconst C 1 dX10_stumble_29 rfl (by decide) ?_
    refine bd2_w h (fun r5 u6 hc h => ?_)
    refine w_callVi C (n := 1) (As := [.int 1]) (st := []) 0 (Nat.le_of_ble_eq_true rfl) rfl rfl (cfX10_refuse D cI ad (l := X.2.1) C.2.2.1 hc) tw2_234 cy_X10_refuse (by decide +kernel) ⟨Nat.le_of_ble_eq_true rfl, Nat.le_of_ble_eq_true rfl⟩ (by decide) rfl rfl (Nat.le_of_ble_eq_true rfl) dX10_stumble_30 rfl ?_
    exact w_rxi hr h (by decide) dX10_stumble_33
  · refine w_if_lt C (qt := 28) dX10_stumble_7 (by decide) rfl h (fun _ h => ?_) (fun _ h => ?_)
    · exact w_sub (lv' := [(0, .ref (ad 0))]) [0] rfl (hJ4 (()) h)
    · refine w_iload_n C dX10_stumble_10 rfl 3 rfl ?_
      refine w_bipush C 9 dX10_stumble_11 rfl (by decide) ?_
      refine w_icmp_gt C (qt := 28) dX10_stumble_13 (by decide) rfl h (fun _ h => ?_) (fun _ h => ?_)
      · exact w_sub (lv' := [(0, .ref (ad 0))]) [0] rfl (hJ4 (()) h)
      · refine w_aload_n C dX10_stumble_16 rfl 0 rfl ?_
        refine w_get C 0 4 (Nat.le_of_ble_eq_true rfl) rfl rfl inB_X10 (by decide) tw2_176 rfl dX10_stumble_17 rfl ?_
        refine w_iload_n C dX10_stumble_20 rfl 1 rfl ?_
        refine w_iload_n C dX10_stumble_21 rfl 2 rfl ?_
        refine bd1_w h (fun r7 hc h => ?_)
        refine w_callVi C (n := 2) (As := [.int a0, .int a1]) (st := []) 2 (Nat.le_of_ble_eq_true rfl) rfl rfl (cfX0_changes D cI ad (l := X.2.1) C.2.2.1 hc) tw5_115 cy_X0_changes (by decide +kernel) ⟨Nat.le_of_ble_eq_true rfl, Nat.le_of_ble_eq_true rfl⟩ (by decide) rfl rfl (Nat.le_of_ble_eq_true rfl) dX10_stumble_22 rfl ?_
        refine w_if_ne C (qt := 34) dX10_stumble_25 (by decide) rfl h (fun _ h => ?_) (fun _ h => ?_)
        · refine w_iload_n C dX10_stumble_34 rfl 1 rfl ?_
          refine w_iload_n C dX10_stumble_35 rfl 2 rfl ?_
          refine bd1_w h (fun r8 hc h => ?_)
          refine w_callSi C (n := 2) (As := [.int a0, .int a1]) (st := []) (cfX10_placeOf D cI ad (l := X.2.1) C.2.2.1 hc) tw5_42 cs_X10_placeOf (by decide +kernel) ⟨Nat.le_of_ble_eq_true rfl, Nat.le_of_ble_eq_true rfl⟩ (by decide) rfl rfl (Nat.le_of_ble_eq_true rfl) dX10_stumble_36 rfl ?_
          refine w_istore C [(4, .int r8), (0, .ref (ad 0)), (1, .int a0), (2, .int a1), (3, .int a2)] dX10_stumble_39 rfl (by decide) rfl ?_
          refine w_aload_n C dX10_stumble_41 rfl 1 rfl ?_
          refine w_get C 0 7 (Nat.le_of_ble_eq_true rfl) rfl rfl inB_X10 (by decide) tw2_179 rfl dX10_stumble_42 rfl ?_
          refine w_get C 30 5 (Nat.le_of_ble_eq_true rfl) rfl rfl inB_X9 (by decide) tw1_206 rfl dX10_stumble_45 rfl ?_
          refine w_iload C dX10_stumble_48 rfl 0 rfl ?_
          refine w_iald C 33 80 0 (Nat.le_of_ble_eq_true rfl) (fun _ => rfl) rfl h dX10_stumble_50 rfl (fun h => ?_)
          refine w_nm h (fun x9 h => ?_)
          refine w_istore C [(5, .int x9), (4, .int r8), (0, .ref (ad 0)), (1, .int a0), (2, .int a1), (3, .int a2)] dX10_stumble_51 rfl (by decide) rfl ?_
          refine w_aload_n C dX10_stumble_53 rfl 2 rfl ?_
          refine w_get C 0 7 (Nat.le_of_ble_eq_true rfl) rfl rfl inB_X10 (by decide) tw2_179 rfl dX10_stumble_54 rfl ?_
          refine w_get C 30 5 (Nat.le_of_ble_eq_true rfl) rfl rfl inB_X9 (by decide) tw1_206 rfl dX10_stumble_57 rfl ?_
          refine w_iload C dX10_stumble_60 rfl 1 rfl ?_
          refine w_iload_n C dX10_stumble_62 rfl 5 rfl ?_
          refine w_iast C 33 80 0 (Nat.le_of_ble_eq_true rfl) (fun _ => rfl) rfl h dX10_stumble_63 rfl (fun h => ?_)
          refine w_nst h (fun u10 h => ?_)
          refine w_aload_n C dX10_stumble_64 rfl 2 rfl ?_
          refine w_get C 0 7 (Nat.le_of_ble_eq_true rfl) rfl rfl inB_X10 (by decide) tw2_179 rfl dX10_stumble_65 rfl ?_
          refine w_iconst C 3 dX10_stumble_68 rfl (by decide) ?_
          refine w_iload_n C dX10_stumble_69 rfl 3 rfl ?_
          refine w_iload_n C dX10_stumble_70 rfl 4 rfl ?_
          refine w_iload C dX10_stumble_71 rfl 0 rfl ?_
          refine bd1_w h (fun u11 hc h => ?_)
          refine w_callVv C (n := 4) (As := [.int 3, .int a0, .int a1, .int x9]) (st := []) 30 (Nat.le_of_ble_eq_true rfl) rfl rfl (cfX9_note D cI ad (l := X.2.1) C.2.2.1 hc) tw2_238 cy_X9_note (by decide +kernel) ⟨Nat.le_of_ble_eq_true rfl, Nat.le_of_ble_eq_true rfl⟩ (by decide) rfl rfl (Nat.le_of_ble_eq_true rfl) dX10_stumble_73 rfl ?_
          refine w_iload C dX10_stumble_76 rfl 0 rfl ?_
          exact w_rxi hr h (by decide) dX10_stumble_78
        · exact w_sub (lv' := [(0, .ref (ad 0))]) [0] rfl (hJ4 (()) h)
theorem cfX10_stumble (D : va_G) (cI : ClassId) (ad : Nat → Nat) {l : Launch} (had : gAp (gC D cI ad)) (hst : l.stackTraces = false) {F : Nat} {σ : St} {a0 : Int32} {a1 : Int32} {a2 : Int32} {res : Nat × Int32 × St} (h : fX10_stumble F σ a0 a1 a2 = some res) : MX l yX10_stumble (wB yX10_stumble cX10_stumble 6 (some .int)) 9 153 2 (gC D cI ad) [.ref (ad 0), .int a0, .int a1, .int a2] σ res := mk_MX had (by decide +kernel) (Nat.le_of_ble_eq_true rfl) hst rfl (by decide) (by decide) (fun X hX C hr hx => wfX10_stumble C hr hx h)

def fX10_act (F : Nat) (σ : St) (a0 : Int32) (a1 : Int32) (a2 : Int32) : Option (Nat × Int32 × St) := bd1 (fX10_checkValley F σ a0) fun t1 => if t1 = 0 then (bd1 (fX10_checkBelow F σ a1 8) fun t2 => if t2 = 0 then (nm ((a0 * 8) + a1) fun x3 => jn (fun v4 : Unit => bd2 (fX10_refuse F σ 1) fun r7 u8 => some (0, r7, u8)) fun J5 => if a2 < (1 : Int32) then (J5 (())) else if (99 : Int32) < a2 then (J5 (())) else ckI (x3) 48 (if ((σ 34 (Int32.toNatClampNeg x3)) + a2) ≤ (9999 : Int32) then (ckI (x3) 48 (ckI (x3) 48 (nm (up σ 34 (Int32.toNatClampNeg x3) ((σ 34 (Int32.toNatClampNeg x3)) + a2)) fun u9 => bd1 (fX9_note F u9 4 x3 a2 0) fun u10 => ckI (x3) 48 (some (0, u10 34 (Int32.toNatClampNeg x3), u10))))) else J5 (()))) else some (t2, 0, σ)) else some (t1, 0, σ)
set_option maxRecDepth 20000 in
theorem wfX10_act {X : XT} {D : va_G} {cI : ClassId} {ad : Nat → Nat} {F : Nat} {σ : St} {a0 : Int32} {a1 : Int32} {a2 : Int32} {res : Nat × Int32 × St} (C : Cx X (gC D cI ad) cX10_act 5 RX10 8 132 2) (hr : RetXi X (gC D cI ad) cX10_act 5 2 res) (hx : ThrX X (gC D cI ad) cX10_act 5 2 res) (h : fX10_act F σ a0 a1 a2 = some res) : WP X (gC D cI ad) 5 0 0 σ [(0, .ref (ad 0)), (1, .int a0), (2, .int a1), (3, .int a2)] [] := by
  unfold fX10_act at h
  refine w_aload_n C dX10_act_0 rfl 0 rfl ?_
  refine w_iload_n C dX10_act_1 rfl 1 rfl ?_
  refine bd1_w h (fun t1 hc h => ?_)
  refine w_callX C hx (n := 1) (As := [.int a0]) (st := []) 0 (Nat.le_of_ble_eq_true rfl) rfl rfl (cfX10_checkValley D cI ad (l := X.2.1) C.2.2.1 hx.1 hc) tw5_0 cy_X10_checkValley (by decide +kernel) ⟨by decide, by decide⟩ (by decide) rfl rfl (Nat.le_of_ble_eq_true rfl) dX10_act_2 rfl h (fun h => ?_)
  refine w_aload_n C dX10_act_5 rfl 0 rfl ?_
  refine w_iload_n C dX10_act_6 rfl 2 rfl ?_
  refine w_bipush C 8 dX10_act_7 rfl (by decide) ?_
  refine bd1_w h (fun t2 hc h => ?_)
  refine w_callX C hx (n := 2) (As := [.int a1, .int 8]) (st := []) 0 (Nat.le_of_ble_eq_true rfl) rfl rfl (cfX10_checkBelow D cI ad (l := X.2.1) C.2.2.1 hx.1 hc) tw5_51 cy_X10_checkBelow (by decide +kernel) ⟨by decide, by decide⟩ (by decide) rfl rfl (Nat.le_of_ble_eq_true rfl) dX10_act_9 rfl h (fun h => ?_)
  refine w_iload_n C dX10_act_12 rfl 1 rfl ?_
  refine w_bipush C 8 dX10_act_13 rfl (by decide) ?_
  refine w_imul C dX10_act_15 rfl ?_
  refine w_iload_n C dX10_act_16 rfl 2 rfl ?_
  refine w_iadd C dX10_act_17 rfl ?_
  refine w_nm h (fun x3 h => ?_)
  refine w_istore C [(4, .int x3), (0, .ref (ad 0)), (1, .int a0), (2, .int a1), (3, .int a2)] dX10_act_18 rfl (by decide) rfl ?_
  refine w_iload_n C dX10_act_20 rfl 4 rfl ?_
  refine w_iconst C 1 dX10_act_21 rfl (by decide) ?_
  refine jn_w (fun v4 : Unit => WP X (gC D cI ad) 5 2 49 σ [(0, .ref (ad 0))] []) h (fun v4 h => ?_) (fun J5 hJ6 h => ?_)
  · refine w_aload_n C dX10_act_49 rfl 0 rfl ?_
    refine w_iconst C 1 dX10_act_50 rfl (by decide) ?_
    refine bd2_w h (fun r7 u8 hc h => ?_)
    refine w_callVi C (n := 1) (As := [.int 1]) (st := []) 0 (Nat.le_of_ble_eq_true rfl) rfl rfl (cfX10_refuse D cI ad (l := X.2.1) C.2.2.1 hc) tw2_234 cy_X10_refuse (by decide +kernel) ⟨Nat.le_of_ble_eq_true rfl, Nat.le_of_ble_eq_true rfl⟩ (by decide) rfl rfl (Nat.le_of_ble_eq_true rfl) dX10_act_51 rfl ?_
    exact w_rxi hr h (by decide) dX10_act_54
  · refine w_icmp_lt C (qt := 49) dX10_act_22 (by decide) rfl h (fun _ h => ?_) (fun _ h => ?_)
    · exact w_sub (lv' := [(0, .ref (ad 0))]) [1] rfl (hJ6 (()) h)
    · refine w_iload_n C dX10_act_25 rfl 4 rfl ?_
      refine w_bipush C 99 dX10_act_26 rfl (by decide) ?_
      refine w_icmp_gt C (qt := 49) dX10_act_28 (by decide) rfl h (fun _ h => ?_) (fun _ h => ?_)
      · exact w_sub (lv' := [(0, .ref (ad 0))]) [1] rfl (hJ6 (()) h)
      · refine w_aload_n C dX10_act_31 rfl 1 rfl ?_
        refine w_get C 0 7 (Nat.le_of_ble_eq_true rfl) rfl rfl inB_X10 (by decide) tw2_179 rfl dX10_act_32 rfl ?_
        refine w_get C 30 6 (Nat.le_of_ble_eq_true rfl) rfl rfl inB_X9 (by decide) tw1_209 rfl dX10_act_35 rfl ?_
        refine w_iload C dX10_act_38 rfl 0 rfl ?_
        refine w_iald C 34 48 0 (Nat.le_of_ble_eq_true rfl) (fun _ => rfl) rfl h dX10_act_40 rfl (fun h => ?_)
        refine w_iload_n C dX10_act_41 rfl 4 rfl ?_
        refine w_iadd C dX10_act_42 rfl ?_
        refine w_sipush C 9999 dX10_act_43 rfl (by decide) ?_
        refine w_icmp_le C (qt := 55) dX10_act_46 (by decide) rfl h (fun _ h => ?_) (fun _ h => ?_)
        · refine w_aload_n C dX10_act_55 rfl 1 rfl ?_
          refine w_get C 0 7 (Nat.le_of_ble_eq_true rfl) rfl rfl inB_X10 (by decide) tw2_179 rfl dX10_act_56 rfl ?_
          refine w_get C 30 6 (Nat.le_of_ble_eq_true rfl) rfl rfl inB_X9 (by decide) tw1_209 rfl dX10_act_59 rfl ?_
          refine w_iload C dX10_act_62 rfl 0 rfl ?_
          refine w_dup2 C rfl rfl dX10_act_64 rfl ?_
          refine w_iald C 34 48 0 (Nat.le_of_ble_eq_true rfl) (fun _ => rfl) rfl h dX10_act_65 rfl (fun h => ?_)
          refine w_iload_n C dX10_act_66 rfl 4 rfl ?_
          refine w_iadd C dX10_act_67 rfl ?_
          refine w_iast C 34 48 0 (Nat.le_of_ble_eq_true rfl) (fun _ => rfl) rfl h dX10_act_68 rfl (fun h => ?_)
          refine w_nst h (fun u9 h => ?_)
          refine w_aload_n C dX10_act_69 rfl 1 rfl ?_
          refine w_get C 0 7 (Nat.le_of_ble_eq_true rfl) rfl rfl inB_X10 (by decide) tw2_179 rfl dX10_act_70 rfl ?_
          refine w_iconst C 4 dX10_act_73 rfl (by decide) ?_
          refine w_iload C dX10_act_74 rfl 0 rfl ?_
          refine w_iload_n C dX10_act_76 rfl 4 rfl ?_
          refine w_iconst C 0 dX10_act_77 rfl (by decide) ?_
          refine bd1_w h (fun u10 hc h => ?_)
          refine w_callVv C (n := 4) (As := [.int 4, .int x3, .int a2, .int 0]) (st := []) 30 (Nat.le_of_ble_eq_true rfl) rfl rfl (cfX9_note D cI ad (l := X.2.1) C.2.2.1 hc) tw2_238 cy_X9_note (by decide +kernel) ⟨Nat.le_of_ble_eq_true rfl, Nat.le_of_ble_eq_true rfl⟩ (by decide) rfl rfl (Nat.le_of_ble_eq_true rfl) dX10_act_78 rfl ?_
          refine w_aload_n C dX10_act_81 rfl 1 rfl ?_
          refine w_get C 0 7 (Nat.le_of_ble_eq_true rfl) rfl rfl inB_X10 (by decide) tw2_179 rfl dX10_act_82 rfl ?_
          refine w_get C 30 6 (Nat.le_of_ble_eq_true rfl) rfl rfl inB_X9 (by decide) tw1_209 rfl dX10_act_85 rfl ?_
          refine w_iload C dX10_act_88 rfl 0 rfl ?_
          refine w_iald C 34 48 0 (Nat.le_of_ble_eq_true rfl) (fun _ => rfl) rfl h dX10_act_90 rfl (fun h => ?_)
          exact w_rxi hr h (by decide) dX10_act_91
        · exact w_sub (lv' := [(0, .ref (ad 0))]) [1] rfl (hJ6 (()) h)
theorem cfX10_act (D : va_G) (cI : ClassId) (ad : Nat → Nat) {l : Launch} (had : gAp (gC D cI ad)) (hst : l.stackTraces = false) {F : Nat} {σ : St} {a0 : Int32} {a1 : Int32} {a2 : Int32} {res : Nat × Int32 × St} (h : fX10_act F σ a0 a1 a2 = some res) : MX l yX10_act (wB yX10_act cX10_act 5 (some .int)) 8 132 2 (gC D cI ad) [.ref (ad 0), .int a0, .int a1, .int a2] σ res := mk_MX had (by decide +kernel) (Nat.le_of_ble_eq_true rfl) hst rfl (by decide) (by decide) (fun X hX C hr hx => wfX10_act C hr hx h)

def fX9_takeBack (F : Nat) (σ : St) : Option St := if (1 : Int32) ≤ (σ 30 1) then (nm (up σ 30 1 ((σ 30 1) - 1)) fun u2 => nm ((u2 30 1) * 4) fun x3 => ckI (x3 + 1) 160 (nm (u2 35 (Int32.toNatClampNeg (x3 + 1))) fun x4 => ckI (x3 + 2) 160 (nm (u2 35 (Int32.toNatClampNeg (x3 + 2))) fun x5 => ckI (x3 + 3) 160 (nm (u2 35 (Int32.toNatClampNeg (x3 + 3))) fun x6 => ckI (x3) 160 (nm (u2 35 (Int32.toNatClampNeg x3)) fun x7 => if x7 = 0 then (nm (up u2 30 0 ((u2 30 0) - x4)) fun u9 => some u9) else if x7 = 1 then (ckI (x4) 8 (nm (up u2 32 (Int32.toNatClampNeg x4) x5) fun u11 => ckI (x4) 8 (nm (up u11 31 (Int32.toNatClampNeg x4) x6) fun u12 => some u12))) else if x7 = 2 then (ckI (x4) 8 (nm (up u2 32 (Int32.toNatClampNeg x4) 0) fun u14 => some u14)) else if x7 = 3 then (bd1 (fX10_placeOf F u2 x4 x5) fun r16 => ckI (r16) 80 (nm (up u2 33 (Int32.toNatClampNeg r16) x6) fun u17 => some u17)) else ckI (x4) 48 (ckI (x4) 48 (nm (up u2 34 (Int32.toNatClampNeg x4) ((u2 34 (Int32.toNatClampNeg x4)) - x5)) fun u19 => some u19))))))) else some σ
set_option maxRecDepth 20000 in
theorem wfX9_takeBack {X : XT} {D : va_G} {cI : ClassId} {ad : Nat → Nat} {F : Nat} {σ : St}  {σ' : St} (C : Cx X (gC D cI ad) cX9_takeBack 5 RX9 1 21 0) (hr : RetV X (gC D cI ad) cX9_takeBack 5 0 σ') (h : fX9_takeBack F σ = some σ') : WP X (gC D cI ad) 5 0 0 σ [(0, .ref (ad 30))] [] := by
  unfold fX9_takeBack at h
  refine w_aload_n C dX9_takeBack_0 rfl 0 rfl ?_
  refine w_get C 30 1 (Nat.le_of_ble_eq_true rfl) rfl rfl inB_X9 (by decide) tw1_192 rfl dX9_takeBack_1 rfl ?_
  refine w_iconst C 1 dX9_takeBack_4 rfl (by decide) ?_
  refine w_icmp_ge C (qt := 9) dX9_takeBack_5 (by decide) rfl h (fun _ h => ?_) (fun _ h => ?_)
  · refine w_aload_n C dX9_takeBack_9 rfl 0 rfl ?_
    refine w_dup C rfl dX9_takeBack_10 rfl ?_
    refine w_get C 30 1 (Nat.le_of_ble_eq_true rfl) rfl rfl inB_X9 (by decide) tw1_192 rfl dX9_takeBack_11 rfl ?_
    refine w_iconst C 1 dX9_takeBack_14 rfl (by decide) ?_
    refine w_isub C dX9_takeBack_15 rfl ?_
    refine w_put C 30 1 ((σ 30 1) - 1) (Nat.le_of_ble_eq_true rfl) rfl rfl inB_X9 tyX9_ok nmX9 (by decide) tw1_192 rfl rfl rfl (Nat.le_of_ble_eq_true rfl) rfl dX9_takeBack_16 rfl ?_
    refine w_nst h (fun u2 h => ?_)
    refine w_aload_n C dX9_takeBack_19 rfl 0 rfl ?_
    refine w_get C 30 1 (Nat.le_of_ble_eq_true rfl) rfl rfl inB_X9 (by decide) tw1_192 rfl dX9_takeBack_20 rfl ?_
    refine w_iconst C 4 dX9_takeBack_23 rfl (by decide) ?_
    refine w_imul C dX9_takeBack_24 rfl ?_
    refine w_nm h (fun x3 h => ?_)
    refine w_istore_n C [(1, .int x3), (0, .ref (ad 30))] dX9_takeBack_25 rfl (by decide) rfl ?_
    refine w_aload_n C dX9_takeBack_26 rfl 1 rfl ?_
    refine w_get C 30 7 (Nat.le_of_ble_eq_true rfl) rfl rfl inB_X9 (by decide) tw1_210 rfl dX9_takeBack_27 rfl ?_
    refine w_iload_n C dX9_takeBack_30 rfl 0 rfl ?_
    refine w_iconst C 1 dX9_takeBack_31 rfl (by decide) ?_
    refine w_iadd C dX9_takeBack_32 rfl ?_
    refine w_iald C 35 160 0 (Nat.le_of_ble_eq_true rfl) (fun _ => rfl) rfl h dX9_takeBack_33 rfl (fun h => ?_)
    refine w_nm h (fun x4 h => ?_)
    refine w_istore_n C [(2, .int x4), (1, .int x3), (0, .ref (ad 30))] dX9_takeBack_34 rfl (by decide) rfl ?_
    refine w_aload_n C dX9_takeBack_35 rfl 2 rfl ?_
    refine w_get C 30 7 (Nat.le_of_ble_eq_true rfl) rfl rfl inB_X9 (by decide) tw1_210 rfl dX9_takeBack_36 rfl ?_
    refine w_iload_n C dX9_takeBack_39 rfl 1 rfl ?_
    refine w_iconst C 2 dX9_takeBack_40 rfl (by decide) ?_
    refine w_iadd C dX9_takeBack_41 rfl ?_
    refine w_iald C 35 160 0 (Nat.le_of_ble_eq_true rfl) (fun _ => rfl) rfl h dX9_takeBack_42 rfl (fun h => ?_)
    refine w_nm h (fun x5 h => ?_)
    refine w_istore_n C [(3, .int x5), (2, .int x4), (1, .int x3), (0, .ref (ad 30))] dX9_takeBack_43 rfl (by decide) rfl ?_
    refine w_aload_n C dX9_takeBack_44 rfl 3 rfl ?_
    refine w_get C 30 7 (Nat.le_of_ble_eq_true rfl) rfl rfl inB_X9 (by decide) tw1_210 rfl dX9_takeBack_45 rfl ?_
    refine w_iload_n C dX9_takeBack_48 rfl 2 rfl ?_
    refine w_iconst C 3 dX9_takeBack_49 rfl (by decide) ?_
    refine w_iadd C dX9_takeBack_50 rfl ?_
    refine w_iald C 35 160 0 (Nat.le_of_ble_eq_true rfl) (fun _ => rfl) rfl h dX9_takeBack_51 rfl (fun h => ?_)
    refine w_nm h (fun x6 h => ?_)
    refine w_istore C [(4, .int x6), (3, .int x5), (2, .int x4), (1, .int x3), (0, .ref (ad 30))] dX9_takeBack_52 rfl (by decide) rfl ?_
    refine w_aload_n C dX9_takeBack_54 rfl 4 rfl ?_
    refine w_get C 30 7 (Nat.le_of_ble_eq_true rfl) rfl rfl inB_X9 (by decide) tw1_210 rfl dX9_takeBack_55 rfl ?_
    refine w_iload_n C dX9_takeBack_58 rfl 3 rfl ?_
    refine w_iald C 35 160 0 (Nat.le_of_ble_eq_true rfl) (fun _ => rfl) rfl h dX9_takeBack_59 rfl (fun h => ?_)
    refine w_nm h (fun x7 h => ?_)
    refine if_w h (fun e10 h => ?_) (fun e10 h => ?_)
    · refine w_tsIn (q := 92) C 0 e10 dX9_takeBack_60 (by decide) (by decide) rfl (by decide) ?_
      refine w_aload_n C dX9_takeBack_92 rfl 4 rfl ?_
      refine w_dup C rfl dX9_takeBack_93 rfl ?_
      refine w_get C 30 0 (Nat.le_of_ble_eq_true rfl) rfl rfl inB_X9 (by decide) tw1_189 rfl dX9_takeBack_94 rfl ?_
      refine w_iload_n C dX9_takeBack_97 rfl 2 rfl ?_
      refine w_isub C dX9_takeBack_98 rfl ?_
      refine w_put C 30 0 ((u2 30 0) - x4) (Nat.le_of_ble_eq_true rfl) rfl rfl inB_X9 tyX9_ok nmX9 (by decide) tw1_189 rfl rfl rfl (Nat.le_of_ble_eq_true rfl) rfl dX9_takeBack_99 rfl ?_
      refine w_nst h (fun u9 h => ?_)
      refine w_goto (q := 158) C dX9_takeBack_102 (by decide) ?_
      exact w_rv hr h (by decide) dX9_takeBack_158
    refine if_w h (fun e13 h => ?_) (fun e13 h => ?_)
    · refine w_tsIn (q := 105) C 1 e13 dX9_takeBack_60 (by decide) (by decide) rfl (by decide) ?_
      refine w_aload_n C dX9_takeBack_105 rfl 4 rfl ?_
      refine w_get C 30 4 (Nat.le_of_ble_eq_true rfl) rfl rfl inB_X9 (by decide) tw1_199 rfl dX9_takeBack_106 rfl ?_
      refine w_iload_n C dX9_takeBack_109 rfl 2 rfl ?_
      refine w_iload_n C dX9_takeBack_110 rfl 1 rfl ?_
      refine w_iast C 32 8 0 (Nat.le_of_ble_eq_true rfl) (fun _ => rfl) rfl h dX9_takeBack_111 rfl (fun h => ?_)
      refine w_nst h (fun u11 h => ?_)
      refine w_aload_n C dX9_takeBack_112 rfl 4 rfl ?_
      refine w_get C 30 3 (Nat.le_of_ble_eq_true rfl) rfl rfl inB_X9 (by decide) tw1_197 rfl dX9_takeBack_113 rfl ?_
      refine w_iload_n C dX9_takeBack_116 rfl 2 rfl ?_
      refine w_iload C dX9_takeBack_117 rfl 0 rfl ?_
      refine w_iast C 31 8 0 (Nat.le_of_ble_eq_true rfl) (fun _ => rfl) rfl h dX9_takeBack_119 rfl (fun h => ?_)
      refine w_nst h (fun u12 h => ?_)
      refine w_goto (q := 158) C dX9_takeBack_120 (by decide) ?_
      exact w_rv hr h (by decide) dX9_takeBack_158
    refine if_w h (fun e15 h => ?_) (fun e15 h => ?_)
    · refine w_tsIn (q := 123) C 2 e15 dX9_takeBack_60 (by decide) (by decide) rfl (by decide) ?_
      refine w_aload_n C dX9_takeBack_123 rfl 4 rfl ?_
      refine w_get C 30 4 (Nat.le_of_ble_eq_true rfl) rfl rfl inB_X9 (by decide) tw1_199 rfl dX9_takeBack_124 rfl ?_
      refine w_iload_n C dX9_takeBack_127 rfl 2 rfl ?_
      refine w_iconst C 0 dX9_takeBack_128 rfl (by decide) ?_
      refine w_iast C 32 8 0 (Nat.le_of_ble_eq_true rfl) (fun _ => rfl) rfl h dX9_takeBack_129 rfl (fun h => ?_)
      refine w_nst h (fun u14 h => ?_)
      refine w_goto (q := 158) C dX9_takeBack_130 (by decide) ?_
      exact w_rv hr h (by decide) dX9_takeBack_158
    refine if_w h (fun e18 h => ?_) (fun e18 h => ?_)
    · refine w_tsIn (q := 133) C 3 e18 dX9_takeBack_60 (by decide) (by decide) rfl (by decide) ?_
      refine w_aload_n C dX9_takeBack_133 rfl 4 rfl ?_
      refine w_get C 30 5 (Nat.le_of_ble_eq_true rfl) rfl rfl inB_X9 (by decide) tw1_203 rfl dX9_takeBack_134 rfl ?_
      refine w_iload_n C dX9_takeBack_137 rfl 2 rfl ?_
      refine w_iload_n C dX9_takeBack_138 rfl 1 rfl ?_
      refine bd1_w h (fun r16 hc h => ?_)
      refine w_callNi C (n := 2) (As := [.int x4, .int x5]) (st := [.ref (ad 33)]) (host := RX10) (cfX10_placeOf D cI ad (l := X.2.1) C.2.2.1 hc) (by decide +kernel) cs_X10_placeOf (by decide +kernel) ⟨Nat.le_of_ble_eq_true rfl, Nat.le_of_ble_eq_true rfl⟩ (by decide) rfl rfl (Nat.le_of_ble_eq_true rfl) dX9_takeBack_139 rfl ?_
      refine w_iload C dX9_takeBack_142 rfl 0 rfl ?_
      refine w_iast C 33 80 0 (Nat.le_of_ble_eq_true rfl) (fun _ => rfl) rfl h dX9_takeBack_144 rfl (fun h => ?_)
      refine w_nst h (fun u17 h => ?_)
      refine w_goto (q := 158) C dX9_takeBack_145 (by decide) ?_
      exact w_rv hr h (by decide) dX9_takeBack_158
    refine w_tsOut (q := 148) C dX9_takeBack_60 (ts_out (x := x7) (0) 3 (by decide) (fun k hk => by
      have hk : k = 0 ∨ k = 1 ∨ k = 2 ∨ k = 3 := by omega
      rcases hk with rfl | rfl | rfl | rfl
      · exact e10
      · exact e13
      · exact e15
      · exact e18)) (by decide) ?_
    refine w_aload_n C dX9_takeBack_148 rfl 4 rfl ?_
    refine w_get C 30 6 (Nat.le_of_ble_eq_true rfl) rfl rfl inB_X9 (by decide) tw1_207 rfl dX9_takeBack_149 rfl ?_
    refine w_iload_n C dX9_takeBack_152 rfl 2 rfl ?_
    refine w_dup2 C rfl rfl dX9_takeBack_153 rfl ?_
    refine w_iald C 34 48 0 (Nat.le_of_ble_eq_true rfl) (fun _ => rfl) rfl h dX9_takeBack_154 rfl (fun h => ?_)
    refine w_iload_n C dX9_takeBack_155 rfl 1 rfl ?_
    refine w_isub C dX9_takeBack_156 rfl ?_
    refine w_iast C 34 48 0 (Nat.le_of_ble_eq_true rfl) (fun _ => rfl) rfl h dX9_takeBack_157 rfl (fun h => ?_)
    refine w_nst h (fun u19 h => ?_)
    exact w_rv hr h (by decide) dX9_takeBack_158
  · exact w_rv hr h (by decide) dX9_takeBack_8
theorem cfX9_takeBack (D : va_G) (cI : ClassId) (ad : Nat → Nat) {l : Launch} (had : gAp (gC D cI ad)) {F : Nat} {σ : St}  {σ' : St} (h : fX9_takeBack F σ = some σ') : MV l yX9_takeBack (wB yX9_takeBack cX9_takeBack 5 none) 1 21 (gC D cI ad) [.ref (ad 30)] σ σ' := mk_MV had (by decide +kernel) (Nat.le_of_ble_eq_true rfl) (fun X hX C hr => wfX9_takeBack C hr h)

def fX10_undo (F : Nat) (σ : St) : Option (Int32 × St) := if (σ 30 1) = 0 then (some ((-1), σ)) else bd1 (fX9_takeBack F σ) fun u1 => some (u1 30 1, u1)
set_option maxRecDepth 20000 in
theorem wfX10_undo {X : XT} {D : va_G} {cI : ClassId} {ad : Nat → Nat} {F : Nat} {σ : St}  {r : Int32} {σ' : St} (C : Cx X (gC D cI ad) cX10_undo 1 RX10 2 45 0) (hr : RetI X (gC D cI ad) cX10_undo 1 0 r σ') (h : fX10_undo F σ = some (r, σ')) : WP X (gC D cI ad) 1 0 0 σ [(0, .ref (ad 0))] [] := by
  unfold fX10_undo at h
  refine w_aload_n C dX10_undo_0 rfl 0 rfl ?_
  refine w_get C 0 7 (Nat.le_of_ble_eq_true rfl) rfl rfl inB_X10 (by decide) tw2_179 rfl dX10_undo_1 rfl ?_
  refine w_get C 30 1 (Nat.le_of_ble_eq_true rfl) rfl rfl inB_X9 (by decide) tw1_193 rfl dX10_undo_4 rfl ?_
  refine w_if_ne C (qt := 12) dX10_undo_7 (by decide) rfl h (fun _ h => ?_) (fun _ h => ?_)
  · refine w_aload_n C dX10_undo_12 rfl 0 rfl ?_
    refine w_get C 0 7 (Nat.le_of_ble_eq_true rfl) rfl rfl inB_X10 (by decide) tw2_179 rfl dX10_undo_13 rfl ?_
    refine bd1_w h (fun u1 hc h => ?_)
    refine w_callVv C (n := 0) (As := []) (st := []) 30 (Nat.le_of_ble_eq_true rfl) rfl rfl (cfX9_takeBack D cI ad (l := X.2.1) C.2.2.1 hc) tw3_9 cy_X9_takeBack (by decide +kernel) ⟨Nat.le_of_ble_eq_true rfl, Nat.le_of_ble_eq_true rfl⟩ (by decide) rfl rfl (Nat.le_of_ble_eq_true rfl) dX10_undo_16 rfl ?_
    refine w_aload_n C dX10_undo_19 rfl 0 rfl ?_
    refine w_get C 0 7 (Nat.le_of_ble_eq_true rfl) rfl rfl inB_X10 (by decide) tw2_179 rfl dX10_undo_20 rfl ?_
    refine w_get C 30 1 (Nat.le_of_ble_eq_true rfl) rfl rfl inB_X9 (by decide) tw1_193 rfl dX10_undo_23 rfl ?_
    exact w_ri2 hr h (by decide) dX10_undo_26
  · refine w_iconst C (-1) dX10_undo_10 rfl (by decide) ?_
    exact w_ri2 hr h (by decide) dX10_undo_11
theorem cfX10_undo (D : va_G) (cI : ClassId) (ad : Nat → Nat) {l : Launch} (had : gAp (gC D cI ad)) {F : Nat} {σ : St}  {r : Int32} {σ' : St} (h : fX10_undo F σ = some (r, σ')) : MI l yX10_undo (wB yX10_undo cX10_undo 1 (some .int)) 2 45 (gC D cI ad) [.ref (ad 0)] σ r σ' := mk_MI had (by decide +kernel) (Nat.le_of_ble_eq_true rfl) (fun X hX C hr => wfX10_undo C hr h)

def fX5_changes (F : Nat) (σ : St) (a0 : Int32) : Option Int32 := bd1 (fX0_changes F σ (σ 66 3) a0) fun r1 => ckB (r1) (some r1)
set_option maxRecDepth 20000 in
theorem wfX5_changes {X : XT} {D : va_G} {cI : ClassId} {ad : Nat → Nat} {F : Nat} {σ : St} {a0 : Int32} {r : Int32} (C : Cx X (gC D cI ad) cX5_changes 2 RX5 2 44 0) (hr : RetZ X (gC D cI ad) cX5_changes 2 0 r σ) (h : fX5_changes F σ a0 = some r) : WP X (gC D cI ad) 2 0 0 σ [(0, .ref (ad 72)), (1, .int a0)] [] := by
  unfold fX5_changes at h
  refine w_aload_n C dX5_changes_0 rfl 0 rfl ?_
  refine w_get C 72 0 (Nat.le_of_ble_eq_true rfl) rfl rfl inB_X5 (by decide) tw2_74 rfl dX5_changes_1 rfl ?_
  refine w_aload_n C dX5_changes_4 rfl 0 rfl ?_
  refine w_get C 72 1 (Nat.le_of_ble_eq_true rfl) rfl rfl inB_X5 (by decide) tw2_75 rfl dX5_changes_5 rfl ?_
  refine w_get C 66 3 (Nat.le_of_ble_eq_true rfl) rfl rfl inB_X2 (by decide) tw2_46 rfl dX5_changes_8 rfl ?_
  refine w_iload_n C dX5_changes_11 rfl 1 rfl ?_
  refine bd1_w h (fun r1 hc h => ?_)
  refine w_callVi C (n := 2) (As := [.int (σ 66 3), .int a0]) (st := []) 2 (Nat.le_of_ble_eq_true rfl) rfl rfl (cfX0_changes D cI ad (l := X.2.1) C.2.2.1 hc) tw5_141 cy_X0_changes (by decide +kernel) ⟨Nat.le_of_ble_eq_true rfl, Nat.le_of_ble_eq_true rfl⟩ (by decide) rfl rfl (Nat.le_of_ble_eq_true rfl) dX5_changes_12 rfl ?_
  obtain ⟨hz, h⟩ := ckB_w h
  exact w_rz1 hr hz h (by decide) dX5_changes_15
theorem cfX5_changes (D : va_G) (cI : ClassId) (ad : Nat → Nat) {l : Launch} (had : gAp (gC D cI ad)) {F : Nat} {σ : St} {a0 : Int32} {r : Int32} (h : fX5_changes F σ a0 = some r) : MI l yX5_changes (wB yX5_changes cX5_changes 2 (some .boolean)) 2 44 (gC D cI ad) [.ref (ad 72), .int a0] σ r σ := mk_MZ had (by decide +kernel) (Nat.le_of_ble_eq_true rfl) (fun X hX C hr => wfX5_changes C hr h)

def fX5_firstFacing (F : Nat) (σ : St) (a0 : Int32) : Option (Int32 × St) := ckI (a0) 10 (nm (σ 71 (Int32.toNatClampNeg a0)) fun x1 => lp (fun (K3 : (St × Int32 × Int32) → Option (Int32 × St)) (v2 : St × Int32 × Int32) => jn (fun v5 : Unit => ckI (a0) 10 (nm (up v2.1 71 (Int32.toNatClampNeg a0) x1) fun u8 => some (v2.2.2, u8))) fun J6 => if (9 : Int32) < v2.2.1 then (J6 (())) else if v2.2.2 = (-1 : Int32) then (ckI (a0) 10 (nm (up v2.1 71 (Int32.toNatClampNeg a0) v2.2.1) fun u9 => if v2.2.1 = x1 then (K3 ((u9, v2.2.1 + 1, v2.2.2))) else bd2 (fX2_endsFacing F u9) fun r10 u11 => if r10 = 0 then (K3 ((u11, v2.2.1 + 1, v2.2.2))) else nm ((10 * a0) + v2.2.1) fun x12 => K3 ((u11, v2.2.1 + 1, x12)))) else J6 (())) F ((σ, 0, (-1))))
set_option maxRecDepth 20000 in
theorem wfX5_firstFacing {X : XT} {D : va_G} {cI : ClassId} {ad : Nat → Nat} {F : Nat} {σ : St} {a0 : Int32} {r : Int32} {σ' : St} (C : Cx X (gC D cI ad) cX5_firstFacing 5 RX5 4 98 0) (hr : RetI X (gC D cI ad) cX5_firstFacing 5 0 r σ') (h : fX5_firstFacing F σ a0 = some (r, σ')) : WP X (gC D cI ad) 5 0 0 σ [(0, .ref (ad 72)), (1, .int a0)] [] := by
  unfold fX5_firstFacing at h
  refine w_aload_n C dX5_firstFacing_0 rfl 0 rfl ?_
  refine w_get C 72 1 (Nat.le_of_ble_eq_true rfl) rfl rfl inB_X5 (by decide) tw2_75 rfl dX5_firstFacing_1 rfl ?_
  refine w_get C 66 2 (Nat.le_of_ble_eq_true rfl) rfl rfl inB_X2 (by decide) tw2_44 rfl dX5_firstFacing_4 rfl ?_
  refine w_iload_n C dX5_firstFacing_7 rfl 1 rfl ?_
  refine w_iald C 71 10 0 (Nat.le_of_ble_eq_true rfl) (fun _ => rfl) rfl h dX5_firstFacing_8 rfl (fun h => ?_)
  refine w_nm h (fun x1 h => ?_)
  refine w_istore_n C [(2, .int x1), (0, .ref (ad 72)), (1, .int a0)] dX5_firstFacing_9 rfl (by decide) rfl ?_
  refine w_iconst C (-1) dX5_firstFacing_10 rfl (by decide) ?_
  refine w_istore_n C [(3, .int ((-1))), (2, .int x1), (0, .ref (ad 72)), (1, .int a0)] dX5_firstFacing_11 rfl (by decide) rfl ?_
  refine w_iconst C 0 dX5_firstFacing_12 rfl (by decide) ?_
  refine w_istore C [(4, .int 0), (3, .int ((-1))), (2, .int x1), (0, .ref (ad 72)), (1, .int a0)] dX5_firstFacing_13 rfl (by decide) rfl ?_
  refine w_sub (lv' := [(4, .int 0), (3, .int ((-1))), (2, .int x1), (0, .ref (ad 72)), (1, .int a0)]) [0, 1, 2, 3, 4] rfl ?_
  refine lp_w (fun v2 : St × Int32 × Int32 => WP X (gC D cI ad) 5 0 15 v2.1 [(4, .int v2.2.1), (3, .int v2.2.2), (2, .int x1), (0, .ref (ad 72)), (1, .int a0)] []) (fun K3 hK4 v2 h => ?_) F _ h
  refine w_iload C dX5_firstFacing_15 rfl 0 rfl ?_
  refine w_bipush C 9 dX5_firstFacing_17 rfl (by decide) ?_
  refine jn_w (fun v5 : Unit => WP X (gC D cI ad) 5 0 68 v2.1 [(3, .int v2.2.2), (2, .int x1), (0, .ref (ad 72)), (1, .int a0)] []) h (fun v5 h => ?_) (fun J6 hJ7 h => ?_)
  · refine w_aload_n C dX5_firstFacing_68 rfl 2 rfl ?_
    refine w_get C 72 1 (Nat.le_of_ble_eq_true rfl) rfl rfl inB_X5 (by decide) tw2_75 rfl dX5_firstFacing_69 rfl ?_
    refine w_get C 66 2 (Nat.le_of_ble_eq_true rfl) rfl rfl inB_X2 (by decide) tw2_44 rfl dX5_firstFacing_72 rfl ?_
    refine w_iload_n C dX5_firstFacing_75 rfl 3 rfl ?_
    refine w_iload_n C dX5_firstFacing_76 rfl 1 rfl ?_
    refine w_iast C 71 10 0 (Nat.le_of_ble_eq_true rfl) (fun _ => rfl) rfl h dX5_firstFacing_77 rfl (fun h => ?_)
    refine w_nst h (fun u8 h => ?_)
    refine w_iload_n C dX5_firstFacing_78 rfl 0 rfl ?_
    exact w_ri2 hr h (by decide) dX5_firstFacing_79
  · refine w_icmp_gt C (qt := 68) dX5_firstFacing_19 (by decide) rfl h (fun _ h => ?_) (fun _ h => ?_)
    · exact w_sub (lv' := [(3, .int v2.2.2), (2, .int x1), (0, .ref (ad 72)), (1, .int a0)]) [1, 2, 3, 4] rfl (hJ7 (()) h)
    · refine w_iload_n C dX5_firstFacing_22 rfl 1 rfl ?_
      refine w_iconst C (-1) dX5_firstFacing_23 rfl (by decide) ?_
      refine w_icmp_ne C (qt := 68) dX5_firstFacing_24 (by decide) rfl h (fun _ h => ?_) (fun _ h => ?_)
      · exact w_sub (lv' := [(3, .int v2.2.2), (2, .int x1), (0, .ref (ad 72)), (1, .int a0)]) [1, 2, 3, 4] rfl (hJ7 (()) h)
      · refine w_aload_n C dX5_firstFacing_27 rfl 3 rfl ?_
        refine w_get C 72 1 (Nat.le_of_ble_eq_true rfl) rfl rfl inB_X5 (by decide) tw2_75 rfl dX5_firstFacing_28 rfl ?_
        refine w_get C 66 2 (Nat.le_of_ble_eq_true rfl) rfl rfl inB_X2 (by decide) tw2_44 rfl dX5_firstFacing_31 rfl ?_
        refine w_iload_n C dX5_firstFacing_34 rfl 4 rfl ?_
        refine w_iload C dX5_firstFacing_35 rfl 0 rfl ?_
        refine w_iast C 71 10 0 (Nat.le_of_ble_eq_true rfl) (fun _ => rfl) rfl h dX5_firstFacing_37 rfl (fun h => ?_)
        refine w_nst h (fun u9 h => ?_)
        refine w_iload C dX5_firstFacing_38 rfl 0 rfl ?_
        refine w_iload_n C dX5_firstFacing_40 rfl 2 rfl ?_
        refine w_icmp_eq C (qt := 62) dX5_firstFacing_41 (by decide) rfl h (fun _ h => ?_) (fun _ h => ?_)
        · refine w_iinc (j := 0) C (v2.2.1 + 1) [(4, .int (v2.2.1 + 1)), (3, .int v2.2.2), (2, .int x1), (0, .ref (ad 72)), (1, .int a0)] dX5_firstFacing_62 rfl rfl rfl (by decide) rfl ?_
          refine w_goto (q := 15) C dX5_firstFacing_65 (by decide) ?_
          exact w_sub (lv' := [(4, .int (v2.2.1 + 1)), (3, .int v2.2.2), (2, .int x1), (0, .ref (ad 72)), (1, .int a0)]) [0, 1, 2, 3, 4] rfl (hK4 ((u9, v2.2.1 + 1, v2.2.2)) h)
        · refine w_aload_n C dX5_firstFacing_44 rfl 3 rfl ?_
          refine w_get C 72 1 (Nat.le_of_ble_eq_true rfl) rfl rfl inB_X5 (by decide) tw2_75 rfl dX5_firstFacing_45 rfl ?_
          refine bd2_w h (fun r10 u11 hc h => ?_)
          refine w_callVi C (n := 0) (As := []) (st := []) 66 (Nat.le_of_ble_eq_true rfl) rfl rfl (cfX2_endsFacing D cI ad (l := X.2.1) C.2.2.1 hc) tw5_146 cy_X2_endsFacing (by decide +kernel) ⟨Nat.le_of_ble_eq_true rfl, Nat.le_of_ble_eq_true rfl⟩ (by decide) rfl rfl (Nat.le_of_ble_eq_true rfl) dX5_firstFacing_48 rfl ?_
          refine w_if_eq C (qt := 62) dX5_firstFacing_51 (by decide) rfl h (fun _ h => ?_) (fun _ h => ?_)
          · refine w_iinc (j := 0) C (v2.2.1 + 1) [(4, .int (v2.2.1 + 1)), (3, .int v2.2.2), (2, .int x1), (0, .ref (ad 72)), (1, .int a0)] dX5_firstFacing_62 rfl rfl rfl (by decide) rfl ?_
            refine w_goto (q := 15) C dX5_firstFacing_65 (by decide) ?_
            exact w_sub (lv' := [(4, .int (v2.2.1 + 1)), (3, .int v2.2.2), (2, .int x1), (0, .ref (ad 72)), (1, .int a0)]) [0, 1, 2, 3, 4] rfl (hK4 ((u11, v2.2.1 + 1, v2.2.2)) h)
          · refine w_bipush C 10 dX5_firstFacing_54 rfl (by decide) ?_
            refine w_iload_n C dX5_firstFacing_56 rfl 4 rfl ?_
            refine w_imul C dX5_firstFacing_57 rfl ?_
            refine w_iload C dX5_firstFacing_58 rfl 0 rfl ?_
            refine w_iadd C dX5_firstFacing_60 rfl ?_
            refine w_nm h (fun x12 h => ?_)
            refine w_istore_n C [(3, .int x12), (4, .int v2.2.1), (2, .int x1), (0, .ref (ad 72)), (1, .int a0)] dX5_firstFacing_61 rfl (by decide) rfl ?_
            refine w_iinc (j := 1) C (v2.2.1 + 1) [(4, .int (v2.2.1 + 1)), (3, .int x12), (2, .int x1), (0, .ref (ad 72)), (1, .int a0)] dX5_firstFacing_62 rfl rfl rfl (by decide) rfl ?_
            refine w_goto (q := 15) C dX5_firstFacing_65 (by decide) ?_
            exact w_sub (lv' := [(4, .int (v2.2.1 + 1)), (3, .int x12), (2, .int x1), (0, .ref (ad 72)), (1, .int a0)]) [0, 1, 2, 3, 4] rfl (hK4 ((u11, v2.2.1 + 1, x12)) h)
theorem cfX5_firstFacing (D : va_G) (cI : ClassId) (ad : Nat → Nat) {l : Launch} (had : gAp (gC D cI ad)) {F : Nat} {σ : St} {a0 : Int32} {r : Int32} {σ' : St} (h : fX5_firstFacing F σ a0 = some (r, σ')) : MI l yX5_firstFacing (wB yX5_firstFacing cX5_firstFacing 5 (some .int)) 4 98 (gC D cI ad) [.ref (ad 72), .int a0] σ r σ' := mk_MI had (by decide +kernel) (Nat.le_of_ble_eq_true rfl) (fun X hX C hr => wfX5_firstFacing C hr h)

def fX5_mendByOne (F : Nat) (σ : St) : Option (Int32 × St) := lp (fun (K2 : (St × Int32 × Int32) → Option (Int32 × St)) (v1 : St × Int32 × Int32) => if (v1.1 66 4) ≤ v1.2.1 then (some (v1.2.2, v1.1)) else if v1.2.2 = (-1 : Int32) then (bd1 (fX5_changes F v1.1 v1.2.1) fun r4 => if r4 = 0 then (K2 ((v1.1, v1.2.1 + 1, v1.2.2))) else bd2 (fX5_firstFacing F v1.1 v1.2.1) fun r5 u6 => K2 ((u6, v1.2.1 + 1, r5))) else some (v1.2.2, v1.1)) F ((σ, 0, (-1)))
set_option maxRecDepth 20000 in
theorem wfX5_mendByOne {X : XT} {D : va_G} {cI : ClassId} {ad : Nat → Nat} {F : Nat} {σ : St}  {r : Int32} {σ' : St} (C : Cx X (gC D cI ad) cX5_mendByOne 3 RX5 5 122 0) (hr : RetI X (gC D cI ad) cX5_mendByOne 3 0 r σ') (h : fX5_mendByOne F σ = some (r, σ')) : WP X (gC D cI ad) 3 0 0 σ [(0, .ref (ad 72))] [] := by
  unfold fX5_mendByOne at h
  refine w_iconst C (-1) dX5_mendByOne_0 rfl (by decide) ?_
  refine w_istore_n C [(1, .int ((-1))), (0, .ref (ad 72))] dX5_mendByOne_1 rfl (by decide) rfl ?_
  refine w_iconst C 0 dX5_mendByOne_2 rfl (by decide) ?_
  refine w_istore_n C [(2, .int 0), (1, .int ((-1))), (0, .ref (ad 72))] dX5_mendByOne_3 rfl (by decide) rfl ?_
  refine w_sub (lv' := [(2, .int 0), (1, .int ((-1))), (0, .ref (ad 72))]) [0, 1, 2] rfl ?_
  refine lp_w (fun v1 : St × Int32 × Int32 => WP X (gC D cI ad) 3 0 4 v1.1 [(2, .int v1.2.1), (1, .int v1.2.2), (0, .ref (ad 72))] []) (fun K2 hK3 v1 h => ?_) F _ h
  refine w_iload_n C dX5_mendByOne_4 rfl 0 rfl ?_
  refine w_aload_n C dX5_mendByOne_5 rfl 2 rfl ?_
  refine w_get C 72 1 (Nat.le_of_ble_eq_true rfl) rfl rfl inB_X5 (by decide) tw2_75 rfl dX5_mendByOne_6 rfl ?_
  refine w_get C 66 4 (Nat.le_of_ble_eq_true rfl) rfl rfl inB_X2 (by decide) tw2_48 rfl dX5_mendByOne_9 rfl ?_
  refine w_icmp_ge C (qt := 40) dX5_mendByOne_12 (by decide) rfl h (fun _ h => ?_) (fun _ h => ?_)
  · refine w_iload_n C dX5_mendByOne_40 rfl 1 rfl ?_
    exact w_ri2 hr h (by decide) dX5_mendByOne_41
  · refine w_iload_n C dX5_mendByOne_15 rfl 1 rfl ?_
    refine w_iconst C (-1) dX5_mendByOne_16 rfl (by decide) ?_
    refine w_icmp_ne C (qt := 40) dX5_mendByOne_17 (by decide) rfl h (fun _ h => ?_) (fun _ h => ?_)
    · refine w_iload_n C dX5_mendByOne_40 rfl 1 rfl ?_
      exact w_ri2 hr h (by decide) dX5_mendByOne_41
    · refine w_aload_n C dX5_mendByOne_20 rfl 2 rfl ?_
      refine w_iload_n C dX5_mendByOne_21 rfl 0 rfl ?_
      refine bd1_w h (fun r4 hc h => ?_)
      refine w_callVi C (n := 1) (As := [.int v1.2.1]) (st := []) 72 (Nat.le_of_ble_eq_true rfl) rfl rfl (cfX5_changes D cI ad (l := X.2.1) C.2.2.1 hc) tw5_137 cy_X5_changes (by decide +kernel) ⟨Nat.le_of_ble_eq_true rfl, Nat.le_of_ble_eq_true rfl⟩ (by decide) rfl rfl (Nat.le_of_ble_eq_true rfl) dX5_mendByOne_22 rfl ?_
      refine w_if_eq C (qt := 34) dX5_mendByOne_25 (by decide) rfl h (fun _ h => ?_) (fun _ h => ?_)
      · refine w_iinc (j := 0) C (v1.2.1 + 1) [(2, .int (v1.2.1 + 1)), (1, .int v1.2.2), (0, .ref (ad 72))] dX5_mendByOne_34 rfl rfl rfl (by decide) rfl ?_
        refine w_goto (q := 4) C dX5_mendByOne_37 (by decide) ?_
        exact w_sub (lv' := [(2, .int (v1.2.1 + 1)), (1, .int v1.2.2), (0, .ref (ad 72))]) [0, 1, 2] rfl (hK3 ((v1.1, v1.2.1 + 1, v1.2.2)) h)
      · refine w_aload_n C dX5_mendByOne_28 rfl 2 rfl ?_
        refine w_iload_n C dX5_mendByOne_29 rfl 0 rfl ?_
        refine bd2_w h (fun r5 u6 hc h => ?_)
        refine w_callVi C (n := 1) (As := [.int v1.2.1]) (st := []) 72 (Nat.le_of_ble_eq_true rfl) rfl rfl (cfX5_firstFacing D cI ad (l := X.2.1) C.2.2.1 hc) tw5_142 cy_X5_firstFacing (by decide +kernel) ⟨Nat.le_of_ble_eq_true rfl, Nat.le_of_ble_eq_true rfl⟩ (by decide) rfl rfl (Nat.le_of_ble_eq_true rfl) dX5_mendByOne_30 rfl ?_
        refine w_istore_n C [(1, .int r5), (2, .int v1.2.1), (0, .ref (ad 72))] dX5_mendByOne_33 rfl (by decide) rfl ?_
        refine w_iinc (j := 1) C (v1.2.1 + 1) [(2, .int (v1.2.1 + 1)), (1, .int r5), (0, .ref (ad 72))] dX5_mendByOne_34 rfl rfl rfl (by decide) rfl ?_
        refine w_goto (q := 4) C dX5_mendByOne_37 (by decide) ?_
        exact w_sub (lv' := [(2, .int (v1.2.1 + 1)), (1, .int r5), (0, .ref (ad 72))]) [0, 1, 2] rfl (hK3 ((u6, v1.2.1 + 1, r5)) h)
theorem cfX5_mendByOne (D : va_G) (cI : ClassId) (ad : Nat → Nat) {l : Launch} (had : gAp (gC D cI ad)) {F : Nat} {σ : St}  {r : Int32} {σ' : St} (h : fX5_mendByOne F σ = some (r, σ')) : MI l yX5_mendByOne (wB yX5_mendByOne cX5_mendByOne 3 (some .int)) 5 122 (gC D cI ad) [.ref (ad 72)] σ r σ' := mk_MI had (by decide +kernel) (Nat.le_of_ble_eq_true rfl) (fun X hX C hr => wfX5_mendByOne C hr h)

def fX3_become (F : Nat) (σ : St) : Option St := lp (fun (K2 : (St × Int32) → Option St) (v1 : St × Int32) => if (1 : Int32) < v1.2 then (some v1.1) else ckI (v1.2) 2 (ckI (v1.2) 2 (nm (up v1.1 74 (Int32.toNatClampNeg v1.2) (v1.1 68 (Int32.toNatClampNeg v1.2))) fun u4 => ckI (v1.2) 2 (ckI (v1.2) 2 (nm (up u4 75 (Int32.toNatClampNeg v1.2) (u4 69 (Int32.toNatClampNeg v1.2))) fun u5 => ckI (v1.2) 2 (ckI (v1.2) 2 (nm (up u5 76 (Int32.toNatClampNeg v1.2) (u5 70 (Int32.toNatClampNeg v1.2))) fun u6 => K2 ((u6, v1.2 + 1))))))))) F ((σ, 0))
set_option maxRecDepth 20000 in
theorem wfX3_become {X : XT} {D : va_G} {cI : ClassId} {ad : Nat → Nat} {F : Nat} {σ : St}  {σ' : St} (C : Cx X (gC D cI ad) cX3_become 3 RX3 0 0 0) (hr : RetV X (gC D cI ad) cX3_become 3 0 σ') (h : fX3_become F σ = some σ') : WP X (gC D cI ad) 3 0 0 σ [(0, .ref (ad 73)), (1, .ref (ad 67))] [] := by
  unfold fX3_become at h
  refine w_iconst C 0 dX3_become_0 rfl (by decide) ?_
  refine w_istore_n C [(2, .int 0), (0, .ref (ad 73)), (1, .ref (ad 67))] dX3_become_1 rfl (by decide) rfl ?_
  refine w_sub (lv' := [(2, .int 0), (0, .ref (ad 73)), (1, .ref (ad 67))]) [0, 1, 2] rfl ?_
  refine lp_w (fun v1 : St × Int32 => WP X (gC D cI ad) 3 0 2 v1.1 [(2, .int v1.2), (0, .ref (ad 73)), (1, .ref (ad 67))] []) (fun K2 hK3 v1 h => ?_) F _ h
  refine w_iload_n C dX3_become_2 rfl 0 rfl ?_
  refine w_iconst C 1 dX3_become_3 rfl (by decide) ?_
  refine w_icmp_gt C (qt := 49) dX3_become_4 (by decide) rfl h (fun _ h => ?_) (fun _ h => ?_)
  · exact w_rv hr h (by decide) dX3_become_49
  · refine w_aload_n C dX3_become_7 rfl 1 rfl ?_
    refine w_get C 73 0 (Nat.le_of_ble_eq_true rfl) rfl rfl inB_X3 (by decide) tw2_24 rfl dX3_become_8 rfl ?_
    refine w_iload_n C dX3_become_11 rfl 0 rfl ?_
    refine w_aload_n C dX3_become_12 rfl 2 rfl ?_
    refine w_get C 67 0 (Nat.le_of_ble_eq_true rfl) rfl rfl inB_X3 (by decide) tw2_24 rfl dX3_become_13 rfl ?_
    refine w_iload_n C dX3_become_16 rfl 0 rfl ?_
    refine w_iald C 68 2 0 (Nat.le_of_ble_eq_true rfl) (fun _ => rfl) rfl h dX3_become_17 rfl (fun h => ?_)
    refine w_iast C 74 2 0 (Nat.le_of_ble_eq_true rfl) (fun _ => rfl) rfl h dX3_become_18 rfl (fun h => ?_)
    refine w_nst h (fun u4 h => ?_)
    refine w_aload_n C dX3_become_19 rfl 1 rfl ?_
    refine w_get C 73 1 (Nat.le_of_ble_eq_true rfl) rfl rfl inB_X3 (by decide) tw2_27 rfl dX3_become_20 rfl ?_
    refine w_iload_n C dX3_become_23 rfl 0 rfl ?_
    refine w_aload_n C dX3_become_24 rfl 2 rfl ?_
    refine w_get C 67 1 (Nat.le_of_ble_eq_true rfl) rfl rfl inB_X3 (by decide) tw2_27 rfl dX3_become_25 rfl ?_
    refine w_iload_n C dX3_become_28 rfl 0 rfl ?_
    refine w_iald C 69 2 0 (Nat.le_of_ble_eq_true rfl) (fun _ => rfl) rfl h dX3_become_29 rfl (fun h => ?_)
    refine w_iast C 75 2 0 (Nat.le_of_ble_eq_true rfl) (fun _ => rfl) rfl h dX3_become_30 rfl (fun h => ?_)
    refine w_nst h (fun u5 h => ?_)
    refine w_aload_n C dX3_become_31 rfl 1 rfl ?_
    refine w_get C 73 2 (Nat.le_of_ble_eq_true rfl) rfl rfl inB_X3 (by decide) tw2_30 rfl dX3_become_32 rfl ?_
    refine w_iload_n C dX3_become_35 rfl 0 rfl ?_
    refine w_aload_n C dX3_become_36 rfl 2 rfl ?_
    refine w_get C 67 2 (Nat.le_of_ble_eq_true rfl) rfl rfl inB_X3 (by decide) tw2_30 rfl dX3_become_37 rfl ?_
    refine w_iload_n C dX3_become_40 rfl 0 rfl ?_
    refine w_iald C 70 2 0 (Nat.le_of_ble_eq_true rfl) (fun _ => rfl) rfl h dX3_become_41 rfl (fun h => ?_)
    refine w_iast C 76 2 0 (Nat.le_of_ble_eq_true rfl) (fun _ => rfl) rfl h dX3_become_42 rfl (fun h => ?_)
    refine w_nst h (fun u6 h => ?_)
    refine w_iinc (j := 0) C (v1.2 + 1) [(2, .int (v1.2 + 1)), (0, .ref (ad 73)), (1, .ref (ad 67))] dX3_become_43 rfl rfl rfl (by decide) rfl ?_
    refine w_goto (q := 2) C dX3_become_46 (by decide) ?_
    exact w_sub (lv' := [(2, .int (v1.2 + 1)), (0, .ref (ad 73)), (1, .ref (ad 67))]) [0, 1, 2] rfl (hK3 ((u6, v1.2 + 1)) h)
theorem cfX3_become (D : va_G) (cI : ClassId) (ad : Nat → Nat) {l : Launch} (had : gAp (gC D cI ad)) {F : Nat} {σ : St}  {σ' : St} (h : fX3_become F σ = some σ') : MV l yX3_become (wB yX3_become cX3_become 3 none) 0 0 (gC D cI ad) [.ref (ad 73), .ref (ad 67)] σ σ' := mk_MV had (by decide +kernel) (Nat.le_of_ble_eq_true rfl) (fun X hX C hr => wfX3_become C hr h)

def fX3_become_2 (F : Nat) (σ : St) : Option St := lp (fun (K2 : (St × Int32) → Option St) (v1 : St × Int32) => if (1 : Int32) < v1.2 then (some v1.1) else ckI (v1.2) 2 (ckI (v1.2) 2 (nm (up v1.1 68 (Int32.toNatClampNeg v1.2) (v1.1 74 (Int32.toNatClampNeg v1.2))) fun u4 => ckI (v1.2) 2 (ckI (v1.2) 2 (nm (up u4 69 (Int32.toNatClampNeg v1.2) (u4 75 (Int32.toNatClampNeg v1.2))) fun u5 => ckI (v1.2) 2 (ckI (v1.2) 2 (nm (up u5 70 (Int32.toNatClampNeg v1.2) (u5 76 (Int32.toNatClampNeg v1.2))) fun u6 => K2 ((u6, v1.2 + 1))))))))) F ((σ, 0))
set_option maxRecDepth 20000 in
theorem wfX3_become_2 {X : XT} {D : va_G} {cI : ClassId} {ad : Nat → Nat} {F : Nat} {σ : St}  {σ' : St} (C : Cx X (gC D cI ad) cX3_become 3 RX3 0 0 0) (hr : RetV X (gC D cI ad) cX3_become 3 0 σ') (h : fX3_become_2 F σ = some σ') : WP X (gC D cI ad) 3 0 0 σ [(0, .ref (ad 67)), (1, .ref (ad 73))] [] := by
  unfold fX3_become_2 at h
  refine w_iconst C 0 dX3_become_0 rfl (by decide) ?_
  refine w_istore_n C [(2, .int 0), (0, .ref (ad 67)), (1, .ref (ad 73))] dX3_become_1 rfl (by decide) rfl ?_
  refine w_sub (lv' := [(2, .int 0), (0, .ref (ad 67)), (1, .ref (ad 73))]) [0, 1, 2] rfl ?_
  refine lp_w (fun v1 : St × Int32 => WP X (gC D cI ad) 3 0 2 v1.1 [(2, .int v1.2), (0, .ref (ad 67)), (1, .ref (ad 73))] []) (fun K2 hK3 v1 h => ?_) F _ h
  refine w_iload_n C dX3_become_2 rfl 0 rfl ?_
  refine w_iconst C 1 dX3_become_3 rfl (by decide) ?_
  refine w_icmp_gt C (qt := 49) dX3_become_4 (by decide) rfl h (fun _ h => ?_) (fun _ h => ?_)
  · exact w_rv hr h (by decide) dX3_become_49
  · refine w_aload_n C dX3_become_7 rfl 1 rfl ?_
    refine w_get C 67 0 (Nat.le_of_ble_eq_true rfl) rfl rfl inB_X3 (by decide) tw2_24 rfl dX3_become_8 rfl ?_
    refine w_iload_n C dX3_become_11 rfl 0 rfl ?_
    refine w_aload_n C dX3_become_12 rfl 2 rfl ?_
    refine w_get C 73 0 (Nat.le_of_ble_eq_true rfl) rfl rfl inB_X3 (by decide) tw2_24 rfl dX3_become_13 rfl ?_
    refine w_iload_n C dX3_become_16 rfl 0 rfl ?_
    refine w_iald C 74 2 0 (Nat.le_of_ble_eq_true rfl) (fun _ => rfl) rfl h dX3_become_17 rfl (fun h => ?_)
    refine w_iast C 68 2 0 (Nat.le_of_ble_eq_true rfl) (fun _ => rfl) rfl h dX3_become_18 rfl (fun h => ?_)
    refine w_nst h (fun u4 h => ?_)
    refine w_aload_n C dX3_become_19 rfl 1 rfl ?_
    refine w_get C 67 1 (Nat.le_of_ble_eq_true rfl) rfl rfl inB_X3 (by decide) tw2_27 rfl dX3_become_20 rfl ?_
    refine w_iload_n C dX3_become_23 rfl 0 rfl ?_
    refine w_aload_n C dX3_become_24 rfl 2 rfl ?_
    refine w_get C 73 1 (Nat.le_of_ble_eq_true rfl) rfl rfl inB_X3 (by decide) tw2_27 rfl dX3_become_25 rfl ?_
    refine w_iload_n C dX3_become_28 rfl 0 rfl ?_
    refine w_iald C 75 2 0 (Nat.le_of_ble_eq_true rfl) (fun _ => rfl) rfl h dX3_become_29 rfl (fun h => ?_)
    refine w_iast C 69 2 0 (Nat.le_of_ble_eq_true rfl) (fun _ => rfl) rfl h dX3_become_30 rfl (fun h => ?_)
    refine w_nst h (fun u5 h => ?_)
    refine w_aload_n C dX3_become_31 rfl 1 rfl ?_
    refine w_get C 67 2 (Nat.le_of_ble_eq_true rfl) rfl rfl inB_X3 (by decide) tw2_30 rfl dX3_become_32 rfl ?_
    refine w_iload_n C dX3_become_35 rfl 0 rfl ?_
    refine w_aload_n C dX3_become_36 rfl 2 rfl ?_
    refine w_get C 73 2 (Nat.le_of_ble_eq_true rfl) rfl rfl inB_X3 (by decide) tw2_30 rfl dX3_become_37 rfl ?_
    refine w_iload_n C dX3_become_40 rfl 0 rfl ?_
    refine w_iald C 76 2 0 (Nat.le_of_ble_eq_true rfl) (fun _ => rfl) rfl h dX3_become_41 rfl (fun h => ?_)
    refine w_iast C 70 2 0 (Nat.le_of_ble_eq_true rfl) (fun _ => rfl) rfl h dX3_become_42 rfl (fun h => ?_)
    refine w_nst h (fun u6 h => ?_)
    refine w_iinc (j := 0) C (v1.2 + 1) [(2, .int (v1.2 + 1)), (0, .ref (ad 67)), (1, .ref (ad 73))] dX3_become_43 rfl rfl rfl (by decide) rfl ?_
    refine w_goto (q := 2) C dX3_become_46 (by decide) ?_
    exact w_sub (lv' := [(2, .int (v1.2 + 1)), (0, .ref (ad 67)), (1, .ref (ad 73))]) [0, 1, 2] rfl (hK3 ((u6, v1.2 + 1)) h)
theorem cfX3_become_2 (D : va_G) (cI : ClassId) (ad : Nat → Nat) {l : Launch} (had : gAp (gC D cI ad)) {F : Nat} {σ : St}  {σ' : St} (h : fX3_become_2 F σ = some σ') : MV l yX3_become (wB yX3_become cX3_become 3 none) 0 0 (gC D cI ad) [.ref (ad 67), .ref (ad 73)] σ σ' := mk_MV had (by decide +kernel) (Nat.le_of_ble_eq_true rfl) (fun X hX C hr => wfX3_become_2 C hr h)

def fX3_become_3 (F : Nat) (σ : St) : Option St := lp (fun (K2 : (St × Int32) → Option St) (v1 : St × Int32) => if (1 : Int32) < v1.2 then (some v1.1) else ckI (v1.2) 2 (ckI (v1.2) 2 (nm (up v1.1 78 (Int32.toNatClampNeg v1.2) (v1.1 68 (Int32.toNatClampNeg v1.2))) fun u4 => ckI (v1.2) 2 (ckI (v1.2) 2 (nm (up u4 79 (Int32.toNatClampNeg v1.2) (u4 69 (Int32.toNatClampNeg v1.2))) fun u5 => ckI (v1.2) 2 (ckI (v1.2) 2 (nm (up u5 80 (Int32.toNatClampNeg v1.2) (u5 70 (Int32.toNatClampNeg v1.2))) fun u6 => K2 ((u6, v1.2 + 1))))))))) F ((σ, 0))
set_option maxRecDepth 20000 in
theorem wfX3_become_3 {X : XT} {D : va_G} {cI : ClassId} {ad : Nat → Nat} {F : Nat} {σ : St}  {σ' : St} (C : Cx X (gC D cI ad) cX3_become 3 RX3 0 0 0) (hr : RetV X (gC D cI ad) cX3_become 3 0 σ') (h : fX3_become_3 F σ = some σ') : WP X (gC D cI ad) 3 0 0 σ [(0, .ref (ad 77)), (1, .ref (ad 67))] [] := by
  unfold fX3_become_3 at h
  refine w_iconst C 0 dX3_become_0 rfl (by decide) ?_
  refine w_istore_n C [(2, .int 0), (0, .ref (ad 77)), (1, .ref (ad 67))] dX3_become_1 rfl (by decide) rfl ?_
  refine w_sub (lv' := [(2, .int 0), (0, .ref (ad 77)), (1, .ref (ad 67))]) [0, 1, 2] rfl ?_
  refine lp_w (fun v1 : St × Int32 => WP X (gC D cI ad) 3 0 2 v1.1 [(2, .int v1.2), (0, .ref (ad 77)), (1, .ref (ad 67))] []) (fun K2 hK3 v1 h => ?_) F _ h
  refine w_iload_n C dX3_become_2 rfl 0 rfl ?_
  refine w_iconst C 1 dX3_become_3 rfl (by decide) ?_
  refine w_icmp_gt C (qt := 49) dX3_become_4 (by decide) rfl h (fun _ h => ?_) (fun _ h => ?_)
  · exact w_rv hr h (by decide) dX3_become_49
  · refine w_aload_n C dX3_become_7 rfl 1 rfl ?_
    refine w_get C 77 0 (Nat.le_of_ble_eq_true rfl) rfl rfl inB_X3 (by decide) tw2_24 rfl dX3_become_8 rfl ?_
    refine w_iload_n C dX3_become_11 rfl 0 rfl ?_
    refine w_aload_n C dX3_become_12 rfl 2 rfl ?_
    refine w_get C 67 0 (Nat.le_of_ble_eq_true rfl) rfl rfl inB_X3 (by decide) tw2_24 rfl dX3_become_13 rfl ?_
    refine w_iload_n C dX3_become_16 rfl 0 rfl ?_
    refine w_iald C 68 2 0 (Nat.le_of_ble_eq_true rfl) (fun _ => rfl) rfl h dX3_become_17 rfl (fun h => ?_)
    refine w_iast C 78 2 0 (Nat.le_of_ble_eq_true rfl) (fun _ => rfl) rfl h dX3_become_18 rfl (fun h => ?_)
    refine w_nst h (fun u4 h => ?_)
    refine w_aload_n C dX3_become_19 rfl 1 rfl ?_
    refine w_get C 77 1 (Nat.le_of_ble_eq_true rfl) rfl rfl inB_X3 (by decide) tw2_27 rfl dX3_become_20 rfl ?_
    refine w_iload_n C dX3_become_23 rfl 0 rfl ?_
    refine w_aload_n C dX3_become_24 rfl 2 rfl ?_
    refine w_get C 67 1 (Nat.le_of_ble_eq_true rfl) rfl rfl inB_X3 (by decide) tw2_27 rfl dX3_become_25 rfl ?_
    refine w_iload_n C dX3_become_28 rfl 0 rfl ?_
    refine w_iald C 69 2 0 (Nat.le_of_ble_eq_true rfl) (fun _ => rfl) rfl h dX3_become_29 rfl (fun h => ?_)
    refine w_iast C 79 2 0 (Nat.le_of_ble_eq_true rfl) (fun _ => rfl) rfl h dX3_become_30 rfl (fun h => ?_)
    refine w_nst h (fun u5 h => ?_)
    refine w_aload_n C dX3_become_31 rfl 1 rfl ?_
    refine w_get C 77 2 (Nat.le_of_ble_eq_true rfl) rfl rfl inB_X3 (by decide) tw2_30 rfl dX3_become_32 rfl ?_
    refine w_iload_n C dX3_become_35 rfl 0 rfl ?_
    refine w_aload_n C dX3_become_36 rfl 2 rfl ?_
    refine w_get C 67 2 (Nat.le_of_ble_eq_true rfl) rfl rfl inB_X3 (by decide) tw2_30 rfl dX3_become_37 rfl ?_
    refine w_iload_n C dX3_become_40 rfl 0 rfl ?_
    refine w_iald C 70 2 0 (Nat.le_of_ble_eq_true rfl) (fun _ => rfl) rfl h dX3_become_41 rfl (fun h => ?_)
    refine w_iast C 80 2 0 (Nat.le_of_ble_eq_true rfl) (fun _ => rfl) rfl h dX3_become_42 rfl (fun h => ?_)
    refine w_nst h (fun u6 h => ?_)
    refine w_iinc (j := 0) C (v1.2 + 1) [(2, .int (v1.2 + 1)), (0, .ref (ad 77)), (1, .ref (ad 67))] dX3_become_43 rfl rfl rfl (by decide) rfl ?_
    refine w_goto (q := 2) C dX3_become_46 (by decide) ?_
    exact w_sub (lv' := [(2, .int (v1.2 + 1)), (0, .ref (ad 77)), (1, .ref (ad 67))]) [0, 1, 2] rfl (hK3 ((u6, v1.2 + 1)) h)
theorem cfX3_become_3 (D : va_G) (cI : ClassId) (ad : Nat → Nat) {l : Launch} (had : gAp (gC D cI ad)) {F : Nat} {σ : St}  {σ' : St} (h : fX3_become_3 F σ = some σ') : MV l yX3_become (wB yX3_become cX3_become 3 none) 0 0 (gC D cI ad) [.ref (ad 77), .ref (ad 67)] σ σ' := mk_MV had (by decide +kernel) (Nat.le_of_ble_eq_true rfl) (fun X hX C hr => wfX3_become_3 C hr h)

def fX3_become_4 (F : Nat) (σ : St) : Option St := lp (fun (K2 : (St × Int32) → Option St) (v1 : St × Int32) => if (1 : Int32) < v1.2 then (some v1.1) else ckI (v1.2) 2 (ckI (v1.2) 2 (nm (up v1.1 68 (Int32.toNatClampNeg v1.2) (v1.1 78 (Int32.toNatClampNeg v1.2))) fun u4 => ckI (v1.2) 2 (ckI (v1.2) 2 (nm (up u4 69 (Int32.toNatClampNeg v1.2) (u4 79 (Int32.toNatClampNeg v1.2))) fun u5 => ckI (v1.2) 2 (ckI (v1.2) 2 (nm (up u5 70 (Int32.toNatClampNeg v1.2) (u5 80 (Int32.toNatClampNeg v1.2))) fun u6 => K2 ((u6, v1.2 + 1))))))))) F ((σ, 0))
set_option maxRecDepth 20000 in
theorem wfX3_become_4 {X : XT} {D : va_G} {cI : ClassId} {ad : Nat → Nat} {F : Nat} {σ : St}  {σ' : St} (C : Cx X (gC D cI ad) cX3_become 3 RX3 0 0 0) (hr : RetV X (gC D cI ad) cX3_become 3 0 σ') (h : fX3_become_4 F σ = some σ') : WP X (gC D cI ad) 3 0 0 σ [(0, .ref (ad 67)), (1, .ref (ad 77))] [] := by
  unfold fX3_become_4 at h
  refine w_iconst C 0 dX3_become_0 rfl (by decide) ?_
  refine w_istore_n C [(2, .int 0), (0, .ref (ad 67)), (1, .ref (ad 77))] dX3_become_1 rfl (by decide) rfl ?_
  refine w_sub (lv' := [(2, .int 0), (0, .ref (ad 67)), (1, .ref (ad 77))]) [0, 1, 2] rfl ?_
  refine lp_w (fun v1 : St × Int32 => WP X (gC D cI ad) 3 0 2 v1.1 [(2, .int v1.2), (0, .ref (ad 67)), (1, .ref (ad 77))] []) (fun K2 hK3 v1 h => ?_) F _ h
  refine w_iload_n C dX3_become_2 rfl 0 rfl ?_
  refine w_iconst C 1 dX3_become_3 rfl (by decide) ?_
  refine w_icmp_gt C (qt := 49) dX3_become_4 (by decide) rfl h (fun _ h => ?_) (fun _ h => ?_)
  · exact w_rv hr h (by decide) dX3_become_49
  · refine w_aload_n C dX3_become_7 rfl 1 rfl ?_
    refine w_get C 67 0 (Nat.le_of_ble_eq_true rfl) rfl rfl inB_X3 (by decide) tw2_24 rfl dX3_become_8 rfl ?_
    refine w_iload_n C dX3_become_11 rfl 0 rfl ?_
    refine w_aload_n C dX3_become_12 rfl 2 rfl ?_
    refine w_get C 77 0 (Nat.le_of_ble_eq_true rfl) rfl rfl inB_X3 (by decide) tw2_24 rfl dX3_become_13 rfl ?_
    refine w_iload_n C dX3_become_16 rfl 0 rfl ?_
    refine w_iald C 78 2 0 (Nat.le_of_ble_eq_true rfl) (fun _ => rfl) rfl h dX3_become_17 rfl (fun h => ?_)
    refine w_iast C 68 2 0 (Nat.le_of_ble_eq_true rfl) (fun _ => rfl) rfl h dX3_become_18 rfl (fun h => ?_)
    refine w_nst h (fun u4 h => ?_)
    refine w_aload_n C dX3_become_19 rfl 1 rfl ?_
    refine w_get C 67 1 (Nat.le_of_ble_eq_true rfl) rfl rfl inB_X3 (by decide) tw2_27 rfl dX3_become_20 rfl ?_
    refine w_iload_n C dX3_become_23 rfl 0 rfl ?_
    refine w_aload_n C dX3_become_24 rfl 2 rfl ?_
    refine w_get C 77 1 (Nat.le_of_ble_eq_true rfl) rfl rfl inB_X3 (by decide) tw2_27 rfl dX3_become_25 rfl ?_
    refine w_iload_n C dX3_become_28 rfl 0 rfl ?_
    refine w_iald C 79 2 0 (Nat.le_of_ble_eq_true rfl) (fun _ => rfl) rfl h dX3_become_29 rfl (fun h => ?_)
    refine w_iast C 69 2 0 (Nat.le_of_ble_eq_true rfl) (fun _ => rfl) rfl h dX3_become_30 rfl (fun h => ?_)
    refine w_nst h (fun u5 h => ?_)
    refine w_aload_n C dX3_become_31 rfl 1 rfl ?_
    refine w_get C 67 2 (Nat.le_of_ble_eq_true rfl) rfl rfl inB_X3 (by decide) tw2_30 rfl dX3_become_32 rfl ?_
    refine w_iload_n C dX3_become_35 rfl 0 rfl ?_
    refine w_aload_n C dX3_become_36 rfl 2 rfl ?_
    refine w_get C 77 2 (Nat.le_of_ble_eq_true rfl) rfl rfl inB_X3 (by decide) tw2_30 rfl dX3_become_37 rfl ?_
    refine w_iload_n C dX3_become_40 rfl 0 rfl ?_
    refine w_iald C 80 2 0 (Nat.le_of_ble_eq_true rfl) (fun _ => rfl) rfl h dX3_become_41 rfl (fun h => ?_)
    refine w_iast C 70 2 0 (Nat.le_of_ble_eq_true rfl) (fun _ => rfl) rfl h dX3_become_42 rfl (fun h => ?_)
    refine w_nst h (fun u6 h => ?_)
    refine w_iinc (j := 0) C (v1.2 + 1) [(2, .int (v1.2 + 1)), (0, .ref (ad 67)), (1, .ref (ad 77))] dX3_become_43 rfl rfl rfl (by decide) rfl ?_
    refine w_goto (q := 2) C dX3_become_46 (by decide) ?_
    exact w_sub (lv' := [(2, .int (v1.2 + 1)), (0, .ref (ad 67)), (1, .ref (ad 77))]) [0, 1, 2] rfl (hK3 ((u6, v1.2 + 1)) h)
theorem cfX3_become_4 (D : va_G) (cI : ClassId) (ad : Nat → Nat) {l : Launch} (had : gAp (gC D cI ad)) {F : Nat} {σ : St}  {σ' : St} (h : fX3_become_4 F σ = some σ') : MV l yX3_become (wB yX3_become cX3_become 3 none) 0 0 (gC D cI ad) [.ref (ad 67), .ref (ad 77)] σ σ' := mk_MV had (by decide +kernel) (Nat.le_of_ble_eq_true rfl) (fun X hX C hr => wfX3_become_4 C hr h)

def fX5_firstFacingFrom (F : Nat) (σ : St) (a0 : Int32) : Option (Int32 × St) := ckI (a0) 10 (nm (σ 71 (Int32.toNatClampNeg a0)) fun x1 => lp (fun (K3 : (St × Int32 × Int32) → Option (Int32 × St)) (v2 : St × Int32 × Int32) => jn (fun v5 : Unit => ckI (a0) 10 (nm (up v2.1 71 (Int32.toNatClampNeg a0) x1) fun u8 => some (v2.2.2, u8))) fun J6 => if (9 : Int32) < v2.2.1 then (J6 (())) else if v2.2.2 = (-1 : Int32) then (bd1 (fX3_become_4 F v2.1) fun u9 => ckI (a0) 10 (nm (up u9 71 (Int32.toNatClampNeg a0) v2.2.1) fun u10 => if v2.2.1 = x1 then (K3 ((u10, v2.2.1 + 1, v2.2.2))) else bd2 (fX2_walk F u10 a0 (u10 66 4)) fun r11 u12 => if r11 = (-1 : Int32) then (bd1 (fX3_areFacing F u12) fun r13 => if r13 = 0 then (K3 ((u12, v2.2.1 + 1, v2.2.2))) else nm ((10 * a0) + v2.2.1) fun x14 => K3 ((u12, v2.2.1 + 1, x14))) else K3 ((u12, v2.2.1 + 1, v2.2.2)))) else J6 (())) F ((σ, 0, (-1))))
set_option maxRecDepth 20000 in
theorem wfX5_firstFacingFrom {X : XT} {D : va_G} {cI : ClassId} {ad : Nat → Nat} {F : Nat} {σ : St} {a0 : Int32} {r : Int32} {σ' : St} (C : Cx X (gC D cI ad) cX5_firstFacingFrom 5 RX5 3 78 0) (hr : RetI X (gC D cI ad) cX5_firstFacingFrom 5 0 r σ') (h : fX5_firstFacingFrom F σ a0 = some (r, σ')) : WP X (gC D cI ad) 5 0 0 σ [(0, .ref (ad 72)), (1, .int a0)] [] := by
  unfold fX5_firstFacingFrom at h
  refine w_aload_n C dX5_firstFacingFrom_0 rfl 0 rfl ?_
  refine w_get C 72 1 (Nat.le_of_ble_eq_true rfl) rfl rfl inB_X5 (by decide) tw2_75 rfl dX5_firstFacingFrom_1 rfl ?_
  refine w_get C 66 2 (Nat.le_of_ble_eq_true rfl) rfl rfl inB_X2 (by decide) tw2_44 rfl dX5_firstFacingFrom_4 rfl ?_
  refine w_iload_n C dX5_firstFacingFrom_7 rfl 1 rfl ?_
  refine w_iald C 71 10 0 (Nat.le_of_ble_eq_true rfl) (fun _ => rfl) rfl h dX5_firstFacingFrom_8 rfl (fun h => ?_)
  refine w_nm h (fun x1 h => ?_)
  refine w_istore_n C [(2, .int x1), (0, .ref (ad 72)), (1, .int a0)] dX5_firstFacingFrom_9 rfl (by decide) rfl ?_
  refine w_iconst C (-1) dX5_firstFacingFrom_10 rfl (by decide) ?_
  refine w_istore_n C [(3, .int ((-1))), (2, .int x1), (0, .ref (ad 72)), (1, .int a0)] dX5_firstFacingFrom_11 rfl (by decide) rfl ?_
  refine w_iconst C 0 dX5_firstFacingFrom_12 rfl (by decide) ?_
  refine w_istore C [(4, .int 0), (3, .int ((-1))), (2, .int x1), (0, .ref (ad 72)), (1, .int a0)] dX5_firstFacingFrom_13 rfl (by decide) rfl ?_
  refine w_sub (lv' := [(4, .int 0), (3, .int ((-1))), (2, .int x1), (0, .ref (ad 72)), (1, .int a0)]) [0, 1, 2, 3, 4] rfl ?_
  refine lp_w (fun v2 : St × Int32 × Int32 => WP X (gC D cI ad) 5 0 15 v2.1 [(4, .int v2.2.1), (3, .int v2.2.2), (2, .int x1), (0, .ref (ad 72)), (1, .int a0)] []) (fun K3 hK4 v2 h => ?_) F _ h
  refine w_iload C dX5_firstFacingFrom_15 rfl 0 rfl ?_
  refine w_bipush C 9 dX5_firstFacingFrom_17 rfl (by decide) ?_
  refine jn_w (fun v5 : Unit => WP X (gC D cI ad) 5 0 104 v2.1 [(3, .int v2.2.2), (2, .int x1), (0, .ref (ad 72)), (1, .int a0)] []) h (fun v5 h => ?_) (fun J6 hJ7 h => ?_)
  · refine w_aload_n C dX5_firstFacingFrom_104 rfl 2 rfl ?_
    refine w_get C 72 1 (Nat.le_of_ble_eq_true rfl) rfl rfl inB_X5 (by decide) tw2_75 rfl dX5_firstFacingFrom_105 rfl ?_
    refine w_get C 66 2 (Nat.le_of_ble_eq_true rfl) rfl rfl inB_X2 (by decide) tw2_44 rfl dX5_firstFacingFrom_108 rfl ?_
    refine w_iload_n C dX5_firstFacingFrom_111 rfl 3 rfl ?_
    refine w_iload_n C dX5_firstFacingFrom_112 rfl 1 rfl ?_
    refine w_iast C 71 10 0 (Nat.le_of_ble_eq_true rfl) (fun _ => rfl) rfl h dX5_firstFacingFrom_113 rfl (fun h => ?_)
    refine w_nst h (fun u8 h => ?_)
    refine w_iload_n C dX5_firstFacingFrom_114 rfl 0 rfl ?_
    exact w_ri2 hr h (by decide) dX5_firstFacingFrom_115
  · refine w_icmp_gt C (qt := 104) dX5_firstFacingFrom_19 (by decide) rfl h (fun _ h => ?_) (fun _ h => ?_)
    · exact w_sub (lv' := [(3, .int v2.2.2), (2, .int x1), (0, .ref (ad 72)), (1, .int a0)]) [1, 2, 3, 4] rfl (hJ7 (()) h)
    · refine w_iload_n C dX5_firstFacingFrom_22 rfl 1 rfl ?_
      refine w_iconst C (-1) dX5_firstFacingFrom_23 rfl (by decide) ?_
      refine w_icmp_ne C (qt := 104) dX5_firstFacingFrom_24 (by decide) rfl h (fun _ h => ?_) (fun _ h => ?_)
      · exact w_sub (lv' := [(3, .int v2.2.2), (2, .int x1), (0, .ref (ad 72)), (1, .int a0)]) [1, 2, 3, 4] rfl (hJ7 (()) h)
      · refine w_aload_n C dX5_firstFacingFrom_27 rfl 3 rfl ?_
        refine w_get C 72 1 (Nat.le_of_ble_eq_true rfl) rfl rfl inB_X5 (by decide) tw2_75 rfl dX5_firstFacingFrom_28 rfl ?_
        refine w_get C 66 1 (Nat.le_of_ble_eq_true rfl) rfl rfl inB_X2 (by decide) tw2_41 rfl dX5_firstFacingFrom_31 rfl ?_
        refine w_aload_n C dX5_firstFacingFrom_34 rfl 3 rfl ?_
        refine w_get C 72 3 (Nat.le_of_ble_eq_true rfl) rfl rfl inB_X5 (by decide) tw2_77 rfl dX5_firstFacingFrom_35 rfl ?_
        refine bd1_w h (fun u9 hc h => ?_)
        refine w_callVv C (n := 1) (As := [.ref (ad 77)]) (st := []) 67 (Nat.le_of_ble_eq_true rfl) rfl rfl (cfX3_become_4 D cI ad (l := X.2.1) C.2.2.1 hc) tw5_153 cy_X3_become (by decide +kernel) ⟨Nat.le_of_ble_eq_true rfl, Nat.le_of_ble_eq_true rfl⟩ (by decide) rfl rfl (Nat.le_of_ble_eq_true rfl) dX5_firstFacingFrom_38 rfl ?_
        refine w_aload_n C dX5_firstFacingFrom_41 rfl 3 rfl ?_
        refine w_get C 72 1 (Nat.le_of_ble_eq_true rfl) rfl rfl inB_X5 (by decide) tw2_75 rfl dX5_firstFacingFrom_42 rfl ?_
        refine w_get C 66 2 (Nat.le_of_ble_eq_true rfl) rfl rfl inB_X2 (by decide) tw2_44 rfl dX5_firstFacingFrom_45 rfl ?_
        refine w_iload_n C dX5_firstFacingFrom_48 rfl 4 rfl ?_
        refine w_iload C dX5_firstFacingFrom_49 rfl 0 rfl ?_
        refine w_iast C 71 10 0 (Nat.le_of_ble_eq_true rfl) (fun _ => rfl) rfl h dX5_firstFacingFrom_51 rfl (fun h => ?_)
        refine w_nst h (fun u10 h => ?_)
        refine w_iload C dX5_firstFacingFrom_52 rfl 0 rfl ?_
        refine w_iload_n C dX5_firstFacingFrom_54 rfl 2 rfl ?_
        refine w_icmp_eq C (qt := 98) dX5_firstFacingFrom_55 (by decide) rfl h (fun _ h => ?_) (fun _ h => ?_)
        · refine w_iinc (j := 0) C (v2.2.1 + 1) [(4, .int (v2.2.1 + 1)), (3, .int v2.2.2), (2, .int x1), (0, .ref (ad 72)), (1, .int a0)] dX5_firstFacingFrom_98 rfl rfl rfl (by decide) rfl ?_
          refine w_goto (q := 15) C dX5_firstFacingFrom_101 (by decide) ?_
          exact w_sub (lv' := [(4, .int (v2.2.1 + 1)), (3, .int v2.2.2), (2, .int x1), (0, .ref (ad 72)), (1, .int a0)]) [0, 1, 2, 3, 4] rfl (hK4 ((u10, v2.2.1 + 1, v2.2.2)) h)
        · refine w_aload_n C dX5_firstFacingFrom_58 rfl 3 rfl ?_
          refine w_get C 72 1 (Nat.le_of_ble_eq_true rfl) rfl rfl inB_X5 (by decide) tw2_75 rfl dX5_firstFacingFrom_59 rfl ?_
          refine w_iload_n C dX5_firstFacingFrom_62 rfl 4 rfl ?_
          refine w_aload_n C dX5_firstFacingFrom_63 rfl 3 rfl ?_
          refine w_get C 72 1 (Nat.le_of_ble_eq_true rfl) rfl rfl inB_X5 (by decide) tw2_75 rfl dX5_firstFacingFrom_64 rfl ?_
          refine w_get C 66 4 (Nat.le_of_ble_eq_true rfl) rfl rfl inB_X2 (by decide) tw2_48 rfl dX5_firstFacingFrom_67 rfl ?_
          refine bd2_w h (fun r11 u12 hc h => ?_)
          refine w_callVi C (n := 2) (As := [.int a0, .int (u10 66 4)]) (st := []) 66 (Nat.le_of_ble_eq_true rfl) rfl rfl (cfX2_walk D cI ad (l := X.2.1) C.2.2.1 hc) tw5_152 cy_X2_walk (by decide +kernel) ⟨Nat.le_of_ble_eq_true rfl, Nat.le_of_ble_eq_true rfl⟩ (by decide) rfl rfl (Nat.le_of_ble_eq_true rfl) dX5_firstFacingFrom_70 rfl ?_
          refine w_iconst C (-1) dX5_firstFacingFrom_73 rfl (by decide) ?_
          refine w_icmp_ne C (qt := 98) dX5_firstFacingFrom_74 (by decide) rfl h (fun _ h => ?_) (fun _ h => ?_)
          · refine w_iinc (j := 0) C (v2.2.1 + 1) [(4, .int (v2.2.1 + 1)), (3, .int v2.2.2), (2, .int x1), (0, .ref (ad 72)), (1, .int a0)] dX5_firstFacingFrom_98 rfl rfl rfl (by decide) rfl ?_
            refine w_goto (q := 15) C dX5_firstFacingFrom_101 (by decide) ?_
            exact w_sub (lv' := [(4, .int (v2.2.1 + 1)), (3, .int v2.2.2), (2, .int x1), (0, .ref (ad 72)), (1, .int a0)]) [0, 1, 2, 3, 4] rfl (hK4 ((u12, v2.2.1 + 1, v2.2.2)) h)
          · refine w_aload_n C dX5_firstFacingFrom_77 rfl 3 rfl ?_
            refine w_get C 72 1 (Nat.le_of_ble_eq_true rfl) rfl rfl inB_X5 (by decide) tw2_75 rfl dX5_firstFacingFrom_78 rfl ?_
            refine w_get C 66 1 (Nat.le_of_ble_eq_true rfl) rfl rfl inB_X2 (by decide) tw2_41 rfl dX5_firstFacingFrom_81 rfl ?_
            refine bd1_w h (fun r13 hc h => ?_)
            refine w_callVi C (n := 0) (As := []) (st := []) 67 (Nat.le_of_ble_eq_true rfl) rfl rfl (cfX3_areFacing D cI ad (l := X.2.1) C.2.2.1 hc) tw5_165 cy_X3_areFacing (by decide +kernel) ⟨Nat.le_of_ble_eq_true rfl, Nat.le_of_ble_eq_true rfl⟩ (by decide) rfl rfl (Nat.le_of_ble_eq_true rfl) dX5_firstFacingFrom_84 rfl ?_
            refine w_if_eq C (qt := 98) dX5_firstFacingFrom_87 (by decide) rfl h (fun _ h => ?_) (fun _ h => ?_)
            · refine w_iinc (j := 0) C (v2.2.1 + 1) [(4, .int (v2.2.1 + 1)), (3, .int v2.2.2), (2, .int x1), (0, .ref (ad 72)), (1, .int a0)] dX5_firstFacingFrom_98 rfl rfl rfl (by decide) rfl ?_
              refine w_goto (q := 15) C dX5_firstFacingFrom_101 (by decide) ?_
              exact w_sub (lv' := [(4, .int (v2.2.1 + 1)), (3, .int v2.2.2), (2, .int x1), (0, .ref (ad 72)), (1, .int a0)]) [0, 1, 2, 3, 4] rfl (hK4 ((u12, v2.2.1 + 1, v2.2.2)) h)
            · refine w_bipush C 10 dX5_firstFacingFrom_90 rfl (by decide) ?_
              refine w_iload_n C dX5_firstFacingFrom_92 rfl 4 rfl ?_
              refine w_imul C dX5_firstFacingFrom_93 rfl ?_
              refine w_iload C dX5_firstFacingFrom_94 rfl 0 rfl ?_
              refine w_iadd C dX5_firstFacingFrom_96 rfl ?_
              refine w_nm h (fun x14 h => ?_)
              refine w_istore_n C [(3, .int x14), (4, .int v2.2.1), (2, .int x1), (0, .ref (ad 72)), (1, .int a0)] dX5_firstFacingFrom_97 rfl (by decide) rfl ?_
              refine w_iinc (j := 1) C (v2.2.1 + 1) [(4, .int (v2.2.1 + 1)), (3, .int x14), (2, .int x1), (0, .ref (ad 72)), (1, .int a0)] dX5_firstFacingFrom_98 rfl rfl rfl (by decide) rfl ?_
              refine w_goto (q := 15) C dX5_firstFacingFrom_101 (by decide) ?_
              exact w_sub (lv' := [(4, .int (v2.2.1 + 1)), (3, .int x14), (2, .int x1), (0, .ref (ad 72)), (1, .int a0)]) [0, 1, 2, 3, 4] rfl (hK4 ((u12, v2.2.1 + 1, x14)) h)
theorem cfX5_firstFacingFrom (D : va_G) (cI : ClassId) (ad : Nat → Nat) {l : Launch} (had : gAp (gC D cI ad)) {F : Nat} {σ : St} {a0 : Int32} {r : Int32} {σ' : St} (h : fX5_firstFacingFrom F σ a0 = some (r, σ')) : MI l yX5_firstFacingFrom (wB yX5_firstFacingFrom cX5_firstFacingFrom 5 (some .int)) 3 78 (gC D cI ad) [.ref (ad 72), .int a0] σ r σ' := mk_MI had (by decide +kernel) (Nat.le_of_ble_eq_true rfl) (fun X hX C hr => wfX5_firstFacingFrom C hr h)

def fX5_firstFacingCouple (F : Nat) (σ : St) (a0 : Int32) (a1 : Int32) : Option (Int32 × St) := ckI (a0) 10 (nm (σ 71 (Int32.toNatClampNeg a0)) fun x1 => lp (fun (K3 : (St × Int32 × Int32) → Option (Int32 × St)) (v2 : St × Int32 × Int32) => jn (fun v5 : Unit => ckI (a0) 10 (nm (up v2.1 71 (Int32.toNatClampNeg a0) x1) fun u8 => some (v2.2.2, u8))) fun J6 => if (9 : Int32) < v2.2.1 then (J6 (())) else if v2.2.2 = (-1 : Int32) then (bd1 (fX3_become_2 F v2.1) fun u9 => ckI (a0) 10 (nm (up u9 71 (Int32.toNatClampNeg a0) v2.2.1) fun u10 => if v2.2.1 = x1 then (K3 ((u10, v2.2.1 + 1, v2.2.2))) else bd2 (fX2_walk F u10 a0 a1) fun r11 u12 => if r11 = (-1 : Int32) then (bd1 (fX3_become_3 F u12) fun u13 => bd2 (fX5_firstFacingFrom F u13 a1) fun r14 u15 => if r14 = (-1 : Int32) then (K3 ((u15, v2.2.1 + 1, (-1)))) else nm ((100 * ((10 * a0) + v2.2.1)) + r14) fun x16 => K3 ((u15, v2.2.1 + 1, x16))) else K3 ((u12, v2.2.1 + 1, v2.2.2)))) else J6 (())) F ((σ, 0, (-1))))
set_option maxRecDepth 20000 in
theorem wfX5_firstFacingCouple {X : XT} {D : va_G} {cI : ClassId} {ad : Nat → Nat} {F : Nat} {σ : St} {a0 : Int32} {a1 : Int32} {r : Int32} {σ' : St} (C : Cx X (gC D cI ad) cX5_firstFacingCouple 7 RX5 4 102 0) (hr : RetI X (gC D cI ad) cX5_firstFacingCouple 7 0 r σ') (h : fX5_firstFacingCouple F σ a0 a1 = some (r, σ')) : WP X (gC D cI ad) 7 0 0 σ [(0, .ref (ad 72)), (1, .int a0), (2, .int a1)] [] := by
  unfold fX5_firstFacingCouple at h
  refine w_aload_n C dX5_firstFacingCouple_0 rfl 0 rfl ?_
  refine w_get C 72 1 (Nat.le_of_ble_eq_true rfl) rfl rfl inB_X5 (by decide) tw2_75 rfl dX5_firstFacingCouple_1 rfl ?_
  refine w_get C 66 2 (Nat.le_of_ble_eq_true rfl) rfl rfl inB_X2 (by decide) tw2_44 rfl dX5_firstFacingCouple_4 rfl ?_
  refine w_iload_n C dX5_firstFacingCouple_7 rfl 1 rfl ?_
  refine w_iald C 71 10 0 (Nat.le_of_ble_eq_true rfl) (fun _ => rfl) rfl h dX5_firstFacingCouple_8 rfl (fun h => ?_)
  refine w_nm h (fun x1 h => ?_)
  refine w_istore_n C [(3, .int x1), (0, .ref (ad 72)), (1, .int a0), (2, .int a1)] dX5_firstFacingCouple_9 rfl (by decide) rfl ?_
  refine w_iconst C (-1) dX5_firstFacingCouple_10 rfl (by decide) ?_
  refine w_istore C [(4, .int ((-1))), (3, .int x1), (0, .ref (ad 72)), (1, .int a0), (2, .int a1)] dX5_firstFacingCouple_11 rfl (by decide) rfl ?_
  refine w_iconst C 0 dX5_firstFacingCouple_13 rfl (by decide) ?_
  refine w_istore C [(5, .int 0), (4, .int ((-1))), (3, .int x1), (0, .ref (ad 72)), (1, .int a0), (2, .int a1)] dX5_firstFacingCouple_14 rfl (by decide) rfl ?_
  refine w_sub (lv' := [(5, .int 0), (4, .int ((-1))), (3, .int x1), (0, .ref (ad 72)), (1, .int a0), (2, .int a1)]) [0, 1, 2, 3, 4, 5] rfl ?_
  refine lp_w (fun v2 : St × Int32 × Int32 => WP X (gC D cI ad) 7 0 16 v2.1 [(5, .int v2.2.1), (4, .int v2.2.2), (3, .int x1), (0, .ref (ad 72)), (1, .int a0), (2, .int a1)] []) (fun K3 hK4 v2 h => ?_) F _ h
  refine w_iload C dX5_firstFacingCouple_16 rfl 0 rfl ?_
  refine w_bipush C 9 dX5_firstFacingCouple_18 rfl (by decide) ?_
  refine jn_w (fun v5 : Unit => WP X (gC D cI ad) 7 0 125 v2.1 [(4, .int v2.2.2), (3, .int x1), (0, .ref (ad 72)), (1, .int a0)] []) h (fun v5 h => ?_) (fun J6 hJ7 h => ?_)
  · refine w_aload_n C dX5_firstFacingCouple_125 rfl 2 rfl ?_
    refine w_get C 72 1 (Nat.le_of_ble_eq_true rfl) rfl rfl inB_X5 (by decide) tw2_75 rfl dX5_firstFacingCouple_126 rfl ?_
    refine w_get C 66 2 (Nat.le_of_ble_eq_true rfl) rfl rfl inB_X2 (by decide) tw2_44 rfl dX5_firstFacingCouple_129 rfl ?_
    refine w_iload_n C dX5_firstFacingCouple_132 rfl 3 rfl ?_
    refine w_iload_n C dX5_firstFacingCouple_133 rfl 1 rfl ?_
    refine w_iast C 71 10 0 (Nat.le_of_ble_eq_true rfl) (fun _ => rfl) rfl h dX5_firstFacingCouple_134 rfl (fun h => ?_)
    refine w_nst h (fun u8 h => ?_)
    refine w_iload C dX5_firstFacingCouple_135 rfl 0 rfl ?_
    exact w_ri2 hr h (by decide) dX5_firstFacingCouple_137
  · refine w_icmp_gt C (qt := 125) dX5_firstFacingCouple_20 (by decide) rfl h (fun _ h => ?_) (fun _ h => ?_)
    · exact w_sub (lv' := [(4, .int v2.2.2), (3, .int x1), (0, .ref (ad 72)), (1, .int a0)]) [1, 2, 3, 4] rfl (hJ7 (()) h)
    · refine w_iload C dX5_firstFacingCouple_23 rfl 1 rfl ?_
      refine w_iconst C (-1) dX5_firstFacingCouple_25 rfl (by decide) ?_
      refine w_icmp_ne C (qt := 125) dX5_firstFacingCouple_26 (by decide) rfl h (fun _ h => ?_) (fun _ h => ?_)
      · exact w_sub (lv' := [(4, .int v2.2.2), (3, .int x1), (0, .ref (ad 72)), (1, .int a0)]) [1, 2, 3, 4] rfl (hJ7 (()) h)
      · refine w_aload_n C dX5_firstFacingCouple_29 rfl 3 rfl ?_
        refine w_get C 72 1 (Nat.le_of_ble_eq_true rfl) rfl rfl inB_X5 (by decide) tw2_75 rfl dX5_firstFacingCouple_30 rfl ?_
        refine w_get C 66 1 (Nat.le_of_ble_eq_true rfl) rfl rfl inB_X2 (by decide) tw2_41 rfl dX5_firstFacingCouple_33 rfl ?_
        refine w_aload_n C dX5_firstFacingCouple_36 rfl 3 rfl ?_
        refine w_get C 72 2 (Nat.le_of_ble_eq_true rfl) rfl rfl inB_X5 (by decide) tw2_76 rfl dX5_firstFacingCouple_37 rfl ?_
        refine bd1_w h (fun u9 hc h => ?_)
        refine w_callVv C (n := 1) (As := [.ref (ad 73)]) (st := []) 67 (Nat.le_of_ble_eq_true rfl) rfl rfl (cfX3_become_2 D cI ad (l := X.2.1) C.2.2.1 hc) tw5_153 cy_X3_become (by decide +kernel) ⟨Nat.le_of_ble_eq_true rfl, Nat.le_of_ble_eq_true rfl⟩ (by decide) rfl rfl (Nat.le_of_ble_eq_true rfl) dX5_firstFacingCouple_40 rfl ?_
        refine w_aload_n C dX5_firstFacingCouple_43 rfl 3 rfl ?_
        refine w_get C 72 1 (Nat.le_of_ble_eq_true rfl) rfl rfl inB_X5 (by decide) tw2_75 rfl dX5_firstFacingCouple_44 rfl ?_
        refine w_get C 66 2 (Nat.le_of_ble_eq_true rfl) rfl rfl inB_X2 (by decide) tw2_44 rfl dX5_firstFacingCouple_47 rfl ?_
        refine w_iload_n C dX5_firstFacingCouple_50 rfl 4 rfl ?_
        refine w_iload C dX5_firstFacingCouple_51 rfl 0 rfl ?_
        refine w_iast C 71 10 0 (Nat.le_of_ble_eq_true rfl) (fun _ => rfl) rfl h dX5_firstFacingCouple_53 rfl (fun h => ?_)
        refine w_nst h (fun u10 h => ?_)
        refine w_iload C dX5_firstFacingCouple_54 rfl 0 rfl ?_
        refine w_iload_n C dX5_firstFacingCouple_56 rfl 2 rfl ?_
        refine w_icmp_eq C (qt := 119) dX5_firstFacingCouple_57 (by decide) rfl h (fun _ h => ?_) (fun _ h => ?_)
        · refine w_iinc (j := 0) C (v2.2.1 + 1) [(5, .int (v2.2.1 + 1)), (4, .int v2.2.2), (3, .int x1), (0, .ref (ad 72)), (1, .int a0), (2, .int a1)] dX5_firstFacingCouple_119 rfl rfl rfl (by decide) rfl ?_
          refine w_goto (q := 16) C dX5_firstFacingCouple_122 (by decide) ?_
          exact w_sub (lv' := [(5, .int (v2.2.1 + 1)), (4, .int v2.2.2), (3, .int x1), (0, .ref (ad 72)), (1, .int a0), (2, .int a1)]) [0, 1, 2, 3, 4, 5] rfl (hK4 ((u10, v2.2.1 + 1, v2.2.2)) h)
        · refine w_aload_n C dX5_firstFacingCouple_60 rfl 3 rfl ?_
          refine w_get C 72 1 (Nat.le_of_ble_eq_true rfl) rfl rfl inB_X5 (by decide) tw2_75 rfl dX5_firstFacingCouple_61 rfl ?_
          refine w_iload_n C dX5_firstFacingCouple_64 rfl 4 rfl ?_
          refine w_iload_n C dX5_firstFacingCouple_65 rfl 5 rfl ?_
          refine bd2_w h (fun r11 u12 hc h => ?_)
          refine w_callVi C (n := 2) (As := [.int a0, .int a1]) (st := []) 66 (Nat.le_of_ble_eq_true rfl) rfl rfl (cfX2_walk D cI ad (l := X.2.1) C.2.2.1 hc) tw5_152 cy_X2_walk (by decide +kernel) ⟨Nat.le_of_ble_eq_true rfl, Nat.le_of_ble_eq_true rfl⟩ (by decide) rfl rfl (Nat.le_of_ble_eq_true rfl) dX5_firstFacingCouple_66 rfl ?_
          refine w_iconst C (-1) dX5_firstFacingCouple_69 rfl (by decide) ?_
          refine w_icmp_ne C (qt := 119) dX5_firstFacingCouple_70 (by decide) rfl h (fun _ h => ?_) (fun _ h => ?_)
          · refine w_iinc (j := 0) C (v2.2.1 + 1) [(5, .int (v2.2.1 + 1)), (4, .int v2.2.2), (3, .int x1), (0, .ref (ad 72)), (1, .int a0), (2, .int a1)] dX5_firstFacingCouple_119 rfl rfl rfl (by decide) rfl ?_
            refine w_goto (q := 16) C dX5_firstFacingCouple_122 (by decide) ?_
            exact w_sub (lv' := [(5, .int (v2.2.1 + 1)), (4, .int v2.2.2), (3, .int x1), (0, .ref (ad 72)), (1, .int a0), (2, .int a1)]) [0, 1, 2, 3, 4, 5] rfl (hK4 ((u12, v2.2.1 + 1, v2.2.2)) h)
          · refine w_aload_n C dX5_firstFacingCouple_73 rfl 3 rfl ?_
            refine w_get C 72 3 (Nat.le_of_ble_eq_true rfl) rfl rfl inB_X5 (by decide) tw2_77 rfl dX5_firstFacingCouple_74 rfl ?_
            refine w_aload_n C dX5_firstFacingCouple_77 rfl 3 rfl ?_
            refine w_get C 72 1 (Nat.le_of_ble_eq_true rfl) rfl rfl inB_X5 (by decide) tw2_75 rfl dX5_firstFacingCouple_78 rfl ?_
            refine w_get C 66 1 (Nat.le_of_ble_eq_true rfl) rfl rfl inB_X2 (by decide) tw2_41 rfl dX5_firstFacingCouple_81 rfl ?_
            refine bd1_w h (fun u13 hc h => ?_)
            refine w_callVv C (n := 1) (As := [.ref (ad 67)]) (st := []) 77 (Nat.le_of_ble_eq_true rfl) rfl rfl (cfX3_become_3 D cI ad (l := X.2.1) C.2.2.1 hc) tw5_153 cy_X3_become (by decide +kernel) ⟨Nat.le_of_ble_eq_true rfl, Nat.le_of_ble_eq_true rfl⟩ (by decide) rfl rfl (Nat.le_of_ble_eq_true rfl) dX5_firstFacingCouple_84 rfl ?_
            refine w_aload_n C dX5_firstFacingCouple_87 rfl 3 rfl ?_
            refine w_iload_n C dX5_firstFacingCouple_88 rfl 5 rfl ?_
            refine bd2_w h (fun r14 u15 hc h => ?_)
            refine w_callVi C (n := 1) (As := [.int a1]) (st := []) 72 (Nat.le_of_ble_eq_true rfl) rfl rfl (cfX5_firstFacingFrom D cI ad (l := X.2.1) C.2.2.1 hc) tw5_161 cy_X5_firstFacingFrom (by decide +kernel) ⟨Nat.le_of_ble_eq_true rfl, Nat.le_of_ble_eq_true rfl⟩ (by decide) rfl rfl (Nat.le_of_ble_eq_true rfl) dX5_firstFacingCouple_89 rfl ?_
            refine w_istore C [(6, .int r14), (5, .int v2.2.1), (4, .int v2.2.2), (3, .int x1), (0, .ref (ad 72)), (1, .int a0), (2, .int a1)] dX5_firstFacingCouple_92 rfl (by decide) rfl ?_
            refine w_iload C dX5_firstFacingCouple_94 rfl 0 rfl ?_
            refine w_iconst C (-1) dX5_firstFacingCouple_96 rfl (by decide) ?_
            refine w_icmp_ne C (qt := 104) dX5_firstFacingCouple_97 (by decide) rfl h (fun _ h => ?_) (fun _ h => ?_)
            · refine w_bipush C 100 dX5_firstFacingCouple_104 rfl (by decide) ?_
              refine w_bipush C 10 dX5_firstFacingCouple_106 rfl (by decide) ?_
              refine w_iload_n C dX5_firstFacingCouple_108 rfl 5 rfl ?_
              refine w_imul C dX5_firstFacingCouple_109 rfl ?_
              refine w_iload C dX5_firstFacingCouple_110 rfl 1 rfl ?_
              refine w_iadd C dX5_firstFacingCouple_112 rfl ?_
              refine w_imul C dX5_firstFacingCouple_113 rfl ?_
              refine w_iload C dX5_firstFacingCouple_114 rfl 0 rfl ?_
              refine w_iadd C dX5_firstFacingCouple_116 rfl ?_
              refine w_nm h (fun x16 h => ?_)
              refine w_istore C [(4, .int x16), (6, .int r14), (5, .int v2.2.1), (3, .int x1), (0, .ref (ad 72)), (1, .int a0), (2, .int a1)] dX5_firstFacingCouple_117 rfl (by decide) rfl ?_
              refine w_iinc (j := 2) C (v2.2.1 + 1) [(5, .int (v2.2.1 + 1)), (4, .int x16), (6, .int r14), (3, .int x1), (0, .ref (ad 72)), (1, .int a0), (2, .int a1)] dX5_firstFacingCouple_119 rfl rfl rfl (by decide) rfl ?_
              refine w_goto (q := 16) C dX5_firstFacingCouple_122 (by decide) ?_
              exact w_sub (lv' := [(5, .int (v2.2.1 + 1)), (4, .int x16), (3, .int x1), (0, .ref (ad 72)), (1, .int a0), (2, .int a1)]) [0, 1, 3, 4, 5, 6] rfl (hK4 ((u15, v2.2.1 + 1, x16)) h)
            · refine w_iconst C (-1) dX5_firstFacingCouple_100 rfl (by decide) ?_
              refine w_goto (q := 117) C dX5_firstFacingCouple_101 (by decide) ?_
              refine w_istore C [(4, .int ((-1))), (6, .int r14), (5, .int v2.2.1), (3, .int x1), (0, .ref (ad 72)), (1, .int a0), (2, .int a1)] dX5_firstFacingCouple_117 rfl (by decide) rfl ?_
              refine w_iinc (j := 2) C (v2.2.1 + 1) [(5, .int (v2.2.1 + 1)), (4, .int ((-1))), (6, .int r14), (3, .int x1), (0, .ref (ad 72)), (1, .int a0), (2, .int a1)] dX5_firstFacingCouple_119 rfl rfl rfl (by decide) rfl ?_
              refine w_goto (q := 16) C dX5_firstFacingCouple_122 (by decide) ?_
              exact w_sub (lv' := [(5, .int (v2.2.1 + 1)), (4, .int ((-1))), (3, .int x1), (0, .ref (ad 72)), (1, .int a0), (2, .int a1)]) [0, 1, 3, 4, 5, 6] rfl (hK4 ((u15, v2.2.1 + 1, (-1))) h)
theorem cfX5_firstFacingCouple (D : va_G) (cI : ClassId) (ad : Nat → Nat) {l : Launch} (had : gAp (gC D cI ad)) {F : Nat} {σ : St} {a0 : Int32} {a1 : Int32} {r : Int32} {σ' : St} (h : fX5_firstFacingCouple F σ a0 a1 = some (r, σ')) : MI l yX5_firstFacingCouple (wB yX5_firstFacingCouple cX5_firstFacingCouple 7 (some .int)) 4 102 (gC D cI ad) [.ref (ad 72), .int a0, .int a1] σ r σ' := mk_MI had (by decide +kernel) (Nat.le_of_ble_eq_true rfl) (fun X hX C hr => wfX5_firstFacingCouple C hr h)

def fX5_mendByTwo (F : Nat) (σ : St) : Option (Int32 × St) := lp (fun (K2 : (St × Int32 × Int32) → Option (Int32 × St)) (v1 : St × Int32 × Int32) => if (v1.1 66 4) ≤ v1.2.1 then (some (v1.2.2, v1.1)) else if v1.2.2 = (-1 : Int32) then (bd1 (fX3_begin F v1.1 (v1.1 2 2)) fun u4 => bd2 (fX2_walk F u4 0 v1.2.1) fun r5 u6 => if r5 = (-1 : Int32) then (bd1 (fX3_become F u6) fun u7 => nm (v1.2.1 + 1) fun x8 => lp (fun (K10 : (St × Int32 × Int32) → Option (Int32 × St)) (v9 : St × Int32 × Int32) => if (v9.1 66 4) ≤ v9.2.1 then (K2 ((v9.1, v1.2.1 + 1, v9.2.2))) else if v9.2.2 = (-1 : Int32) then (bd1 (fX5_changes F v9.1 v1.2.1) fun r12 => if r12 = 0 then (K10 ((v9.1, v9.2.1 + 1, v9.2.2))) else bd1 (fX5_changes F v9.1 v9.2.1) fun r13 => if r13 = 0 then (K10 ((v9.1, v9.2.1 + 1, v9.2.2))) else bd2 (fX5_firstFacingCouple F v9.1 v1.2.1 v9.2.1) fun r14 u15 => K10 ((u15, v9.2.1 + 1, r14))) else K2 ((v9.1, v1.2.1 + 1, v9.2.2))) F ((u7, x8, v1.2.2))) else some ((-1), u6)) else some (v1.2.2, v1.1)) F ((σ, 0, (-1)))
set_option maxRecDepth 20000 in
theorem wfX5_mendByTwo {X : XT} {D : va_G} {cI : ClassId} {ad : Nat → Nat} {F : Nat} {σ : St}  {r : Int32} {σ' : St} (C : Cx X (gC D cI ad) cX5_mendByTwo 4 RX5 5 128 0) (hr : RetI X (gC D cI ad) cX5_mendByTwo 4 0 r σ') (h : fX5_mendByTwo F σ = some (r, σ')) : WP X (gC D cI ad) 4 0 0 σ [(0, .ref (ad 72))] [] := by
  unfold fX5_mendByTwo at h
  refine w_iconst C (-1) dX5_mendByTwo_0 rfl (by decide) ?_
  refine w_istore_n C [(1, .int ((-1))), (0, .ref (ad 72))] dX5_mendByTwo_1 rfl (by decide) rfl ?_
  refine w_iconst C 0 dX5_mendByTwo_2 rfl (by decide) ?_
  refine w_istore_n C [(2, .int 0), (1, .int ((-1))), (0, .ref (ad 72))] dX5_mendByTwo_3 rfl (by decide) rfl ?_
  refine w_sub (lv' := [(2, .int 0), (1, .int ((-1))), (0, .ref (ad 72))]) [0, 1, 2] rfl ?_
  refine lp_w (fun v1 : St × Int32 × Int32 => WP X (gC D cI ad) 4 0 4 v1.1 [(2, .int v1.2.1), (1, .int v1.2.2), (0, .ref (ad 72))] []) (fun K2 hK3 v1 h => ?_) F _ h
  refine w_iload_n C dX5_mendByTwo_4 rfl 0 rfl ?_
  refine w_aload_n C dX5_mendByTwo_5 rfl 2 rfl ?_
  refine w_get C 72 1 (Nat.le_of_ble_eq_true rfl) rfl rfl inB_X5 (by decide) tw2_75 rfl dX5_mendByTwo_6 rfl ?_
  refine w_get C 66 4 (Nat.le_of_ble_eq_true rfl) rfl rfl inB_X2 (by decide) tw2_48 rfl dX5_mendByTwo_9 rfl ?_
  refine w_icmp_ge C (qt := 121) dX5_mendByTwo_12 (by decide) rfl h (fun _ h => ?_) (fun _ h => ?_)
  · refine w_iload_n C dX5_mendByTwo_121 rfl 1 rfl ?_
    exact w_ri2 hr h (by decide) dX5_mendByTwo_122
  · refine w_iload_n C dX5_mendByTwo_15 rfl 1 rfl ?_
    refine w_iconst C (-1) dX5_mendByTwo_16 rfl (by decide) ?_
    refine w_icmp_ne C (qt := 121) dX5_mendByTwo_17 (by decide) rfl h (fun _ h => ?_) (fun _ h => ?_)
    · refine w_iload_n C dX5_mendByTwo_121 rfl 1 rfl ?_
      exact w_ri2 hr h (by decide) dX5_mendByTwo_122
    · refine w_aload_n C dX5_mendByTwo_20 rfl 2 rfl ?_
      refine w_get C 72 1 (Nat.le_of_ble_eq_true rfl) rfl rfl inB_X5 (by decide) tw2_75 rfl dX5_mendByTwo_21 rfl ?_
      refine w_get C 66 1 (Nat.le_of_ble_eq_true rfl) rfl rfl inB_X2 (by decide) tw2_41 rfl dX5_mendByTwo_24 rfl ?_
      refine w_aload_n C dX5_mendByTwo_27 rfl 2 rfl ?_
      refine w_get C 72 0 (Nat.le_of_ble_eq_true rfl) rfl rfl inB_X5 (by decide) tw2_74 rfl dX5_mendByTwo_28 rfl ?_
      refine w_get C 2 2 (Nat.le_of_ble_eq_true rfl) rfl rfl inB_X0 (by decide) tw1_71 rfl dX5_mendByTwo_31 rfl ?_
      refine bd1_w h (fun u4 hc h => ?_)
      refine w_callVv C (n := 1) (As := [.int (v1.1 2 2)]) (st := []) 67 (Nat.le_of_ble_eq_true rfl) rfl rfl (cfX3_begin D cI ad (l := X.2.1) C.2.2.1 hc) tw5_151 cy_X3_begin (by decide +kernel) ⟨Nat.le_of_ble_eq_true rfl, Nat.le_of_ble_eq_true rfl⟩ (by decide) rfl rfl (Nat.le_of_ble_eq_true rfl) dX5_mendByTwo_34 rfl ?_
      refine w_aload_n C dX5_mendByTwo_37 rfl 2 rfl ?_
      refine w_get C 72 1 (Nat.le_of_ble_eq_true rfl) rfl rfl inB_X5 (by decide) tw2_75 rfl dX5_mendByTwo_38 rfl ?_
      refine w_iconst C 0 dX5_mendByTwo_41 rfl (by decide) ?_
      refine w_iload_n C dX5_mendByTwo_42 rfl 0 rfl ?_
      refine bd2_w h (fun r5 u6 hc h => ?_)
      refine w_callVi C (n := 2) (As := [.int 0, .int v1.2.1]) (st := []) 66 (Nat.le_of_ble_eq_true rfl) rfl rfl (cfX2_walk D cI ad (l := X.2.1) C.2.2.1 hc) tw5_152 cy_X2_walk (by decide +kernel) ⟨Nat.le_of_ble_eq_true rfl, Nat.le_of_ble_eq_true rfl⟩ (by decide) rfl rfl (Nat.le_of_ble_eq_true rfl) dX5_mendByTwo_43 rfl ?_
      refine w_iconst C (-1) dX5_mendByTwo_46 rfl (by decide) ?_
      refine w_icmp_eq C (qt := 52) dX5_mendByTwo_47 (by decide) rfl h (fun _ h => ?_) (fun _ h => ?_)
      · refine w_aload_n C dX5_mendByTwo_52 rfl 2 rfl ?_
        refine w_get C 72 2 (Nat.le_of_ble_eq_true rfl) rfl rfl inB_X5 (by decide) tw2_76 rfl dX5_mendByTwo_53 rfl ?_
        refine w_aload_n C dX5_mendByTwo_56 rfl 2 rfl ?_
        refine w_get C 72 1 (Nat.le_of_ble_eq_true rfl) rfl rfl inB_X5 (by decide) tw2_75 rfl dX5_mendByTwo_57 rfl ?_
        refine w_get C 66 1 (Nat.le_of_ble_eq_true rfl) rfl rfl inB_X2 (by decide) tw2_41 rfl dX5_mendByTwo_60 rfl ?_
        refine bd1_w h (fun u7 hc h => ?_)
        refine w_callVv C (n := 1) (As := [.ref (ad 67)]) (st := []) 73 (Nat.le_of_ble_eq_true rfl) rfl rfl (cfX3_become D cI ad (l := X.2.1) C.2.2.1 hc) tw5_153 cy_X3_become (by decide +kernel) ⟨Nat.le_of_ble_eq_true rfl, Nat.le_of_ble_eq_true rfl⟩ (by decide) rfl rfl (Nat.le_of_ble_eq_true rfl) dX5_mendByTwo_63 rfl ?_
        refine w_iload_n C dX5_mendByTwo_66 rfl 0 rfl ?_
        refine w_iconst C 1 dX5_mendByTwo_67 rfl (by decide) ?_
        refine w_iadd C dX5_mendByTwo_68 rfl ?_
        refine w_nm h (fun x8 h => ?_)
        refine w_istore_n C [(3, .int x8), (2, .int v1.2.1), (1, .int v1.2.2), (0, .ref (ad 72))] dX5_mendByTwo_69 rfl (by decide) rfl ?_
        refine w_sub (lv' := [(3, .int x8), (2, .int v1.2.1), (1, .int v1.2.2), (0, .ref (ad 72))]) [0, 1, 2, 3] rfl ?_
        refine lp_w (fun v9 : St × Int32 × Int32 => WP X (gC D cI ad) 4 0 70 v9.1 [(3, .int v9.2.1), (2, .int v1.2.1), (1, .int v9.2.2), (0, .ref (ad 72))] []) (fun K10 hK11 v9 h => ?_) F _ h
        refine w_iload_n C dX5_mendByTwo_70 rfl 0 rfl ?_
        refine w_aload_n C dX5_mendByTwo_71 rfl 3 rfl ?_
        refine w_get C 72 1 (Nat.le_of_ble_eq_true rfl) rfl rfl inB_X5 (by decide) tw2_75 rfl dX5_mendByTwo_72 rfl ?_
        refine w_get C 66 4 (Nat.le_of_ble_eq_true rfl) rfl rfl inB_X2 (by decide) tw2_48 rfl dX5_mendByTwo_75 rfl ?_
        refine w_icmp_ge C (qt := 115) dX5_mendByTwo_78 (by decide) rfl h (fun _ h => ?_) (fun _ h => ?_)
        · refine w_iinc (j := 1) C (v1.2.1 + 1) [(2, .int (v1.2.1 + 1)), (3, .int v9.2.1), (1, .int v9.2.2), (0, .ref (ad 72))] dX5_mendByTwo_115 rfl rfl rfl (by decide) rfl ?_
          refine w_goto (q := 4) C dX5_mendByTwo_118 (by decide) ?_
          exact w_sub (lv' := [(2, .int (v1.2.1 + 1)), (1, .int v9.2.2), (0, .ref (ad 72))]) [0, 2, 3] rfl (hK3 ((v9.1, v1.2.1 + 1, v9.2.2)) h)
        · refine w_iload_n C dX5_mendByTwo_81 rfl 2 rfl ?_
          refine w_iconst C (-1) dX5_mendByTwo_82 rfl (by decide) ?_
          refine w_icmp_ne C (qt := 115) dX5_mendByTwo_83 (by decide) rfl h (fun _ h => ?_) (fun _ h => ?_)
          · refine w_iinc (j := 1) C (v1.2.1 + 1) [(2, .int (v1.2.1 + 1)), (3, .int v9.2.1), (1, .int v9.2.2), (0, .ref (ad 72))] dX5_mendByTwo_115 rfl rfl rfl (by decide) rfl ?_
            refine w_goto (q := 4) C dX5_mendByTwo_118 (by decide) ?_
            exact w_sub (lv' := [(2, .int (v1.2.1 + 1)), (1, .int v9.2.2), (0, .ref (ad 72))]) [0, 2, 3] rfl (hK3 ((v9.1, v1.2.1 + 1, v9.2.2)) h)
          · refine w_aload_n C dX5_mendByTwo_86 rfl 3 rfl ?_
            refine w_iload_n C dX5_mendByTwo_87 rfl 1 rfl ?_
            refine bd1_w h (fun r12 hc h => ?_)
            refine w_callVi C (n := 1) (As := [.int v1.2.1]) (st := []) 72 (Nat.le_of_ble_eq_true rfl) rfl rfl (cfX5_changes D cI ad (l := X.2.1) C.2.2.1 hc) tw5_137 cy_X5_changes (by decide +kernel) ⟨Nat.le_of_ble_eq_true rfl, Nat.le_of_ble_eq_true rfl⟩ (by decide) rfl rfl (Nat.le_of_ble_eq_true rfl) dX5_mendByTwo_88 rfl ?_
            refine w_if_eq C (qt := 109) dX5_mendByTwo_91 (by decide) rfl h (fun _ h => ?_) (fun _ h => ?_)
            · refine w_iinc (j := 0) C (v9.2.1 + 1) [(3, .int (v9.2.1 + 1)), (2, .int v1.2.1), (1, .int v9.2.2), (0, .ref (ad 72))] dX5_mendByTwo_109 rfl rfl rfl (by decide) rfl ?_
              refine w_goto (q := 70) C dX5_mendByTwo_112 (by decide) ?_
              exact w_sub (lv' := [(3, .int (v9.2.1 + 1)), (2, .int v1.2.1), (1, .int v9.2.2), (0, .ref (ad 72))]) [0, 1, 2, 3] rfl (hK11 ((v9.1, v9.2.1 + 1, v9.2.2)) h)
            · refine w_aload_n C dX5_mendByTwo_94 rfl 3 rfl ?_
              refine w_iload_n C dX5_mendByTwo_95 rfl 0 rfl ?_
              refine bd1_w h (fun r13 hc h => ?_)
              refine w_callVi C (n := 1) (As := [.int v9.2.1]) (st := []) 72 (Nat.le_of_ble_eq_true rfl) rfl rfl (cfX5_changes D cI ad (l := X.2.1) C.2.2.1 hc) tw5_137 cy_X5_changes (by decide +kernel) ⟨Nat.le_of_ble_eq_true rfl, Nat.le_of_ble_eq_true rfl⟩ (by decide) rfl rfl (Nat.le_of_ble_eq_true rfl) dX5_mendByTwo_96 rfl ?_
              refine w_if_eq C (qt := 109) dX5_mendByTwo_99 (by decide) rfl h (fun _ h => ?_) (fun _ h => ?_)
              · refine w_iinc (j := 0) C (v9.2.1 + 1) [(3, .int (v9.2.1 + 1)), (2, .int v1.2.1), (1, .int v9.2.2), (0, .ref (ad 72))] dX5_mendByTwo_109 rfl rfl rfl (by decide) rfl ?_
                refine w_goto (q := 70) C dX5_mendByTwo_112 (by decide) ?_
                exact w_sub (lv' := [(3, .int (v9.2.1 + 1)), (2, .int v1.2.1), (1, .int v9.2.2), (0, .ref (ad 72))]) [0, 1, 2, 3] rfl (hK11 ((v9.1, v9.2.1 + 1, v9.2.2)) h)
              · refine w_aload_n C dX5_mendByTwo_102 rfl 3 rfl ?_
                refine w_iload_n C dX5_mendByTwo_103 rfl 1 rfl ?_
                refine w_iload_n C dX5_mendByTwo_104 rfl 0 rfl ?_
                refine bd2_w h (fun r14 u15 hc h => ?_)
                refine w_callVi C (n := 2) (As := [.int v1.2.1, .int v9.2.1]) (st := []) 72 (Nat.le_of_ble_eq_true rfl) rfl rfl (cfX5_firstFacingCouple D cI ad (l := X.2.1) C.2.2.1 hc) tw5_157 cy_X5_firstFacingCouple (by decide +kernel) ⟨Nat.le_of_ble_eq_true rfl, Nat.le_of_ble_eq_true rfl⟩ (by decide) rfl rfl (Nat.le_of_ble_eq_true rfl) dX5_mendByTwo_105 rfl ?_
                refine w_istore_n C [(1, .int r14), (3, .int v9.2.1), (2, .int v1.2.1), (0, .ref (ad 72))] dX5_mendByTwo_108 rfl (by decide) rfl ?_
                refine w_iinc (j := 1) C (v9.2.1 + 1) [(3, .int (v9.2.1 + 1)), (1, .int r14), (2, .int v1.2.1), (0, .ref (ad 72))] dX5_mendByTwo_109 rfl rfl rfl (by decide) rfl ?_
                refine w_goto (q := 70) C dX5_mendByTwo_112 (by decide) ?_
                exact w_sub (lv' := [(3, .int (v9.2.1 + 1)), (2, .int v1.2.1), (1, .int r14), (0, .ref (ad 72))]) [0, 2, 1, 3] rfl (hK11 ((u15, v9.2.1 + 1, r14)) h)
      · refine w_iconst C (-1) dX5_mendByTwo_50 rfl (by decide) ?_
        exact w_ri2 hr h (by decide) dX5_mendByTwo_51
theorem cfX5_mendByTwo (D : va_G) (cI : ClassId) (ad : Nat → Nat) {l : Launch} (had : gAp (gC D cI ad)) {F : Nat} {σ : St}  {r : Int32} {σ' : St} (h : fX5_mendByTwo F σ = some (r, σ')) : MI l yX5_mendByTwo (wB yX5_mendByTwo cX5_mendByTwo 4 (some .int)) 5 128 (gC D cI ad) [.ref (ad 72)] σ r σ' := mk_MI had (by decide +kernel) (Nat.le_of_ble_eq_true rfl) (fun X hX C hr => wfX5_mendByTwo C hr h)

def fX10_mend (F : Nat) (σ : St) (a0 : Int32) (a1 : Int32) : Option (Nat × Int32 × St) := bd1 (fX10_checkDance F σ a0) fun t1 => if t1 = 0 then (bd1 (fX10_checkBelow F σ a1 2) fun t2 => if t2 = 0 then (bd1 (fX2_prepare F σ a0 0) fun u3 => bd2 (fX2_endsFacing F u3) fun r4 u5 => if r4 = 0 then (bd2 (fX5_mendByOne F u5) fun r6 u7 => if r6 = (-1 : Int32) then (bd2 (fX5_mendByTwo F u7) fun r8 u9 => if a1 = 0 then (if r8 = (-1 : Int32) then (some (0, r8, u9)) else some (0, 2, u9)) else some (0, r8, u9)) else if a1 = 0 then (some (0, 1, u7)) else some (0, r6, u7)) else if a1 = 0 then (some (0, 0, u5)) else some (0, (-1), u5)) else some (t2, 0, σ)) else some (t1, 0, σ)
set_option maxRecDepth 20000 in
theorem wfX10_mend {X : XT} {D : va_G} {cI : ClassId} {ad : Nat → Nat} {F : Nat} {σ : St} {a0 : Int32} {a1 : Int32} {res : Nat × Int32 × St} (C : Cx X (gC D cI ad) cX10_mend 5 RX10 8 151 2) (hr : RetXi X (gC D cI ad) cX10_mend 5 2 res) (hx : ThrX X (gC D cI ad) cX10_mend 5 2 res) (h : fX10_mend F σ a0 a1 = some res) : WP X (gC D cI ad) 5 0 0 σ [(0, .ref (ad 0)), (1, .int a0), (2, .int a1)] [] := by
  unfold fX10_mend at h
  refine w_aload_n C dX10_mend_0 rfl 0 rfl ?_
  refine w_iload_n C dX10_mend_1 rfl 1 rfl ?_
  refine bd1_w h (fun t1 hc h => ?_)
  refine w_callX C hx (n := 1) (As := [.int a0]) (st := []) 0 (Nat.le_of_ble_eq_true rfl) rfl rfl (cfX10_checkDance D cI ad (l := X.2.1) C.2.2.1 hx.1 hc) tw5_12 cy_X10_checkDance (by decide +kernel) ⟨by decide, by decide⟩ (by decide) rfl rfl (Nat.le_of_ble_eq_true rfl) dX10_mend_2 rfl h (fun h => ?_)
  refine w_aload_n C dX10_mend_5 rfl 0 rfl ?_
  refine w_iload_n C dX10_mend_6 rfl 2 rfl ?_
  refine w_iconst C 2 dX10_mend_7 rfl (by decide) ?_
  refine bd1_w h (fun t2 hc h => ?_)
  refine w_callX C hx (n := 2) (As := [.int a1, .int 2]) (st := []) 0 (Nat.le_of_ble_eq_true rfl) rfl rfl (cfX10_checkBelow D cI ad (l := X.2.1) C.2.2.1 hx.1 hc) tw5_51 cy_X10_checkBelow (by decide +kernel) ⟨by decide, by decide⟩ (by decide) rfl rfl (Nat.le_of_ble_eq_true rfl) dX10_mend_8 rfl h (fun h => ?_)
  refine w_aload_n C dX10_mend_11 rfl 0 rfl ?_
  refine w_get C 0 10 (Nat.le_of_ble_eq_true rfl) rfl rfl inB_X10 (by decide) tw2_182 rfl dX10_mend_12 rfl ?_
  refine w_aload_n C dX10_mend_15 rfl 0 rfl ?_
  refine w_get C 0 7 (Nat.le_of_ble_eq_true rfl) rfl rfl inB_X10 (by decide) tw2_179 rfl dX10_mend_16 rfl ?_
  refine w_iload_n C dX10_mend_19 rfl 1 rfl ?_
  refine w_iconst C 0 dX10_mend_20 rfl (by decide) ?_
  refine bd1_w h (fun u3 hc h => ?_)
  refine w_callVv C (n := 3) (As := [.ref (ad 30), .int a0, .int 0]) (st := []) 66 (Nat.le_of_ble_eq_true rfl) rfl rfl (cfX2_prepare D cI ad (l := X.2.1) C.2.2.1 hc) tw5_23 cy_X2_prepare (by decide +kernel) ⟨Nat.le_of_ble_eq_true rfl, Nat.le_of_ble_eq_true rfl⟩ (by decide) rfl rfl (Nat.le_of_ble_eq_true rfl) dX10_mend_21 rfl ?_
  refine w_aload_n C dX10_mend_24 rfl 0 rfl ?_
  refine w_get C 0 10 (Nat.le_of_ble_eq_true rfl) rfl rfl inB_X10 (by decide) tw2_182 rfl dX10_mend_25 rfl ?_
  refine bd2_w h (fun r4 u5 hc h => ?_)
  refine w_callVi C (n := 0) (As := []) (st := []) 66 (Nat.le_of_ble_eq_true rfl) rfl rfl (cfX2_endsFacing D cI ad (l := X.2.1) C.2.2.1 hc) tw5_24 cy_X2_endsFacing (by decide +kernel) ⟨Nat.le_of_ble_eq_true rfl, Nat.le_of_ble_eq_true rfl⟩ (by decide) rfl rfl (Nat.le_of_ble_eq_true rfl) dX10_mend_28 rfl ?_
  refine w_if_eq C (qt := 44) dX10_mend_31 (by decide) rfl h (fun _ h => ?_) (fun _ h => ?_)
  · refine w_aload_n C dX10_mend_44 rfl 0 rfl ?_
    refine w_get C 0 11 (Nat.le_of_ble_eq_true rfl) rfl rfl inB_X10 (by decide) tw2_183 rfl dX10_mend_45 rfl ?_
    refine bd2_w h (fun r6 u7 hc h => ?_)
    refine w_callVi C (n := 0) (As := []) (st := []) 72 (Nat.le_of_ble_eq_true rfl) rfl rfl (cfX5_mendByOne D cI ad (l := X.2.1) C.2.2.1 hc) tw5_133 cy_X5_mendByOne (by decide +kernel) ⟨Nat.le_of_ble_eq_true rfl, Nat.le_of_ble_eq_true rfl⟩ (by decide) rfl rfl (Nat.le_of_ble_eq_true rfl) dX10_mend_48 rfl ?_
    refine w_istore_n C [(3, .int r6), (0, .ref (ad 0)), (1, .int a0), (2, .int a1)] dX10_mend_51 rfl (by decide) rfl ?_
    refine w_iload_n C dX10_mend_52 rfl 0 rfl ?_
    refine w_iconst C (-1) dX10_mend_53 rfl (by decide) ?_
    refine w_icmp_eq C (qt := 67) dX10_mend_54 (by decide) rfl h (fun _ h => ?_) (fun _ h => ?_)
    · refine w_aload_n C dX10_mend_67 rfl 1 rfl ?_
      refine w_get C 0 11 (Nat.le_of_ble_eq_true rfl) rfl rfl inB_X10 (by decide) tw2_183 rfl dX10_mend_68 rfl ?_
      refine bd2_w h (fun r8 u9 hc h => ?_)
      refine w_callVi C (n := 0) (As := []) (st := []) 72 (Nat.le_of_ble_eq_true rfl) rfl rfl (cfX5_mendByTwo D cI ad (l := X.2.1) C.2.2.1 hc) tw5_147 cy_X5_mendByTwo (by decide +kernel) ⟨Nat.le_of_ble_eq_true rfl, Nat.le_of_ble_eq_true rfl⟩ (by decide) rfl rfl (Nat.le_of_ble_eq_true rfl) dX10_mend_71 rfl ?_
      refine w_istore C [(4, .int r8), (3, .int r6), (0, .ref (ad 0)), (1, .int a0), (2, .int a1)] dX10_mend_74 rfl (by decide) rfl ?_
      refine w_iload_n C dX10_mend_76 rfl 4 rfl ?_
      refine w_if_ne C (qt := 90) dX10_mend_77 (by decide) rfl h (fun _ h => ?_) (fun _ h => ?_)
      · refine w_iload C dX10_mend_90 rfl 0 rfl ?_
        exact w_rxi hr h (by decide) dX10_mend_92
      · refine w_iload C dX10_mend_80 rfl 0 rfl ?_
        refine w_iconst C (-1) dX10_mend_82 rfl (by decide) ?_
        refine w_icmp_eq C (qt := 90) dX10_mend_83 (by decide) rfl h (fun _ h => ?_) (fun _ h => ?_)
        · refine w_iload C dX10_mend_90 rfl 0 rfl ?_
          exact w_rxi hr h (by decide) dX10_mend_92
        · refine w_iconst C 2 dX10_mend_86 rfl (by decide) ?_
          refine w_goto (q := 92) C dX10_mend_87 (by decide) ?_
          exact w_rxi hr h (by decide) dX10_mend_92
    · refine w_iload_n C dX10_mend_57 rfl 3 rfl ?_
      refine w_if_ne C (qt := 65) dX10_mend_58 (by decide) rfl h (fun _ h => ?_) (fun _ h => ?_)
      · refine w_iload_n C dX10_mend_65 rfl 0 rfl ?_
        exact w_rxi hr h (by decide) dX10_mend_66
      · refine w_iconst C 1 dX10_mend_61 rfl (by decide) ?_
        refine w_goto (q := 66) C dX10_mend_62 (by decide) ?_
        exact w_rxi hr h (by decide) dX10_mend_66
  · refine w_iload_n C dX10_mend_34 rfl 2 rfl ?_
    refine w_if_ne C (qt := 42) dX10_mend_35 (by decide) rfl h (fun _ h => ?_) (fun _ h => ?_)
    · refine w_iconst C (-1) dX10_mend_42 rfl (by decide) ?_
      exact w_rxi hr h (by decide) dX10_mend_43
    · refine w_iconst C 0 dX10_mend_38 rfl (by decide) ?_
      refine w_goto (q := 43) C dX10_mend_39 (by decide) ?_
      exact w_rxi hr h (by decide) dX10_mend_43
theorem cfX10_mend (D : va_G) (cI : ClassId) (ad : Nat → Nat) {l : Launch} (had : gAp (gC D cI ad)) (hst : l.stackTraces = false) {F : Nat} {σ : St} {a0 : Int32} {a1 : Int32} {res : Nat × Int32 × St} (h : fX10_mend F σ a0 a1 = some res) : MX l yX10_mend (wB yX10_mend cX10_mend 5 (some .int)) 8 151 2 (gC D cI ad) [.ref (ad 0), .int a0, .int a1] σ res := mk_MX had (by decide +kernel) (Nat.le_of_ble_eq_true rfl) hst rfl (by decide) (by decide) (fun X hX C hr hx => wfX10_mend C hr hx h)

def fX5_firstCost (F : Nat) (σ : St) (a0 : Int32) : Option (Int32 × St) := ckI (a0) 10 (nm (σ 71 (Int32.toNatClampNeg a0)) fun x1 => nm (x1 - 1) fun x2 => lp (fun (K4 : (St × Int32 × Int32) → Option (Int32 × St)) (v3 : St × Int32 × Int32) => jn (fun v6 : Unit => ckI (a0) 10 (nm (up v3.1 71 (Int32.toNatClampNeg a0) x1) fun u9 => some (v3.2.2, u9))) fun J7 => if (x1 + 1) < v3.2.1 then (J7 (())) else if v3.2.2 = (-1 : Int32) then (ckI (a0) 10 (nm (up v3.1 71 (Int32.toNatClampNeg a0) v3.2.1) fun u10 => if v3.2.1 < 0 then (K4 ((u10, v3.2.1 + 2, v3.2.2))) else if (9 : Int32) < v3.2.1 then (K4 ((u10, v3.2.1 + 2, v3.2.2))) else bd2 (fX2_endsFacing F u10) fun r11 u12 => if r11 = 0 then (nm ((10 * a0) + v3.2.1) fun x13 => K4 ((u12, v3.2.1 + 2, x13))) else K4 ((u12, v3.2.1 + 2, v3.2.2)))) else J7 (())) F ((σ, x2, (-1))))
set_option maxRecDepth 20000 in
theorem wfX5_firstCost {X : XT} {D : va_G} {cI : ClassId} {ad : Nat → Nat} {F : Nat} {σ : St} {a0 : Int32} {r : Int32} {σ' : St} (C : Cx X (gC D cI ad) cX5_firstCost 5 RX5 4 98 0) (hr : RetI X (gC D cI ad) cX5_firstCost 5 0 r σ') (h : fX5_firstCost F σ a0 = some (r, σ')) : WP X (gC D cI ad) 5 0 0 σ [(0, .ref (ad 72)), (1, .int a0)] [] := by
  unfold fX5_firstCost at h
  refine w_aload_n C dX5_firstCost_0 rfl 0 rfl ?_
  refine w_get C 72 1 (Nat.le_of_ble_eq_true rfl) rfl rfl inB_X5 (by decide) tw2_75 rfl dX5_firstCost_1 rfl ?_
  refine w_get C 66 2 (Nat.le_of_ble_eq_true rfl) rfl rfl inB_X2 (by decide) tw2_44 rfl dX5_firstCost_4 rfl ?_
  refine w_iload_n C dX5_firstCost_7 rfl 1 rfl ?_
  refine w_iald C 71 10 0 (Nat.le_of_ble_eq_true rfl) (fun _ => rfl) rfl h dX5_firstCost_8 rfl (fun h => ?_)
  refine w_nm h (fun x1 h => ?_)
  refine w_istore_n C [(2, .int x1), (0, .ref (ad 72)), (1, .int a0)] dX5_firstCost_9 rfl (by decide) rfl ?_
  refine w_iconst C (-1) dX5_firstCost_10 rfl (by decide) ?_
  refine w_istore_n C [(3, .int ((-1))), (2, .int x1), (0, .ref (ad 72)), (1, .int a0)] dX5_firstCost_11 rfl (by decide) rfl ?_
  refine w_iload_n C dX5_firstCost_12 rfl 1 rfl ?_
  refine w_iconst C 1 dX5_firstCost_13 rfl (by decide) ?_
  refine w_isub C dX5_firstCost_14 rfl ?_
  refine w_nm h (fun x2 h => ?_)
  refine w_istore C [(4, .int x2), (3, .int ((-1))), (2, .int x1), (0, .ref (ad 72)), (1, .int a0)] dX5_firstCost_15 rfl (by decide) rfl ?_
  refine w_sub (lv' := [(4, .int x2), (3, .int ((-1))), (2, .int x1), (0, .ref (ad 72)), (1, .int a0)]) [0, 1, 2, 3, 4] rfl ?_
  refine lp_w (fun v3 : St × Int32 × Int32 => WP X (gC D cI ad) 5 0 17 v3.1 [(4, .int v3.2.1), (3, .int v3.2.2), (2, .int x1), (0, .ref (ad 72)), (1, .int a0)] []) (fun K4 hK5 v3 h => ?_) F _ h
  refine w_iload C dX5_firstCost_17 rfl 0 rfl ?_
  refine w_iload_n C dX5_firstCost_19 rfl 2 rfl ?_
  refine w_iconst C 1 dX5_firstCost_20 rfl (by decide) ?_
  refine w_iadd C dX5_firstCost_21 rfl ?_
  refine jn_w (fun v6 : Unit => WP X (gC D cI ad) 5 0 77 v3.1 [(3, .int v3.2.2), (2, .int x1), (0, .ref (ad 72)), (1, .int a0)] []) h (fun v6 h => ?_) (fun J7 hJ8 h => ?_)
  · refine w_aload_n C dX5_firstCost_77 rfl 2 rfl ?_
    refine w_get C 72 1 (Nat.le_of_ble_eq_true rfl) rfl rfl inB_X5 (by decide) tw2_75 rfl dX5_firstCost_78 rfl ?_
    refine w_get C 66 2 (Nat.le_of_ble_eq_true rfl) rfl rfl inB_X2 (by decide) tw2_44 rfl dX5_firstCost_81 rfl ?_
    refine w_iload_n C dX5_firstCost_84 rfl 3 rfl ?_
    refine w_iload_n C dX5_firstCost_85 rfl 1 rfl ?_
    refine w_iast C 71 10 0 (Nat.le_of_ble_eq_true rfl) (fun _ => rfl) rfl h dX5_firstCost_86 rfl (fun h => ?_)
    refine w_nst h (fun u9 h => ?_)
    refine w_iload_n C dX5_firstCost_87 rfl 0 rfl ?_
    exact w_ri2 hr h (by decide) dX5_firstCost_88
  · refine w_icmp_gt C (qt := 77) dX5_firstCost_22 (by decide) rfl h (fun _ h => ?_) (fun _ h => ?_)
    · exact w_sub (lv' := [(3, .int v3.2.2), (2, .int x1), (0, .ref (ad 72)), (1, .int a0)]) [1, 2, 3, 4] rfl (hJ8 (()) h)
    · refine w_iload_n C dX5_firstCost_25 rfl 1 rfl ?_
      refine w_iconst C (-1) dX5_firstCost_26 rfl (by decide) ?_
      refine w_icmp_ne C (qt := 77) dX5_firstCost_27 (by decide) rfl h (fun _ h => ?_) (fun _ h => ?_)
      · exact w_sub (lv' := [(3, .int v3.2.2), (2, .int x1), (0, .ref (ad 72)), (1, .int a0)]) [1, 2, 3, 4] rfl (hJ8 (()) h)
      · refine w_aload_n C dX5_firstCost_30 rfl 3 rfl ?_
        refine w_get C 72 1 (Nat.le_of_ble_eq_true rfl) rfl rfl inB_X5 (by decide) tw2_75 rfl dX5_firstCost_31 rfl ?_
        refine w_get C 66 2 (Nat.le_of_ble_eq_true rfl) rfl rfl inB_X2 (by decide) tw2_44 rfl dX5_firstCost_34 rfl ?_
        refine w_iload_n C dX5_firstCost_37 rfl 4 rfl ?_
        refine w_iload C dX5_firstCost_38 rfl 0 rfl ?_
        refine w_iast C 71 10 0 (Nat.le_of_ble_eq_true rfl) (fun _ => rfl) rfl h dX5_firstCost_40 rfl (fun h => ?_)
        refine w_nst h (fun u10 h => ?_)
        refine w_iload C dX5_firstCost_41 rfl 0 rfl ?_
        refine w_if_lt C (qt := 71) dX5_firstCost_43 (by decide) rfl h (fun _ h => ?_) (fun _ h => ?_)
        · refine w_iinc (j := 0) C (v3.2.1 + 2) [(4, .int (v3.2.1 + 2)), (3, .int v3.2.2), (2, .int x1), (0, .ref (ad 72)), (1, .int a0)] dX5_firstCost_71 rfl rfl rfl (by decide) rfl ?_
          refine w_goto (q := 17) C dX5_firstCost_74 (by decide) ?_
          exact w_sub (lv' := [(4, .int (v3.2.1 + 2)), (3, .int v3.2.2), (2, .int x1), (0, .ref (ad 72)), (1, .int a0)]) [0, 1, 2, 3, 4] rfl (hK5 ((u10, v3.2.1 + 2, v3.2.2)) h)
        · refine w_iload C dX5_firstCost_46 rfl 0 rfl ?_
          refine w_bipush C 9 dX5_firstCost_48 rfl (by decide) ?_
          refine w_icmp_gt C (qt := 71) dX5_firstCost_50 (by decide) rfl h (fun _ h => ?_) (fun _ h => ?_)
          · refine w_iinc (j := 0) C (v3.2.1 + 2) [(4, .int (v3.2.1 + 2)), (3, .int v3.2.2), (2, .int x1), (0, .ref (ad 72)), (1, .int a0)] dX5_firstCost_71 rfl rfl rfl (by decide) rfl ?_
            refine w_goto (q := 17) C dX5_firstCost_74 (by decide) ?_
            exact w_sub (lv' := [(4, .int (v3.2.1 + 2)), (3, .int v3.2.2), (2, .int x1), (0, .ref (ad 72)), (1, .int a0)]) [0, 1, 2, 3, 4] rfl (hK5 ((u10, v3.2.1 + 2, v3.2.2)) h)
          · refine w_aload_n C dX5_firstCost_53 rfl 3 rfl ?_
            refine w_get C 72 1 (Nat.le_of_ble_eq_true rfl) rfl rfl inB_X5 (by decide) tw2_75 rfl dX5_firstCost_54 rfl ?_
            refine bd2_w h (fun r11 u12 hc h => ?_)
            refine w_callVi C (n := 0) (As := []) (st := []) 66 (Nat.le_of_ble_eq_true rfl) rfl rfl (cfX2_endsFacing D cI ad (l := X.2.1) C.2.2.1 hc) tw5_146 cy_X2_endsFacing (by decide +kernel) ⟨Nat.le_of_ble_eq_true rfl, Nat.le_of_ble_eq_true rfl⟩ (by decide) rfl rfl (Nat.le_of_ble_eq_true rfl) dX5_firstCost_57 rfl ?_
            refine w_if_ne C (qt := 71) dX5_firstCost_60 (by decide) rfl h (fun _ h => ?_) (fun _ h => ?_)
            · refine w_iinc (j := 0) C (v3.2.1 + 2) [(4, .int (v3.2.1 + 2)), (3, .int v3.2.2), (2, .int x1), (0, .ref (ad 72)), (1, .int a0)] dX5_firstCost_71 rfl rfl rfl (by decide) rfl ?_
              refine w_goto (q := 17) C dX5_firstCost_74 (by decide) ?_
              exact w_sub (lv' := [(4, .int (v3.2.1 + 2)), (3, .int v3.2.2), (2, .int x1), (0, .ref (ad 72)), (1, .int a0)]) [0, 1, 2, 3, 4] rfl (hK5 ((u12, v3.2.1 + 2, v3.2.2)) h)
            · refine w_bipush C 10 dX5_firstCost_63 rfl (by decide) ?_
              refine w_iload_n C dX5_firstCost_65 rfl 4 rfl ?_
              refine w_imul C dX5_firstCost_66 rfl ?_
              refine w_iload C dX5_firstCost_67 rfl 0 rfl ?_
              refine w_iadd C dX5_firstCost_69 rfl ?_
              refine w_nm h (fun x13 h => ?_)
              refine w_istore_n C [(3, .int x13), (4, .int v3.2.1), (2, .int x1), (0, .ref (ad 72)), (1, .int a0)] dX5_firstCost_70 rfl (by decide) rfl ?_
              refine w_iinc (j := 1) C (v3.2.1 + 2) [(4, .int (v3.2.1 + 2)), (3, .int x13), (2, .int x1), (0, .ref (ad 72)), (1, .int a0)] dX5_firstCost_71 rfl rfl rfl (by decide) rfl ?_
              refine w_goto (q := 17) C dX5_firstCost_74 (by decide) ?_
              exact w_sub (lv' := [(4, .int (v3.2.1 + 2)), (3, .int x13), (2, .int x1), (0, .ref (ad 72)), (1, .int a0)]) [0, 1, 2, 3, 4] rfl (hK5 ((u12, v3.2.1 + 2, x13)) h)
theorem cfX5_firstCost (D : va_G) (cI : ClassId) (ad : Nat → Nat) {l : Launch} (had : gAp (gC D cI ad)) {F : Nat} {σ : St} {a0 : Int32} {r : Int32} {σ' : St} (h : fX5_firstCost F σ a0 = some (r, σ')) : MI l yX5_firstCost (wB yX5_firstCost cX5_firstCost 5 (some .int)) 4 98 (gC D cI ad) [.ref (ad 72), .int a0] σ r σ' := mk_MI had (by decide +kernel) (Nat.le_of_ble_eq_true rfl) (fun X hX C hr => wfX5_firstCost C hr h)

def fX5_costliest (F : Nat) (σ : St) : Option (Int32 × St) := lp (fun (K2 : (St × Int32 × Int32) → Option (Int32 × St)) (v1 : St × Int32 × Int32) => if (v1.1 66 4) ≤ v1.2.1 then (some (v1.2.2, v1.1)) else if v1.2.2 = (-1 : Int32) then (bd1 (fX5_changes F v1.1 v1.2.1) fun r4 => if r4 = 0 then (K2 ((v1.1, v1.2.1 + 1, v1.2.2))) else bd2 (fX5_firstCost F v1.1 v1.2.1) fun r5 u6 => K2 ((u6, v1.2.1 + 1, r5))) else some (v1.2.2, v1.1)) F ((σ, 0, (-1)))
set_option maxRecDepth 20000 in
theorem wfX5_costliest {X : XT} {D : va_G} {cI : ClassId} {ad : Nat → Nat} {F : Nat} {σ : St}  {r : Int32} {σ' : St} (C : Cx X (gC D cI ad) cX5_costliest 3 RX5 5 122 0) (hr : RetI X (gC D cI ad) cX5_costliest 3 0 r σ') (h : fX5_costliest F σ = some (r, σ')) : WP X (gC D cI ad) 3 0 0 σ [(0, .ref (ad 72))] [] := by
  unfold fX5_costliest at h
  refine w_iconst C (-1) dX5_costliest_0 rfl (by decide) ?_
  refine w_istore_n C [(1, .int ((-1))), (0, .ref (ad 72))] dX5_costliest_1 rfl (by decide) rfl ?_
  refine w_iconst C 0 dX5_costliest_2 rfl (by decide) ?_
  refine w_istore_n C [(2, .int 0), (1, .int ((-1))), (0, .ref (ad 72))] dX5_costliest_3 rfl (by decide) rfl ?_
  refine w_sub (lv' := [(2, .int 0), (1, .int ((-1))), (0, .ref (ad 72))]) [0, 1, 2] rfl ?_
  refine lp_w (fun v1 : St × Int32 × Int32 => WP X (gC D cI ad) 3 0 4 v1.1 [(2, .int v1.2.1), (1, .int v1.2.2), (0, .ref (ad 72))] []) (fun K2 hK3 v1 h => ?_) F _ h
  refine w_iload_n C dX5_costliest_4 rfl 0 rfl ?_
  refine w_aload_n C dX5_costliest_5 rfl 2 rfl ?_
  refine w_get C 72 1 (Nat.le_of_ble_eq_true rfl) rfl rfl inB_X5 (by decide) tw2_75 rfl dX5_costliest_6 rfl ?_
  refine w_get C 66 4 (Nat.le_of_ble_eq_true rfl) rfl rfl inB_X2 (by decide) tw2_48 rfl dX5_costliest_9 rfl ?_
  refine w_icmp_ge C (qt := 40) dX5_costliest_12 (by decide) rfl h (fun _ h => ?_) (fun _ h => ?_)
  · refine w_iload_n C dX5_costliest_40 rfl 1 rfl ?_
    exact w_ri2 hr h (by decide) dX5_costliest_41
  · refine w_iload_n C dX5_costliest_15 rfl 1 rfl ?_
    refine w_iconst C (-1) dX5_costliest_16 rfl (by decide) ?_
    refine w_icmp_ne C (qt := 40) dX5_costliest_17 (by decide) rfl h (fun _ h => ?_) (fun _ h => ?_)
    · refine w_iload_n C dX5_costliest_40 rfl 1 rfl ?_
      exact w_ri2 hr h (by decide) dX5_costliest_41
    · refine w_aload_n C dX5_costliest_20 rfl 2 rfl ?_
      refine w_iload_n C dX5_costliest_21 rfl 0 rfl ?_
      refine bd1_w h (fun r4 hc h => ?_)
      refine w_callVi C (n := 1) (As := [.int v1.2.1]) (st := []) 72 (Nat.le_of_ble_eq_true rfl) rfl rfl (cfX5_changes D cI ad (l := X.2.1) C.2.2.1 hc) tw5_137 cy_X5_changes (by decide +kernel) ⟨Nat.le_of_ble_eq_true rfl, Nat.le_of_ble_eq_true rfl⟩ (by decide) rfl rfl (Nat.le_of_ble_eq_true rfl) dX5_costliest_22 rfl ?_
      refine w_if_eq C (qt := 34) dX5_costliest_25 (by decide) rfl h (fun _ h => ?_) (fun _ h => ?_)
      · refine w_iinc (j := 0) C (v1.2.1 + 1) [(2, .int (v1.2.1 + 1)), (1, .int v1.2.2), (0, .ref (ad 72))] dX5_costliest_34 rfl rfl rfl (by decide) rfl ?_
        refine w_goto (q := 4) C dX5_costliest_37 (by decide) ?_
        exact w_sub (lv' := [(2, .int (v1.2.1 + 1)), (1, .int v1.2.2), (0, .ref (ad 72))]) [0, 1, 2] rfl (hK3 ((v1.1, v1.2.1 + 1, v1.2.2)) h)
      · refine w_aload_n C dX5_costliest_28 rfl 2 rfl ?_
        refine w_iload_n C dX5_costliest_29 rfl 0 rfl ?_
        refine bd2_w h (fun r5 u6 hc h => ?_)
        refine w_callVi C (n := 1) (As := [.int v1.2.1]) (st := []) 72 (Nat.le_of_ble_eq_true rfl) rfl rfl (cfX5_firstCost D cI ad (l := X.2.1) C.2.2.1 hc) tw5_177 cy_X5_firstCost (by decide +kernel) ⟨Nat.le_of_ble_eq_true rfl, Nat.le_of_ble_eq_true rfl⟩ (by decide) rfl rfl (Nat.le_of_ble_eq_true rfl) dX5_costliest_30 rfl ?_
        refine w_istore_n C [(1, .int r5), (2, .int v1.2.1), (0, .ref (ad 72))] dX5_costliest_33 rfl (by decide) rfl ?_
        refine w_iinc (j := 1) C (v1.2.1 + 1) [(2, .int (v1.2.1 + 1)), (1, .int r5), (0, .ref (ad 72))] dX5_costliest_34 rfl rfl rfl (by decide) rfl ?_
        refine w_goto (q := 4) C dX5_costliest_37 (by decide) ?_
        exact w_sub (lv' := [(2, .int (v1.2.1 + 1)), (1, .int r5), (0, .ref (ad 72))]) [0, 1, 2] rfl (hK3 ((u6, v1.2.1 + 1, r5)) h)
theorem cfX5_costliest (D : va_G) (cI : ClassId) (ad : Nat → Nat) {l : Launch} (had : gAp (gC D cI ad)) {F : Nat} {σ : St}  {r : Int32} {σ' : St} (h : fX5_costliest F σ = some (r, σ')) : MI l yX5_costliest (wB yX5_costliest cX5_costliest 3 (some .int)) 5 122 (gC D cI ad) [.ref (ad 72)] σ r σ' := mk_MI had (by decide +kernel) (Nat.le_of_ble_eq_true rfl) (fun X hX C hr => wfX5_costliest C hr h)

def fX10_costly (F : Nat) (σ : St) (a0 : Int32) : Option (Nat × Int32 × St) := bd1 (fX10_checkDance F σ a0) fun t1 => if t1 = 0 then (bd2 (fX10_isBinding F σ a0) fun r2 u3 => if r2 = 0 then (some (0, (-1), u3)) else bd2 (fX5_costliest F u3) fun r4 u5 => some (0, r4, u5)) else some (t1, 0, σ)
set_option maxRecDepth 20000 in
theorem wfX10_costly {X : XT} {D : va_G} {cI : ClassId} {ad : Nat → Nat} {F : Nat} {σ : St} {a0 : Int32} {res : Nat × Int32 × St} (C : Cx X (gC D cI ad) cX10_costly 2 RX10 8 144 1) (hr : RetXi X (gC D cI ad) cX10_costly 2 1 res) (hx : ThrX X (gC D cI ad) cX10_costly 2 1 res) (h : fX10_costly F σ a0 = some res) : WP X (gC D cI ad) 2 0 0 σ [(0, .ref (ad 0)), (1, .int a0)] [] := by
  unfold fX10_costly at h
  refine w_aload_n C dX10_costly_0 rfl 0 rfl ?_
  refine w_iload_n C dX10_costly_1 rfl 1 rfl ?_
  refine bd1_w h (fun t1 hc h => ?_)
  refine w_callX C hx (n := 1) (As := [.int a0]) (st := []) 0 (Nat.le_of_ble_eq_true rfl) rfl rfl (cfX10_checkDance D cI ad (l := X.2.1) C.2.2.1 hx.1 hc) tw5_12 cy_X10_checkDance (by decide +kernel) ⟨by decide, by decide⟩ (by decide) rfl rfl (Nat.le_of_ble_eq_true rfl) dX10_costly_2 rfl h (fun h => ?_)
  refine w_aload_n C dX10_costly_5 rfl 0 rfl ?_
  refine w_iload_n C dX10_costly_6 rfl 1 rfl ?_
  refine bd2_w h (fun r2 u3 hc h => ?_)
  refine w_callVi C (n := 1) (As := [.int a0]) (st := []) 0 (Nat.le_of_ble_eq_true rfl) rfl rfl (cfX10_isBinding D cI ad (l := X.2.1) C.2.2.1 hc) tw5_19 cy_X10_isBinding (by decide +kernel) ⟨Nat.le_of_ble_eq_true rfl, Nat.le_of_ble_eq_true rfl⟩ (by decide) rfl rfl (Nat.le_of_ble_eq_true rfl) dX10_costly_7 rfl ?_
  refine w_if_ne C (qt := 15) dX10_costly_10 (by decide) rfl h (fun _ h => ?_) (fun _ h => ?_)
  · refine w_aload_n C dX10_costly_15 rfl 0 rfl ?_
    refine w_get C 0 11 (Nat.le_of_ble_eq_true rfl) rfl rfl inB_X10 (by decide) tw2_183 rfl dX10_costly_16 rfl ?_
    refine bd2_w h (fun r4 u5 hc h => ?_)
    refine w_callVi C (n := 0) (As := []) (st := []) 72 (Nat.le_of_ble_eq_true rfl) rfl rfl (cfX5_costliest D cI ad (l := X.2.1) C.2.2.1 hc) tw5_173 cy_X5_costliest (by decide +kernel) ⟨Nat.le_of_ble_eq_true rfl, Nat.le_of_ble_eq_true rfl⟩ (by decide) rfl rfl (Nat.le_of_ble_eq_true rfl) dX10_costly_19 rfl ?_
    exact w_rxi hr h (by decide) dX10_costly_22
  · refine w_iconst C (-1) dX10_costly_13 rfl (by decide) ?_
    exact w_rxi hr h (by decide) dX10_costly_14
theorem cfX10_costly (D : va_G) (cI : ClassId) (ad : Nat → Nat) {l : Launch} (had : gAp (gC D cI ad)) (hst : l.stackTraces = false) {F : Nat} {σ : St} {a0 : Int32} {res : Nat × Int32 × St} (h : fX10_costly F σ a0 = some res) : MX l yX10_costly (wB yX10_costly cX10_costly 2 (some .int)) 8 144 1 (gC D cI ad) [.ref (ad 0), .int a0] σ res := mk_MX had (by decide +kernel) (Nat.le_of_ble_eq_true rfl) hst rfl (by decide) (by decide) (fun X hX C hr hx => wfX10_costly C hr hx h)

def fJ6_bitCount_0f7a4 (F : Nat) (σ : St) (a0 : Int32) : Option Int32 := nm (a0 - ((ushr a0 1) &&& 1431655765)) fun x1 => nm ((x1 &&& 858993459) + ((ushr x1 2) &&& 858993459)) fun x2 => nm ((x2 + (ushr x2 4)) &&& 252645135) fun x3 => nm (x3 + (ushr x3 8)) fun x4 => nm (x4 + (ushr x4 16)) fun x5 => some (x5 &&& 63)
set_option maxRecDepth 20000 in
theorem wfJ6_bitCount_0f7a4 {X : XT} {D : va_G} {cI : ClassId} {ad : Nat → Nat} {F : Nat} {σ : St} {a0 : Int32} {r : Int32} (C : Cx X (gC D cI ad) cJ6_bitCount_0f7a4 1 RJ6 0 0 0) (hr : RetI X (gC D cI ad) cJ6_bitCount_0f7a4 1 0 r σ) (h : fJ6_bitCount_0f7a4 F σ a0 = some r) : WP X (gC D cI ad) 1 0 0 σ [(0, .int a0)] [] := by
  unfold fJ6_bitCount_0f7a4 at h
  refine w_iload_n C dJ6_bitCount_0f7a4_0 rfl 0 rfl ?_
  refine w_iload_n C dJ6_bitCount_0f7a4_1 rfl 0 rfl ?_
  refine w_iconst C 1 dJ6_bitCount_0f7a4_2 rfl (by decide) ?_
  refine w_iushr C dJ6_bitCount_0f7a4_3 rfl ?_
  refine w_ldcw C 1431655765 dJ6_bitCount_0f7a4_4 rfl tw5_192 ?_
  refine w_iand C dJ6_bitCount_0f7a4_7 rfl ?_
  refine w_isub C dJ6_bitCount_0f7a4_8 rfl ?_
  refine w_nm h (fun x1 h => ?_)
  refine w_istore_n C [(0, .int x1)] dJ6_bitCount_0f7a4_9 rfl (by decide) rfl ?_
  refine w_iload_n C dJ6_bitCount_0f7a4_10 rfl 0 rfl ?_
  refine w_ldcw C 858993459 dJ6_bitCount_0f7a4_11 rfl tw5_193 ?_
  refine w_iand C dJ6_bitCount_0f7a4_14 rfl ?_
  refine w_iload_n C dJ6_bitCount_0f7a4_15 rfl 0 rfl ?_
  refine w_iconst C 2 dJ6_bitCount_0f7a4_16 rfl (by decide) ?_
  refine w_iushr C dJ6_bitCount_0f7a4_17 rfl ?_
  refine w_ldcw C 858993459 dJ6_bitCount_0f7a4_18 rfl tw5_193 ?_
  refine w_iand C dJ6_bitCount_0f7a4_21 rfl ?_
  refine w_iadd C dJ6_bitCount_0f7a4_22 rfl ?_
  refine w_nm h (fun x2 h => ?_)
  refine w_istore_n C [(0, .int x2)] dJ6_bitCount_0f7a4_23 rfl (by decide) rfl ?_
  refine w_iload_n C dJ6_bitCount_0f7a4_24 rfl 0 rfl ?_
  refine w_iload_n C dJ6_bitCount_0f7a4_25 rfl 0 rfl ?_
  refine w_iconst C 4 dJ6_bitCount_0f7a4_26 rfl (by decide) ?_
  refine w_iushr C dJ6_bitCount_0f7a4_27 rfl ?_
  refine w_iadd C dJ6_bitCount_0f7a4_28 rfl ?_
  refine w_ldcw C 252645135 dJ6_bitCount_0f7a4_29 rfl tw5_194 ?_
  refine w_iand C dJ6_bitCount_0f7a4_32 rfl ?_
  refine w_nm h (fun x3 h => ?_)
  refine w_istore_n C [(0, .int x3)] dJ6_bitCount_0f7a4_33 rfl (by decide) rfl ?_
  refine w_iload_n C dJ6_bitCount_0f7a4_34 rfl 0 rfl ?_
  refine w_iload_n C dJ6_bitCount_0f7a4_35 rfl 0 rfl ?_
  refine w_bipush C 8 dJ6_bitCount_0f7a4_36 rfl (by decide) ?_
  refine w_iushr C dJ6_bitCount_0f7a4_38 rfl ?_
  refine w_iadd C dJ6_bitCount_0f7a4_39 rfl ?_
  refine w_nm h (fun x4 h => ?_)
  refine w_istore_n C [(0, .int x4)] dJ6_bitCount_0f7a4_40 rfl (by decide) rfl ?_
  refine w_iload_n C dJ6_bitCount_0f7a4_41 rfl 0 rfl ?_
  refine w_iload_n C dJ6_bitCount_0f7a4_42 rfl 0 rfl ?_
  refine w_bipush C 16 dJ6_bitCount_0f7a4_43 rfl (by decide) ?_
  refine w_iushr C dJ6_bitCount_0f7a4_45 rfl ?_
  refine w_iadd C dJ6_bitCount_0f7a4_46 rfl ?_
  refine w_nm h (fun x5 h => ?_)
  refine w_istore_n C [(0, .int x5)] dJ6_bitCount_0f7a4_47 rfl (by decide) rfl ?_
  refine w_iload_n C dJ6_bitCount_0f7a4_48 rfl 0 rfl ?_
  refine w_bipush C 63 dJ6_bitCount_0f7a4_49 rfl (by decide) ?_
  refine w_iand C dJ6_bitCount_0f7a4_51 rfl ?_
  exact w_ri1 hr h (by decide) dJ6_bitCount_0f7a4_52
theorem cfJ6_bitCount_0f7a4 (D : va_G) (cI : ClassId) (ad : Nat → Nat) {l : Launch} (had : gAp (gC D cI ad)) {F : Nat} {σ : St} {a0 : Int32} {r : Int32} (h : fJ6_bitCount_0f7a4 F σ a0 = some r) : MI l yJ6_bitCount_0f7a4 (wB yJ6_bitCount_0f7a4 cJ6_bitCount_0f7a4 1 (some .int)) 0 0 (gC D cI ad) [.int a0] σ r σ := mk_MI had (by decide +kernel) (Nat.le_of_ble_eq_true rfl) (fun X hX C hr => wfJ6_bitCount_0f7a4 C hr h)

def fX10_later (F : Nat) (σ : St) (a0 : Int32) : Option (Nat × Int32 × St) := jn (fun v1 : Unit => some (2, 0, σ)) fun J2 => if a0 < 0 then (J2 (())) else if a0 ≤ (99 : Int32) then (bd2 (fX2_bindingBits F σ a0) fun r4 u5 => bd1 (fJ6_bitCount_0f7a4 F u5 r4) fun r6 => some (0, r6, u5)) else J2 (())
set_option maxRecDepth 20000 in
theorem wfX10_later {X : XT} {D : va_G} {cI : ClassId} {ad : Nat → Nat} {F : Nat} {σ : St} {a0 : Int32} {res : Nat × Int32 × St} (C : Cx X (gC D cI ad) cX10_later 2 RX10 7 122 1) (hr : RetXi X (gC D cI ad) cX10_later 2 1 res) (hx : ThrX X (gC D cI ad) cX10_later 2 1 res) (h : fX10_later F σ a0 = some res) : WP X (gC D cI ad) 2 0 0 σ [(0, .ref (ad 0)), (1, .int a0)] [] := by
  unfold fX10_later at h
  refine w_iload_n C dX10_later_0 rfl 1 rfl ?_
  refine jn_w (fun v1 : Unit => WP X (gC D cI ad) 2 0 10 σ [] []) h (fun v1 h => ?_) (fun J2 hJ3 h => ?_)
  · exact w_thrW2 hx (tx := "not 0 to 99 years") 105 (by decide) h (by decide) dX10_later_10 dX10_later_13 dX10_later_14 dX10_later_17 dX10_later_20
  · refine w_if_lt C (qt := 10) dX10_later_1 (by decide) rfl h (fun _ h => ?_) (fun _ h => ?_)
    · exact w_sub (lv' := []) [] rfl (hJ3 (()) h)
    · refine w_iload_n C dX10_later_4 rfl 1 rfl ?_
      refine w_bipush C 99 dX10_later_5 rfl (by decide) ?_
      refine w_icmp_le C (qt := 21) dX10_later_7 (by decide) rfl h (fun _ h => ?_) (fun _ h => ?_)
      · refine w_aload_n C dX10_later_21 rfl 0 rfl ?_
        refine w_get C 0 10 (Nat.le_of_ble_eq_true rfl) rfl rfl inB_X10 (by decide) tw2_182 rfl dX10_later_22 rfl ?_
        refine w_aload_n C dX10_later_25 rfl 0 rfl ?_
        refine w_get C 0 7 (Nat.le_of_ble_eq_true rfl) rfl rfl inB_X10 (by decide) tw2_179 rfl dX10_later_26 rfl ?_
        refine w_iload_n C dX10_later_29 rfl 1 rfl ?_
        refine bd2_w h (fun r4 u5 hc h => ?_)
        refine w_callVi C (n := 2) (As := [.ref (ad 30), .int a0]) (st := []) 66 (Nat.le_of_ble_eq_true rfl) rfl rfl (cfX2_bindingBits D cI ad (l := X.2.1) C.2.2.1 hc) tw4_88 cy_X2_bindingBits (by decide +kernel) ⟨Nat.le_of_ble_eq_true rfl, Nat.le_of_ble_eq_true rfl⟩ (by decide) rfl rfl (Nat.le_of_ble_eq_true rfl) dX10_later_30 rfl ?_
        refine bd1_w h (fun r6 hc h => ?_)
        refine w_callSi C (n := 1) (As := [.int r4]) (st := []) (cfJ6_bitCount_0f7a4 D cI ad (l := X.2.1) C.2.2.1 hc) tw5_189 cs_J6_bitCount_0f7a4 (by decide +kernel) ⟨Nat.le_of_ble_eq_true rfl, Nat.le_of_ble_eq_true rfl⟩ (by decide) rfl rfl (Nat.le_of_ble_eq_true rfl) dX10_later_33 rfl ?_
        exact w_rxi hr h (by decide) dX10_later_36
      · exact w_sub (lv' := []) [] rfl (hJ3 (()) h)
theorem cfX10_later (D : va_G) (cI : ClassId) (ad : Nat → Nat) {l : Launch} (had : gAp (gC D cI ad)) (hst : l.stackTraces = false) {F : Nat} {σ : St} {a0 : Int32} {res : Nat × Int32 × St} (h : fX10_later F σ a0 = some res) : MX l yX10_later (wB yX10_later cX10_later 2 (some .int)) 7 122 1 (gC D cI ad) [.ref (ad 0), .int a0] σ res := mk_MX had (by decide +kernel) (Nat.le_of_ble_eq_true rfl) hst rfl (by decide) (by decide) (fun X hX C hr hx => wfX10_later C hr hx h)

def fX6_changesIn (F : Nat) (σ : St) (a0 : Int32) (a1 : Int32) (a2 : Int32) (a3 : Int32) : Option (Int32 × St) := bd1 (fX6_isBoundBy F σ a0 a1 a2) fun r1 => if r1 = 0 then (some (0, σ)) else bd2 (fX6_limitOf F σ a0 a1 a2 a3) fun r2 u3 => ckI (a0) 8 (bd2 (fX6_limitOf F u3 a0 a1 a2 (u3 6 (Int32.toNatClampNeg a0))) fun r4 u5 => if r2 = r4 then (some (0, u5)) else some (1, u5))
set_option maxRecDepth 20000 in
theorem wfX6_changesIn {X : XT} {D : va_G} {cI : ClassId} {ad : Nat → Nat} {F : Nat} {σ : St} {a0 : Int32} {a1 : Int32} {a2 : Int32} {a3 : Int32} {r : Int32} {σ' : St} (C : Cx X (gC D cI ad) cX6_changesIn 5 RX6 4 93 0) (hr : RetZ X (gC D cI ad) cX6_changesIn 5 0 r σ') (h : fX6_changesIn F σ a0 a1 a2 a3 = some (r, σ')) : WP X (gC D cI ad) 5 0 0 σ [(0, .ref (ad 81)), (1, .int a0), (2, .int a1), (3, .int a2), (4, .int a3)] [] := by
  unfold fX6_changesIn at h
  refine w_aload_n C dX6_changesIn_0 rfl 0 rfl ?_
  refine w_iload_n C dX6_changesIn_1 rfl 1 rfl ?_
  refine w_iload_n C dX6_changesIn_2 rfl 2 rfl ?_
  refine w_iload_n C dX6_changesIn_3 rfl 3 rfl ?_
  refine bd1_w h (fun r1 hc h => ?_)
  refine w_callVi C (n := 3) (As := [.int a0, .int a1, .int a2]) (st := []) 81 (Nat.le_of_ble_eq_true rfl) rfl rfl (cfX6_isBoundBy D cI ad (l := X.2.1) C.2.2.1 hc) tw4_158 cy_X6_isBoundBy (by decide +kernel) ⟨Nat.le_of_ble_eq_true rfl, Nat.le_of_ble_eq_true rfl⟩ (by decide) rfl rfl (Nat.le_of_ble_eq_true rfl) dX6_changesIn_4 rfl ?_
  refine w_if_eq C (qt := 42) dX6_changesIn_7 (by decide) rfl h (fun _ h => ?_) (fun _ h => ?_)
  · refine w_iconst C 0 dX6_changesIn_42 rfl (by decide) ?_
    exact w_rz2 hr (by decide) h (by decide) dX6_changesIn_43
  · refine w_aload_n C dX6_changesIn_10 rfl 0 rfl ?_
    refine w_iload_n C dX6_changesIn_11 rfl 1 rfl ?_
    refine w_iload_n C dX6_changesIn_12 rfl 2 rfl ?_
    refine w_iload_n C dX6_changesIn_13 rfl 3 rfl ?_
    refine w_iload C dX6_changesIn_14 rfl 4 rfl ?_
    refine bd2_w h (fun r2 u3 hc h => ?_)
    refine w_callVi C (n := 4) (As := [.int a0, .int a1, .int a2, .int a3]) (st := []) 81 (Nat.le_of_ble_eq_true rfl) rfl rfl (cfX6_limitOf D cI ad (l := X.2.1) C.2.2.1 hc) tw4_183 cy_X6_limitOf (by decide +kernel) ⟨Nat.le_of_ble_eq_true rfl, Nat.le_of_ble_eq_true rfl⟩ (by decide) rfl rfl (Nat.le_of_ble_eq_true rfl) dX6_changesIn_16 rfl ?_
    refine w_aload_n C dX6_changesIn_19 rfl 0 rfl ?_
    refine w_iload_n C dX6_changesIn_20 rfl 1 rfl ?_
    refine w_iload_n C dX6_changesIn_21 rfl 2 rfl ?_
    refine w_iload_n C dX6_changesIn_22 rfl 3 rfl ?_
    refine w_aload_n C dX6_changesIn_23 rfl 0 rfl ?_
    refine w_get C 81 0 (Nat.le_of_ble_eq_true rfl) rfl rfl inB_X6 (by decide) tw2_101 rfl dX6_changesIn_24 rfl ?_
    refine w_get C 2 8 (Nat.le_of_ble_eq_true rfl) rfl rfl inB_X0 (by decide) tw1_91 rfl dX6_changesIn_27 rfl ?_
    refine w_iload_n C dX6_changesIn_30 rfl 1 rfl ?_
    refine w_iald C 6 8 0 (Nat.le_of_ble_eq_true rfl) (fun _ => rfl) rfl h dX6_changesIn_31 rfl (fun h => ?_)
    refine bd2_w h (fun r4 u5 hc h => ?_)
    refine w_callVi C (n := 4) (As := [.int a0, .int a1, .int a2, .int (u3 6 (Int32.toNatClampNeg a0))]) (st := [.int r2]) 81 (Nat.le_of_ble_eq_true rfl) rfl rfl (cfX6_limitOf D cI ad (l := X.2.1) C.2.2.1 hc) tw4_183 cy_X6_limitOf (by decide +kernel) ⟨Nat.le_of_ble_eq_true rfl, Nat.le_of_ble_eq_true rfl⟩ (by decide) rfl rfl (Nat.le_of_ble_eq_true rfl) dX6_changesIn_32 rfl ?_
    refine w_icmp_eq C (qt := 42) dX6_changesIn_35 (by decide) rfl h (fun _ h => ?_) (fun _ h => ?_)
    · refine w_iconst C 0 dX6_changesIn_42 rfl (by decide) ?_
      exact w_rz2 hr (by decide) h (by decide) dX6_changesIn_43
    · refine w_iconst C 1 dX6_changesIn_38 rfl (by decide) ?_
      refine w_goto (q := 43) C dX6_changesIn_39 (by decide) ?_
      exact w_rz2 hr (by decide) h (by decide) dX6_changesIn_43
theorem cfX6_changesIn (D : va_G) (cI : ClassId) (ad : Nat → Nat) {l : Launch} (had : gAp (gC D cI ad)) {F : Nat} {σ : St} {a0 : Int32} {a1 : Int32} {a2 : Int32} {a3 : Int32} {r : Int32} {σ' : St} (h : fX6_changesIn F σ a0 a1 a2 a3 = some (r, σ')) : MI l yX6_changesIn (wB yX6_changesIn cX6_changesIn 5 (some .boolean)) 4 93 (gC D cI ad) [.ref (ad 81), .int a0, .int a1, .int a2, .int a3] σ r σ' := mk_MZ had (by decide +kernel) (Nat.le_of_ble_eq_true rfl) (fun X hX C hr => wfX6_changesIn C hr h)

def fX6_countChanged (F : Nat) (σ : St) (a0 : Int32) (a1 : Int32) : Option (Int32 × St) := lp (fun (K2 : (St × Int32 × Int32) → Option (Int32 × St)) (v1 : St × Int32 × Int32) => ckI (a0) 8 (if (v1.1 7 (Int32.toNatClampNeg a0)) ≤ v1.2.1 then (some (v1.2.2, v1.1)) else bd2 (fX6_changesIn F v1.1 a0 v1.2.1 0 a1) fun r4 u5 => if r4 = 0 then (bd2 (fX6_changesIn F u5 a0 v1.2.1 1 a1) fun r6 u7 => if r6 = 0 then (K2 ((u7, v1.2.1 + 1, v1.2.2))) else K2 ((u7, v1.2.1 + 1, v1.2.2 + 1))) else K2 ((u5, v1.2.1 + 1, v1.2.2 + 1)))) F ((σ, 0, 0))
set_option maxRecDepth 20000 in
theorem wfX6_countChanged {X : XT} {D : va_G} {cI : ClassId} {ad : Nat → Nat} {F : Nat} {σ : St} {a0 : Int32} {a1 : Int32} {r : Int32} {σ' : St} (C : Cx X (gC D cI ad) cX6_countChanged 5 RX6 5 117 0) (hr : RetI X (gC D cI ad) cX6_countChanged 5 0 r σ') (h : fX6_countChanged F σ a0 a1 = some (r, σ')) : WP X (gC D cI ad) 5 0 0 σ [(0, .ref (ad 81)), (1, .int a0), (2, .int a1)] [] := by
  unfold fX6_countChanged at h
  refine w_iconst C 0 dX6_countChanged_0 rfl (by decide) ?_
  refine w_istore_n C [(3, .int 0), (0, .ref (ad 81)), (1, .int a0), (2, .int a1)] dX6_countChanged_1 rfl (by decide) rfl ?_
  refine w_iconst C 0 dX6_countChanged_2 rfl (by decide) ?_
  refine w_istore C [(4, .int 0), (3, .int 0), (0, .ref (ad 81)), (1, .int a0), (2, .int a1)] dX6_countChanged_3 rfl (by decide) rfl ?_
  refine w_sub (lv' := [(4, .int 0), (3, .int 0), (0, .ref (ad 81)), (1, .int a0), (2, .int a1)]) [0, 1, 2, 3, 4] rfl ?_
  refine lp_w (fun v1 : St × Int32 × Int32 => WP X (gC D cI ad) 5 0 5 v1.1 [(4, .int v1.2.1), (3, .int v1.2.2), (0, .ref (ad 81)), (1, .int a0), (2, .int a1)] []) (fun K2 hK3 v1 h => ?_) F _ h
  refine w_iload C dX6_countChanged_5 rfl 0 rfl ?_
  refine w_aload_n C dX6_countChanged_7 rfl 2 rfl ?_
  refine w_get C 81 0 (Nat.le_of_ble_eq_true rfl) rfl rfl inB_X6 (by decide) tw2_101 rfl dX6_countChanged_8 rfl ?_
  refine w_get C 2 9 (Nat.le_of_ble_eq_true rfl) rfl rfl inB_X0 (by decide) tw1_97 rfl dX6_countChanged_11 rfl ?_
  refine w_iload_n C dX6_countChanged_14 rfl 3 rfl ?_
  refine w_iald C 7 8 0 (Nat.le_of_ble_eq_true rfl) (fun _ => rfl) rfl h dX6_countChanged_15 rfl (fun h => ?_)
  refine w_icmp_ge C (qt := 52) dX6_countChanged_16 (by decide) rfl h (fun _ h => ?_) (fun _ h => ?_)
  · refine w_iload_n C dX6_countChanged_52 rfl 1 rfl ?_
    exact w_ri2 hr h (by decide) dX6_countChanged_53
  · refine w_aload_n C dX6_countChanged_19 rfl 2 rfl ?_
    refine w_iload_n C dX6_countChanged_20 rfl 3 rfl ?_
    refine w_iload C dX6_countChanged_21 rfl 0 rfl ?_
    refine w_iconst C 0 dX6_countChanged_23 rfl (by decide) ?_
    refine w_iload_n C dX6_countChanged_24 rfl 4 rfl ?_
    refine bd2_w h (fun r4 u5 hc h => ?_)
    refine w_callVi C (n := 4) (As := [.int a0, .int v1.2.1, .int 0, .int a1]) (st := []) 81 (Nat.le_of_ble_eq_true rfl) rfl rfl (cfX6_changesIn D cI ad (l := X.2.1) C.2.2.1 hc) tw5_207 cy_X6_changesIn (by decide +kernel) ⟨Nat.le_of_ble_eq_true rfl, Nat.le_of_ble_eq_true rfl⟩ (by decide) rfl rfl (Nat.le_of_ble_eq_true rfl) dX6_countChanged_25 rfl ?_
    refine w_if_ne C (qt := 43) dX6_countChanged_28 (by decide) rfl h (fun _ h => ?_) (fun _ h => ?_)
    · refine w_iinc (j := 1) C (v1.2.2 + 1) [(3, .int (v1.2.2 + 1)), (4, .int v1.2.1), (0, .ref (ad 81)), (1, .int a0), (2, .int a1)] dX6_countChanged_43 rfl rfl rfl (by decide) rfl ?_
      refine w_iinc (j := 1) C (v1.2.1 + 1) [(4, .int (v1.2.1 + 1)), (3, .int (v1.2.2 + 1)), (0, .ref (ad 81)), (1, .int a0), (2, .int a1)] dX6_countChanged_46 rfl rfl rfl (by decide) rfl ?_
      refine w_goto (q := 5) C dX6_countChanged_49 (by decide) ?_
      exact w_sub (lv' := [(4, .int (v1.2.1 + 1)), (3, .int (v1.2.2 + 1)), (0, .ref (ad 81)), (1, .int a0), (2, .int a1)]) [0, 1, 2, 3, 4] rfl (hK3 ((u5, v1.2.1 + 1, v1.2.2 + 1)) h)
    · refine w_aload_n C dX6_countChanged_31 rfl 2 rfl ?_
      refine w_iload_n C dX6_countChanged_32 rfl 3 rfl ?_
      refine w_iload C dX6_countChanged_33 rfl 0 rfl ?_
      refine w_iconst C 1 dX6_countChanged_35 rfl (by decide) ?_
      refine w_iload_n C dX6_countChanged_36 rfl 4 rfl ?_
      refine bd2_w h (fun r6 u7 hc h => ?_)
      refine w_callVi C (n := 4) (As := [.int a0, .int v1.2.1, .int 1, .int a1]) (st := []) 81 (Nat.le_of_ble_eq_true rfl) rfl rfl (cfX6_changesIn D cI ad (l := X.2.1) C.2.2.1 hc) tw5_207 cy_X6_changesIn (by decide +kernel) ⟨Nat.le_of_ble_eq_true rfl, Nat.le_of_ble_eq_true rfl⟩ (by decide) rfl rfl (Nat.le_of_ble_eq_true rfl) dX6_countChanged_37 rfl ?_
      refine w_if_eq C (qt := 46) dX6_countChanged_40 (by decide) rfl h (fun _ h => ?_) (fun _ h => ?_)
      · refine w_iinc (j := 0) C (v1.2.1 + 1) [(4, .int (v1.2.1 + 1)), (3, .int v1.2.2), (0, .ref (ad 81)), (1, .int a0), (2, .int a1)] dX6_countChanged_46 rfl rfl rfl (by decide) rfl ?_
        refine w_goto (q := 5) C dX6_countChanged_49 (by decide) ?_
        exact w_sub (lv' := [(4, .int (v1.2.1 + 1)), (3, .int v1.2.2), (0, .ref (ad 81)), (1, .int a0), (2, .int a1)]) [0, 1, 2, 3, 4] rfl (hK3 ((u7, v1.2.1 + 1, v1.2.2)) h)
      · refine w_iinc (j := 1) C (v1.2.2 + 1) [(3, .int (v1.2.2 + 1)), (4, .int v1.2.1), (0, .ref (ad 81)), (1, .int a0), (2, .int a1)] dX6_countChanged_43 rfl rfl rfl (by decide) rfl ?_
        refine w_iinc (j := 1) C (v1.2.1 + 1) [(4, .int (v1.2.1 + 1)), (3, .int (v1.2.2 + 1)), (0, .ref (ad 81)), (1, .int a0), (2, .int a1)] dX6_countChanged_46 rfl rfl rfl (by decide) rfl ?_
        refine w_goto (q := 5) C dX6_countChanged_49 (by decide) ?_
        exact w_sub (lv' := [(4, .int (v1.2.1 + 1)), (3, .int (v1.2.2 + 1)), (0, .ref (ad 81)), (1, .int a0), (2, .int a1)]) [0, 1, 2, 3, 4] rfl (hK3 ((u7, v1.2.1 + 1, v1.2.2 + 1)) h)
theorem cfX6_countChanged (D : va_G) (cI : ClassId) (ad : Nat → Nat) {l : Launch} (had : gAp (gC D cI ad)) {F : Nat} {σ : St} {a0 : Int32} {a1 : Int32} {r : Int32} {σ' : St} (h : fX6_countChanged F σ a0 a1 = some (r, σ')) : MI l yX6_countChanged (wB yX6_countChanged cX6_countChanged 5 (some .int)) 5 117 (gC D cI ad) [.ref (ad 81), .int a0, .int a1] σ r σ' := mk_MI had (by decide +kernel) (Nat.le_of_ble_eq_true rfl) (fun X hX C hr => wfX6_countChanged C hr h)

def fX10_inTime (F : Nat) (σ : St) (a0 : Int32) (a1 : Int32) : Option (Nat × Int32 × St) := bd1 (fX10_checkDance F σ a0) fun t1 => if t1 = 0 then (jn (fun v2 : Unit => some (2, 0, σ)) fun J3 => if a1 < (1 : Int32) then (J3 (())) else if a1 ≤ (4 : Int32) then (bd2 (fX10_isBinding F σ a0) fun r5 u6 => if r5 = 0 then (some (0, 0, u6)) else bd2 (fX6_countChanged F u6 a0 a1) fun r7 u8 => some (0, r7, u8)) else J3 (())) else some (t1, 0, σ)
set_option maxRecDepth 20000 in
theorem wfX10_inTime {X : XT} {D : va_G} {cI : ClassId} {ad : Nat → Nat} {F : Nat} {σ : St} {a0 : Int32} {a1 : Int32} {res : Nat × Int32 × St} (C : Cx X (gC D cI ad) cX10_inTime 3 RX10 8 141 2) (hr : RetXi X (gC D cI ad) cX10_inTime 3 2 res) (hx : ThrX X (gC D cI ad) cX10_inTime 3 2 res) (h : fX10_inTime F σ a0 a1 = some res) : WP X (gC D cI ad) 3 0 0 σ [(0, .ref (ad 0)), (1, .int a0), (2, .int a1)] [] := by
  unfold fX10_inTime at h
  refine w_aload_n C dX10_inTime_0 rfl 0 rfl ?_
  refine w_iload_n C dX10_inTime_1 rfl 1 rfl ?_
  refine bd1_w h (fun t1 hc h => ?_)
  refine w_callX C hx (n := 1) (As := [.int a0]) (st := []) 0 (Nat.le_of_ble_eq_true rfl) rfl rfl (cfX10_checkDance D cI ad (l := X.2.1) C.2.2.1 hx.1 hc) tw5_12 cy_X10_checkDance (by decide +kernel) ⟨by decide, by decide⟩ (by decide) rfl rfl (Nat.le_of_ble_eq_true rfl) dX10_inTime_2 rfl h (fun h => ?_)
  refine w_iload_n C dX10_inTime_5 rfl 2 rfl ?_
  refine w_iconst C 1 dX10_inTime_6 rfl (by decide) ?_
  refine jn_w (fun v2 : Unit => WP X (gC D cI ad) 3 1 15 σ [] []) h (fun v2 h => ?_) (fun J3 hJ4 h => ?_)
  · exact w_thrW2 hx (tx := "no such time") 106 (by decide) h (by decide) dX10_inTime_15 dX10_inTime_18 dX10_inTime_19 dX10_inTime_22 dX10_inTime_25
  · refine w_icmp_lt C (qt := 15) dX10_inTime_7 (by decide) rfl h (fun _ h => ?_) (fun _ h => ?_)
    · exact w_sub (lv' := []) [] rfl (hJ4 (()) h)
    · refine w_iload_n C dX10_inTime_10 rfl 2 rfl ?_
      refine w_iconst C 4 dX10_inTime_11 rfl (by decide) ?_
      refine w_icmp_le C (qt := 26) dX10_inTime_12 (by decide) rfl h (fun _ h => ?_) (fun _ h => ?_)
      · refine w_aload_n C dX10_inTime_26 rfl 0 rfl ?_
        refine w_iload_n C dX10_inTime_27 rfl 1 rfl ?_
        refine bd2_w h (fun r5 u6 hc h => ?_)
        refine w_callVi C (n := 1) (As := [.int a0]) (st := []) 0 (Nat.le_of_ble_eq_true rfl) rfl rfl (cfX10_isBinding D cI ad (l := X.2.1) C.2.2.1 hc) tw5_19 cy_X10_isBinding (by decide +kernel) ⟨Nat.le_of_ble_eq_true rfl, Nat.le_of_ble_eq_true rfl⟩ (by decide) rfl rfl (Nat.le_of_ble_eq_true rfl) dX10_inTime_28 rfl ?_
        refine w_if_eq C (qt := 46) dX10_inTime_31 (by decide) rfl h (fun _ h => ?_) (fun _ h => ?_)
        · refine w_iconst C 0 dX10_inTime_46 rfl (by decide) ?_
          exact w_rxi hr h (by decide) dX10_inTime_47
        · refine w_aload_n C dX10_inTime_34 rfl 0 rfl ?_
          refine w_get C 0 12 (Nat.le_of_ble_eq_true rfl) rfl rfl inB_X10 (by decide) tw2_184 rfl dX10_inTime_35 rfl ?_
          refine w_iload_n C dX10_inTime_38 rfl 1 rfl ?_
          refine w_iload_n C dX10_inTime_39 rfl 2 rfl ?_
          refine bd2_w h (fun r7 u8 hc h => ?_)
          refine w_callVi C (n := 2) (As := [.int a0, .int a1]) (st := []) 81 (Nat.le_of_ble_eq_true rfl) rfl rfl (cfX6_countChanged D cI ad (l := X.2.1) C.2.2.1 hc) tw5_203 cy_X6_countChanged (by decide +kernel) ⟨Nat.le_of_ble_eq_true rfl, Nat.le_of_ble_eq_true rfl⟩ (by decide) rfl rfl (Nat.le_of_ble_eq_true rfl) dX10_inTime_40 rfl ?_
          refine w_goto (q := 47) C dX10_inTime_43 (by decide) ?_
          exact w_rxi hr h (by decide) dX10_inTime_47
      · exact w_sub (lv' := []) [] rfl (hJ4 (()) h)
theorem cfX10_inTime (D : va_G) (cI : ClassId) (ad : Nat → Nat) {l : Launch} (had : gAp (gC D cI ad)) (hst : l.stackTraces = false) {F : Nat} {σ : St} {a0 : Int32} {a1 : Int32} {res : Nat × Int32 × St} (h : fX10_inTime F σ a0 a1 = some res) : MX l yX10_inTime (wB yX10_inTime cX10_inTime 3 (some .int)) 8 141 2 (gC D cI ad) [.ref (ad 0), .int a0, .int a1] σ res := mk_MX had (by decide +kernel) (Nat.le_of_ble_eq_true rfl) hst rfl (by decide) (by decide) (fun X hX C hr hx => wfX10_inTime C hr hx h)

def fX3_distance (F : Nat) (σ : St) : Option Int32 := some ((if 0 ≤ ((σ 68 0) - (σ 68 1)) then ((σ 68 0) - (σ 68 1)) else 0 - ((σ 68 0) - (σ 68 1))) + (if 0 ≤ ((σ 69 0) - (σ 69 1)) then ((σ 69 0) - (σ 69 1)) else 0 - ((σ 69 0) - (σ 69 1))))
set_option maxRecDepth 20000 in
theorem wfX3_distance {X : XT} {D : va_G} {cI : ClassId} {ad : Nat → Nat} {F : Nat} {σ : St}  {r : Int32} (C : Cx X (gC D cI ad) cX3_distance 1 RX3 1 21 0) (hr : RetI X (gC D cI ad) cX3_distance 1 0 r σ) (h : fX3_distance F σ = some r) : WP X (gC D cI ad) 1 0 0 σ [(0, .ref (ad 67))] [] := by
  unfold fX3_distance at h
  refine w_aload_n C dX3_distance_0 rfl 0 rfl ?_
  refine w_get C 67 0 (Nat.le_of_ble_eq_true rfl) rfl rfl inB_X3 (by decide) tw2_24 rfl dX3_distance_1 rfl ?_
  refine w_iconst C 0 dX3_distance_4 rfl (by decide) ?_
  refine w_ialdc C 68 2 0 0 (Nat.le_of_ble_eq_true rfl) (fun _ => rfl) rfl (by decide) (by show ¬ (_ ∨ _); decide) dX3_distance_5 rfl ?_
  refine w_aload_n C dX3_distance_6 rfl 0 rfl ?_
  refine w_get C 67 0 (Nat.le_of_ble_eq_true rfl) rfl rfl inB_X3 (by decide) tw2_24 rfl dX3_distance_7 rfl ?_
  refine w_iconst C 1 dX3_distance_10 rfl (by decide) ?_
  refine w_ialdc C 68 2 0 1 (Nat.le_of_ble_eq_true rfl) (fun _ => rfl) rfl (by decide) (by show ¬ (_ ∨ _); decide) dX3_distance_11 rfl ?_
  refine w_isub C dX3_distance_12 rfl ?_
  refine w_mabs C (all4 tw5_222 tw5_223 tw1_17 tw5_224) ⟨Nat.le_of_ble_eq_true rfl, Nat.le_of_ble_eq_true rfl⟩ (by decide) dX3_distance_13 rfl ?_
  refine w_aload_n C dX3_distance_16 rfl 0 rfl ?_
  refine w_get C 67 1 (Nat.le_of_ble_eq_true rfl) rfl rfl inB_X3 (by decide) tw2_27 rfl dX3_distance_17 rfl ?_
  refine w_iconst C 0 dX3_distance_20 rfl (by decide) ?_
  refine w_ialdc C 69 2 0 0 (Nat.le_of_ble_eq_true rfl) (fun _ => rfl) rfl (by decide) (by show ¬ (_ ∨ _); decide) dX3_distance_21 rfl ?_
  refine w_aload_n C dX3_distance_22 rfl 0 rfl ?_
  refine w_get C 67 1 (Nat.le_of_ble_eq_true rfl) rfl rfl inB_X3 (by decide) tw2_27 rfl dX3_distance_23 rfl ?_
  refine w_iconst C 1 dX3_distance_26 rfl (by decide) ?_
  refine w_ialdc C 69 2 0 1 (Nat.le_of_ble_eq_true rfl) (fun _ => rfl) rfl (by decide) (by show ¬ (_ ∨ _); decide) dX3_distance_27 rfl ?_
  refine w_isub C dX3_distance_28 rfl ?_
  refine w_mabs C (all4 tw5_222 tw5_223 tw1_17 tw5_224) ⟨Nat.le_of_ble_eq_true rfl, Nat.le_of_ble_eq_true rfl⟩ (by decide) dX3_distance_29 rfl ?_
  refine w_iadd C dX3_distance_32 rfl ?_
  exact w_ri1 hr h (by decide) dX3_distance_33
theorem cfX3_distance (D : va_G) (cI : ClassId) (ad : Nat → Nat) {l : Launch} (had : gAp (gC D cI ad)) {F : Nat} {σ : St}  {r : Int32} (h : fX3_distance F σ = some r) : MI l yX3_distance (wB yX3_distance cX3_distance 1 (some .int)) 1 21 (gC D cI ad) [.ref (ad 67)] σ r σ := mk_MI had (by decide +kernel) (Nat.le_of_ble_eq_true rfl) (fun X hX C hr => wfX3_distance C hr h)

def fX10_apart (F : Nat) (σ : St) (a0 : Int32) : Option (Nat × Int32 × St) := bd1 (fX10_checkDance F σ a0) fun t1 => if t1 = 0 then (bd1 (fX2_prepare F σ a0 0) fun u2 => bd2 (fX2_walkAll F u2) fun r3 u4 => bd1 (fX3_distance F u4) fun r5 => some (0, r5, u4)) else some (t1, 0, σ)
set_option maxRecDepth 20000 in
theorem wfX10_apart {X : XT} {D : va_G} {cI : ClassId} {ad : Nat → Nat} {F : Nat} {σ : St} {a0 : Int32} {res : Nat × Int32 × St} (C : Cx X (gC D cI ad) cX10_apart 2 RX10 8 131 1) (hr : RetXi X (gC D cI ad) cX10_apart 2 1 res) (hx : ThrX X (gC D cI ad) cX10_apart 2 1 res) (h : fX10_apart F σ a0 = some res) : WP X (gC D cI ad) 2 0 0 σ [(0, .ref (ad 0)), (1, .int a0)] [] := by
  unfold fX10_apart at h
  refine w_aload_n C dX10_apart_0 rfl 0 rfl ?_
  refine w_iload_n C dX10_apart_1 rfl 1 rfl ?_
  refine bd1_w h (fun t1 hc h => ?_)
  refine w_callX C hx (n := 1) (As := [.int a0]) (st := []) 0 (Nat.le_of_ble_eq_true rfl) rfl rfl (cfX10_checkDance D cI ad (l := X.2.1) C.2.2.1 hx.1 hc) tw5_12 cy_X10_checkDance (by decide +kernel) ⟨by decide, by decide⟩ (by decide) rfl rfl (Nat.le_of_ble_eq_true rfl) dX10_apart_2 rfl h (fun h => ?_)
  refine w_aload_n C dX10_apart_5 rfl 0 rfl ?_
  refine w_get C 0 10 (Nat.le_of_ble_eq_true rfl) rfl rfl inB_X10 (by decide) tw2_182 rfl dX10_apart_6 rfl ?_
  refine w_aload_n C dX10_apart_9 rfl 0 rfl ?_
  refine w_get C 0 7 (Nat.le_of_ble_eq_true rfl) rfl rfl inB_X10 (by decide) tw2_179 rfl dX10_apart_10 rfl ?_
  refine w_iload_n C dX10_apart_13 rfl 1 rfl ?_
  refine w_iconst C 0 dX10_apart_14 rfl (by decide) ?_
  refine bd1_w h (fun u2 hc h => ?_)
  refine w_callVv C (n := 3) (As := [.ref (ad 30), .int a0, .int 0]) (st := []) 66 (Nat.le_of_ble_eq_true rfl) rfl rfl (cfX2_prepare D cI ad (l := X.2.1) C.2.2.1 hc) tw5_23 cy_X2_prepare (by decide +kernel) ⟨Nat.le_of_ble_eq_true rfl, Nat.le_of_ble_eq_true rfl⟩ (by decide) rfl rfl (Nat.le_of_ble_eq_true rfl) dX10_apart_15 rfl ?_
  refine w_aload_n C dX10_apart_18 rfl 0 rfl ?_
  refine w_get C 0 10 (Nat.le_of_ble_eq_true rfl) rfl rfl inB_X10 (by decide) tw2_182 rfl dX10_apart_19 rfl ?_
  refine bd2_w h (fun r3 u4 hc h => ?_)
  refine w_callVi C (n := 0) (As := []) (st := []) 66 (Nat.le_of_ble_eq_true rfl) rfl rfl (cfX2_walkAll D cI ad (l := X.2.1) C.2.2.1 hc) tw5_25 cy_X2_walkAll (by decide +kernel) ⟨Nat.le_of_ble_eq_true rfl, Nat.le_of_ble_eq_true rfl⟩ (by decide) rfl rfl (Nat.le_of_ble_eq_true rfl) dX10_apart_22 rfl ?_
  refine w_pop C rfl dX10_apart_25 rfl ?_
  refine w_aload_n C dX10_apart_26 rfl 0 rfl ?_
  refine w_get C 0 10 (Nat.le_of_ble_eq_true rfl) rfl rfl inB_X10 (by decide) tw2_182 rfl dX10_apart_27 rfl ?_
  refine w_get C 66 1 (Nat.le_of_ble_eq_true rfl) rfl rfl inB_X2 (by decide) tw2_42 rfl dX10_apart_30 rfl ?_
  refine bd1_w h (fun r5 hc h => ?_)
  refine w_callVi C (n := 0) (As := []) (st := []) 67 (Nat.le_of_ble_eq_true rfl) rfl rfl (cfX3_distance D cI ad (l := X.2.1) C.2.2.1 hc) tw5_218 cy_X3_distance (by decide +kernel) ⟨Nat.le_of_ble_eq_true rfl, Nat.le_of_ble_eq_true rfl⟩ (by decide) rfl rfl (Nat.le_of_ble_eq_true rfl) dX10_apart_33 rfl ?_
  exact w_rxi hr h (by decide) dX10_apart_36
theorem cfX10_apart (D : va_G) (cI : ClassId) (ad : Nat → Nat) {l : Launch} (had : gAp (gC D cI ad)) (hst : l.stackTraces = false) {F : Nat} {σ : St} {a0 : Int32} {res : Nat × Int32 × St} (h : fX10_apart F σ a0 = some res) : MX l yX10_apart (wB yX10_apart cX10_apart 2 (some .int)) 8 131 1 (gC D cI ad) [.ref (ad 0), .int a0] σ res := mk_MX had (by decide +kernel) (Nat.le_of_ble_eq_true rfl) hst rfl (by decide) (by decide) (fun X hX C hr hx => wfX10_apart C hr hx h)

def fJ7_fill_53178_5 (F : Nat) (σ : St) (a1 : Int32) : Option St := lp (fun (K2 : (St × Int32) → Option St) (v1 : St × Int32) => if (8 : Int32) ≤ v1.2 then (some v1.1) else ckI (v1.2) 8 (nm (up v1.1 85 (Int32.toNatClampNeg v1.2) a1) fun u4 => K2 ((u4, v1.2 + 1)))) F ((σ, 0))
set_option maxRecDepth 20000 in
theorem wfJ7_fill_53178_5 {X : XT} {D : va_G} {cI : ClassId} {ad : Nat → Nat} {F : Nat} {σ : St} {a1 : Int32} {σ' : St} (C : Cx X (gC D cI ad) cJ7_fill_53178 4 RJ7 0 0 0) (hr : RetV X (gC D cI ad) cJ7_fill_53178 4 0 σ') (h : fJ7_fill_53178_5 F σ a1 = some σ') : WP X (gC D cI ad) 4 0 0 σ [(0, .ref (ad 85)), (1, .int a1)] [] := by
  unfold fJ7_fill_53178_5 at h
  refine w_iconst C 0 dJ7_fill_53178_0 rfl (by decide) ?_
  refine w_istore_n C [(2, .int 0), (0, .ref (ad 85)), (1, .int a1)] dJ7_fill_53178_1 rfl (by decide) rfl ?_
  refine w_aload_n C dJ7_fill_53178_2 rfl 1 rfl ?_
  refine w_alen C 85 8 0 8 (Nat.le_of_ble_eq_true rfl) (fun _ => rfl) rfl (by decide) dJ7_fill_53178_3 rfl ?_
  refine w_istore_n C [(3, .int 8), (2, .int 0), (0, .ref (ad 85)), (1, .int a1)] dJ7_fill_53178_4 rfl (by decide) rfl ?_
  refine w_sub (lv' := [(3, .int 8), (2, .int 0), (0, .ref (ad 85)), (1, .int a1)]) [0, 1, 2, 3] rfl ?_
  refine lp_w (fun v1 : St × Int32 => WP X (gC D cI ad) 4 0 5 v1.1 [(3, .int 8), (2, .int v1.2), (0, .ref (ad 85)), (1, .int a1)] []) (fun K2 hK3 v1 h => ?_) F _ h
  refine w_iload_n C dJ7_fill_53178_5 rfl 1 rfl ?_
  refine w_iload_n C dJ7_fill_53178_6 rfl 0 rfl ?_
  refine w_icmp_ge C (qt := 20) dJ7_fill_53178_7 (by decide) rfl h (fun _ h => ?_) (fun _ h => ?_)
  · exact w_rv hr h (by decide) dJ7_fill_53178_20
  · refine w_aload_n C dJ7_fill_53178_10 rfl 2 rfl ?_
    refine w_iload_n C dJ7_fill_53178_11 rfl 1 rfl ?_
    refine w_iload_n C dJ7_fill_53178_12 rfl 3 rfl ?_
    refine w_iast C 85 8 0 (Nat.le_of_ble_eq_true rfl) (fun _ => rfl) rfl h dJ7_fill_53178_13 rfl (fun h => ?_)
    refine w_nst h (fun u4 h => ?_)
    refine w_iinc (j := 1) C (v1.2 + 1) [(2, .int (v1.2 + 1)), (3, .int 8), (0, .ref (ad 85)), (1, .int a1)] dJ7_fill_53178_14 rfl rfl rfl (by decide) rfl ?_
    refine w_goto (q := 5) C dJ7_fill_53178_17 (by decide) ?_
    exact w_sub (lv' := [(3, .int 8), (2, .int (v1.2 + 1)), (0, .ref (ad 85)), (1, .int a1)]) [1, 0, 2, 3] rfl (hK3 ((u4, v1.2 + 1)) h)
theorem cfJ7_fill_53178_5 (D : va_G) (cI : ClassId) (ad : Nat → Nat) {l : Launch} (had : gAp (gC D cI ad)) {F : Nat} {σ : St} {a1 : Int32} {σ' : St} (h : fJ7_fill_53178_5 F σ a1 = some σ') : MV l yJ7_fill_53178 (wB yJ7_fill_53178 cJ7_fill_53178 4 none) 0 0 (gC D cI ad) [.ref (ad 85), .int a1] σ σ' := mk_MV had (by decide +kernel) (Nat.le_of_ble_eq_true rfl) (fun X hX C hr => wfJ7_fill_53178_5 C hr h)

def fX6_leastOf (F : Nat) (σ : St) (a0 : Int32) (a1 : Int32) (a2 : Int32) : Option Int32 := bd1 (fX6_rowOf F σ a0 a1 a2) fun r1 => ckI (r1) 128 (some (σ 83 (Int32.toNatClampNeg r1)))
set_option maxRecDepth 20000 in
theorem wfX6_leastOf {X : XT} {D : va_G} {cI : ClassId} {ad : Nat → Nat} {F : Nat} {σ : St} {a0 : Int32} {a1 : Int32} {a2 : Int32} {r : Int32} (C : Cx X (gC D cI ad) cX6_leastOf 4 RX6 1 22 0) (hr : RetI X (gC D cI ad) cX6_leastOf 4 0 r σ) (h : fX6_leastOf F σ a0 a1 a2 = some r) : WP X (gC D cI ad) 4 0 0 σ [(0, .ref (ad 81)), (1, .int a0), (2, .int a1), (3, .int a2)] [] := by
  unfold fX6_leastOf at h
  refine w_aload_n C dX6_leastOf_0 rfl 0 rfl ?_
  refine w_get C 81 3 (Nat.le_of_ble_eq_true rfl) rfl rfl inB_X6 (by decide) tw2_104 rfl dX6_leastOf_1 rfl ?_
  refine w_iload_n C dX6_leastOf_4 rfl 1 rfl ?_
  refine w_iload_n C dX6_leastOf_5 rfl 2 rfl ?_
  refine w_iload_n C dX6_leastOf_6 rfl 3 rfl ?_
  refine bd1_w h (fun r1 hc h => ?_)
  refine w_callSi C (n := 3) (As := [.int a0, .int a1, .int a2]) (st := [.ref (ad 83)]) (cfX6_rowOf D cI ad (l := X.2.1) C.2.2.1 hc) tw4_180 cs_X6_rowOf (by decide +kernel) ⟨Nat.le_of_ble_eq_true rfl, Nat.le_of_ble_eq_true rfl⟩ (by decide) rfl rfl (Nat.le_of_ble_eq_true rfl) dX6_leastOf_7 rfl ?_
  refine w_iald C 83 128 0 (Nat.le_of_ble_eq_true rfl) (fun _ => rfl) rfl h dX6_leastOf_10 rfl (fun h => ?_)
  exact w_ri1 hr h (by decide) dX6_leastOf_11
theorem cfX6_leastOf (D : va_G) (cI : ClassId) (ad : Nat → Nat) {l : Launch} (had : gAp (gC D cI ad)) {F : Nat} {σ : St} {a0 : Int32} {a1 : Int32} {a2 : Int32} {r : Int32} (h : fX6_leastOf F σ a0 a1 a2 = some r) : MI l yX6_leastOf (wB yX6_leastOf cX6_leastOf 4 (some .int)) 1 22 (gC D cI ad) [.ref (ad 81), .int a0, .int a1, .int a2] σ r σ := mk_MI had (by decide +kernel) (Nat.le_of_ble_eq_true rfl) (fun X hX C hr => wfX6_leastOf C hr h)

def fX1_contradict (F : Nat) (σ : St) (a0 : Int32) (a1 : Int32) : Option Int32 := lp (fun (K2 : Int32 → Option Int32) (v1 : Int32) => if (4 : Int32) ≤ v1 then (some 0) else nm (v1 >>> ((1 : Int32) &&& 31)) fun x4 => nm (v1 &&& 1) fun x5 => bd1 (fX0_envoy F σ a0 x4) fun r6 => bd1 (fX0_envoy F σ a1 x5) fun r7 => if r6 = r7 then (lp (fun (K9 : Int32 → Option Int32) (v8 : Int32) => if (8 : Int32) ≤ v8 then (K2 (v1 + 1)) else bd1 (fX6_leastOf F σ a0 x4 v8) fun r11 => bd1 (fX6_leastOf F σ a1 x5 v8) fun r12 => if r11 = (-1 : Int32) then (K9 (v8 + 1)) else if r12 = (-1 : Int32) then (K9 (v8 + 1)) else if r11 = r12 then (K9 (v8 + 1)) else some 1) F 0) else K2 (v1 + 1)) F 0
set_option maxRecDepth 20000 in
theorem wfX1_contradict {X : XT} {D : va_G} {cI : ClassId} {ad : Nat → Nat} {F : Nat} {σ : St} {a0 : Int32} {a1 : Int32} {r : Int32} (C : Cx X (gC D cI ad) cX1_contradict 9 RX1 2 45 0) (hr : RetZ X (gC D cI ad) cX1_contradict 9 0 r σ) (h : fX1_contradict F σ a0 a1 = some r) : WP X (gC D cI ad) 9 0 0 σ [(0, .ref (ad 84)), (1, .int a0), (2, .int a1)] [] := by
  unfold fX1_contradict at h
  refine w_iconst C 0 dX1_contradict_0 rfl (by decide) ?_
  refine w_istore_n C [(3, .int 0), (0, .ref (ad 84)), (1, .int a0), (2, .int a1)] dX1_contradict_1 rfl (by decide) rfl ?_
  refine w_sub (lv' := [(3, .int 0), (0, .ref (ad 84)), (1, .int a0), (2, .int a1)]) [0, 1, 2, 3] rfl ?_
  refine lp_w (fun v1 : Int32 => WP X (gC D cI ad) 9 0 2 σ [(3, .int v1), (0, .ref (ad 84)), (1, .int a0), (2, .int a1)] []) (fun K2 hK3 v1 h => ?_) F _ h
  refine w_iload_n C dX1_contradict_2 rfl 0 rfl ?_
  refine w_iconst C 4 dX1_contradict_3 rfl (by decide) ?_
  refine w_icmp_ge C (qt := 111) dX1_contradict_4 (by decide) rfl h (fun _ h => ?_) (fun _ h => ?_)
  · refine w_iconst C 0 dX1_contradict_111 rfl (by decide) ?_
    exact w_rz1 hr (by decide) h (by decide) dX1_contradict_112
  · refine w_iload_n C dX1_contradict_7 rfl 0 rfl ?_
    refine w_iconst C 1 dX1_contradict_8 rfl (by decide) ?_
    refine w_ishr C dX1_contradict_9 rfl ?_
    refine w_nm h (fun x4 h => ?_)
    refine w_istore C [(4, .int x4), (3, .int v1), (0, .ref (ad 84)), (1, .int a0), (2, .int a1)] dX1_contradict_10 rfl (by decide) rfl ?_
    refine w_iload_n C dX1_contradict_12 rfl 1 rfl ?_
    refine w_iconst C 1 dX1_contradict_13 rfl (by decide) ?_
    refine w_iand C dX1_contradict_14 rfl ?_
    refine w_nm h (fun x5 h => ?_)
    refine w_istore C [(5, .int x5), (4, .int x4), (3, .int v1), (0, .ref (ad 84)), (1, .int a0), (2, .int a1)] dX1_contradict_15 rfl (by decide) rfl ?_
    refine w_aload_n C dX1_contradict_17 rfl 3 rfl ?_
    refine w_get C 84 0 (Nat.le_of_ble_eq_true rfl) rfl rfl inB_X1 (by decide) tw2_128 rfl dX1_contradict_18 rfl ?_
    refine w_iload_n C dX1_contradict_21 rfl 4 rfl ?_
    refine w_iload C dX1_contradict_22 rfl 1 rfl ?_
    refine bd1_w h (fun r6 hc h => ?_)
    refine w_callVi C (n := 2) (As := [.int a0, .int x4]) (st := []) 2 (Nat.le_of_ble_eq_true rfl) rfl rfl (cfX0_envoy D cI ad (l := X.2.1) C.2.2.1 hc) tw6_1 cy_X0_envoy (by decide +kernel) ⟨Nat.le_of_ble_eq_true rfl, Nat.le_of_ble_eq_true rfl⟩ (by decide) rfl rfl (Nat.le_of_ble_eq_true rfl) dX1_contradict_24 rfl ?_
    refine w_aload_n C dX1_contradict_27 rfl 3 rfl ?_
    refine w_get C 84 0 (Nat.le_of_ble_eq_true rfl) rfl rfl inB_X1 (by decide) tw2_128 rfl dX1_contradict_28 rfl ?_
    refine w_iload_n C dX1_contradict_31 rfl 5 rfl ?_
    refine w_iload C dX1_contradict_32 rfl 0 rfl ?_
    refine bd1_w h (fun r7 hc h => ?_)
    refine w_callVi C (n := 2) (As := [.int a1, .int x5]) (st := [.int r6]) 2 (Nat.le_of_ble_eq_true rfl) rfl rfl (cfX0_envoy D cI ad (l := X.2.1) C.2.2.1 hc) tw6_1 cy_X0_envoy (by decide +kernel) ⟨Nat.le_of_ble_eq_true rfl, Nat.le_of_ble_eq_true rfl⟩ (by decide) rfl rfl (Nat.le_of_ble_eq_true rfl) dX1_contradict_34 rfl ?_
    refine w_icmp_ne C (qt := 105) dX1_contradict_37 (by decide) rfl h (fun _ h => ?_) (fun _ h => ?_)
    · refine w_iinc (j := 2) C (v1 + 1) [(3, .int (v1 + 1)), (5, .int x5), (4, .int x4), (0, .ref (ad 84)), (1, .int a0), (2, .int a1)] dX1_contradict_105 rfl rfl rfl (by decide) rfl ?_
      refine w_goto (q := 2) C dX1_contradict_108 (by decide) ?_
      exact w_sub (lv' := [(3, .int (v1 + 1)), (0, .ref (ad 84)), (1, .int a0), (2, .int a1)]) [0, 3, 4, 5] rfl (hK3 (v1 + 1) h)
    · refine w_iconst C 0 dX1_contradict_40 rfl (by decide) ?_
      refine w_istore C [(6, .int 0), (5, .int x5), (4, .int x4), (3, .int v1), (0, .ref (ad 84)), (1, .int a0), (2, .int a1)] dX1_contradict_41 rfl (by decide) rfl ?_
      refine w_sub (lv' := [(6, .int 0), (5, .int x5), (4, .int x4), (3, .int v1), (0, .ref (ad 84)), (1, .int a0), (2, .int a1)]) [0, 1, 2, 3, 4, 5, 6] rfl ?_
      refine lp_w (fun v8 : Int32 => WP X (gC D cI ad) 9 0 43 σ [(6, .int v8), (5, .int x5), (4, .int x4), (3, .int v1), (0, .ref (ad 84)), (1, .int a0), (2, .int a1)] []) (fun K9 hK10 v8 h => ?_) F _ h
      refine w_iload C dX1_contradict_43 rfl 0 rfl ?_
      refine w_bipush C 8 dX1_contradict_45 rfl (by decide) ?_
      refine w_icmp_ge C (qt := 105) dX1_contradict_47 (by decide) rfl h (fun _ h => ?_) (fun _ h => ?_)
      · refine w_iinc (j := 3) C (v1 + 1) [(3, .int (v1 + 1)), (6, .int v8), (5, .int x5), (4, .int x4), (0, .ref (ad 84)), (1, .int a0), (2, .int a1)] dX1_contradict_105 rfl rfl rfl (by decide) rfl ?_
        refine w_goto (q := 2) C dX1_contradict_108 (by decide) ?_
        exact w_sub (lv' := [(3, .int (v1 + 1)), (0, .ref (ad 84)), (1, .int a0), (2, .int a1)]) [0, 4, 5, 6] rfl (hK3 (v1 + 1) h)
      · refine w_aload_n C dX1_contradict_50 rfl 4 rfl ?_
        refine w_get C 84 1 (Nat.le_of_ble_eq_true rfl) rfl rfl inB_X1 (by decide) tw2_129 rfl dX1_contradict_51 rfl ?_
        refine w_iload_n C dX1_contradict_54 rfl 5 rfl ?_
        refine w_iload C dX1_contradict_55 rfl 2 rfl ?_
        refine w_iload C dX1_contradict_57 rfl 0 rfl ?_
        refine bd1_w h (fun r11 hc h => ?_)
        refine w_callVi C (n := 3) (As := [.int a0, .int x4, .int v8]) (st := []) 81 (Nat.le_of_ble_eq_true rfl) rfl rfl (cfX6_leastOf D cI ad (l := X.2.1) C.2.2.1 hc) tw6_2 cy_X6_leastOf (by decide +kernel) ⟨Nat.le_of_ble_eq_true rfl, Nat.le_of_ble_eq_true rfl⟩ (by decide) rfl rfl (Nat.le_of_ble_eq_true rfl) dX1_contradict_59 rfl ?_
        refine w_istore C [(7, .int r11), (6, .int v8), (5, .int x5), (4, .int x4), (3, .int v1), (0, .ref (ad 84)), (1, .int a0), (2, .int a1)] dX1_contradict_62 rfl (by decide) rfl ?_
        refine w_aload_n C dX1_contradict_64 rfl 5 rfl ?_
        refine w_get C 84 1 (Nat.le_of_ble_eq_true rfl) rfl rfl inB_X1 (by decide) tw2_129 rfl dX1_contradict_65 rfl ?_
        refine w_iload_n C dX1_contradict_68 rfl 7 rfl ?_
        refine w_iload C dX1_contradict_69 rfl 2 rfl ?_
        refine w_iload C dX1_contradict_71 rfl 1 rfl ?_
        refine bd1_w h (fun r12 hc h => ?_)
        refine w_callVi C (n := 3) (As := [.int a1, .int x5, .int v8]) (st := []) 81 (Nat.le_of_ble_eq_true rfl) rfl rfl (cfX6_leastOf D cI ad (l := X.2.1) C.2.2.1 hc) tw6_2 cy_X6_leastOf (by decide +kernel) ⟨Nat.le_of_ble_eq_true rfl, Nat.le_of_ble_eq_true rfl⟩ (by decide) rfl rfl (Nat.le_of_ble_eq_true rfl) dX1_contradict_73 rfl ?_
        refine w_istore C [(8, .int r12), (7, .int r11), (6, .int v8), (5, .int x5), (4, .int x4), (3, .int v1), (0, .ref (ad 84)), (1, .int a0), (2, .int a1)] dX1_contradict_76 rfl (by decide) rfl ?_
        refine w_iload C dX1_contradict_78 rfl 1 rfl ?_
        refine w_iconst C (-1) dX1_contradict_80 rfl (by decide) ?_
        refine w_icmp_eq C (qt := 99) dX1_contradict_81 (by decide) rfl h (fun _ h => ?_) (fun _ h => ?_)
        · refine w_iinc (j := 2) C (v8 + 1) [(6, .int (v8 + 1)), (8, .int r12), (7, .int r11), (5, .int x5), (4, .int x4), (3, .int v1), (0, .ref (ad 84)), (1, .int a0), (2, .int a1)] dX1_contradict_99 rfl rfl rfl (by decide) rfl ?_
          refine w_goto (q := 43) C dX1_contradict_102 (by decide) ?_
          exact w_sub (lv' := [(6, .int (v8 + 1)), (5, .int x5), (4, .int x4), (3, .int v1), (0, .ref (ad 84)), (1, .int a0), (2, .int a1)]) [0, 3, 4, 5, 6, 7, 8] rfl (hK10 (v8 + 1) h)
        · refine w_iload C dX1_contradict_84 rfl 0 rfl ?_
          refine w_iconst C (-1) dX1_contradict_86 rfl (by decide) ?_
          refine w_icmp_eq C (qt := 99) dX1_contradict_87 (by decide) rfl h (fun _ h => ?_) (fun _ h => ?_)
          · refine w_iinc (j := 2) C (v8 + 1) [(6, .int (v8 + 1)), (8, .int r12), (7, .int r11), (5, .int x5), (4, .int x4), (3, .int v1), (0, .ref (ad 84)), (1, .int a0), (2, .int a1)] dX1_contradict_99 rfl rfl rfl (by decide) rfl ?_
            refine w_goto (q := 43) C dX1_contradict_102 (by decide) ?_
            exact w_sub (lv' := [(6, .int (v8 + 1)), (5, .int x5), (4, .int x4), (3, .int v1), (0, .ref (ad 84)), (1, .int a0), (2, .int a1)]) [0, 3, 4, 5, 6, 7, 8] rfl (hK10 (v8 + 1) h)
          · refine w_iload C dX1_contradict_90 rfl 1 rfl ?_
            refine w_iload C dX1_contradict_92 rfl 0 rfl ?_
            refine w_icmp_eq C (qt := 99) dX1_contradict_94 (by decide) rfl h (fun _ h => ?_) (fun _ h => ?_)
            · refine w_iinc (j := 2) C (v8 + 1) [(6, .int (v8 + 1)), (8, .int r12), (7, .int r11), (5, .int x5), (4, .int x4), (3, .int v1), (0, .ref (ad 84)), (1, .int a0), (2, .int a1)] dX1_contradict_99 rfl rfl rfl (by decide) rfl ?_
              refine w_goto (q := 43) C dX1_contradict_102 (by decide) ?_
              exact w_sub (lv' := [(6, .int (v8 + 1)), (5, .int x5), (4, .int x4), (3, .int v1), (0, .ref (ad 84)), (1, .int a0), (2, .int a1)]) [0, 3, 4, 5, 6, 7, 8] rfl (hK10 (v8 + 1) h)
            · refine w_iconst C 1 dX1_contradict_97 rfl (by decide) ?_
              exact w_rz1 hr (by decide) h (by decide) dX1_contradict_98
theorem cfX1_contradict (D : va_G) (cI : ClassId) (ad : Nat → Nat) {l : Launch} (had : gAp (gC D cI ad)) {F : Nat} {σ : St} {a0 : Int32} {a1 : Int32} {r : Int32} (h : fX1_contradict F σ a0 a1 = some r) : MI l yX1_contradict (wB yX1_contradict cX1_contradict 9 (some .boolean)) 2 45 (gC D cI ad) [.ref (ad 84), .int a0, .int a1] σ r σ := mk_MZ had (by decide +kernel) (Nat.le_of_ble_eq_true rfl) (fun X hX C hr => wfX1_contradict C hr h)

def fX1_findContradictions (F : Nat) (σ : St) : Option St := bd1 (fJ7_fill_53178_5 F σ 0) fun u1 => lp (fun (K3 : (St × Int32) → Option St) (v2 : St × Int32) => if (v2.1 2 1) ≤ v2.2 then (some v2.1) else nm (v2.2 + 1) fun x5 => lp (fun (K7 : (St × Int32) → Option St) (v6 : St × Int32) => if (v6.1 2 1) ≤ v6.2 then (K3 ((v6.1, v2.2 + 1))) else bd1 (fX1_contradict F v6.1 v2.2 v6.2) fun r9 => if r9 = 0 then (K7 ((v6.1, v6.2 + 1))) else ckI (v2.2) 8 (ckI (v2.2) 8 (nm (up v6.1 85 (Int32.toNatClampNeg v2.2) ((v6.1 85 (Int32.toNatClampNeg v2.2)) ||| ((1 : Int32) <<< (v6.2 &&& 31)))) fun u10 => K7 ((u10, v6.2 + 1))))) F ((v2.1, x5))) F ((u1, 0))
set_option maxRecDepth 20000 in
theorem wfX1_findContradictions {X : XT} {D : va_G} {cI : ClassId} {ad : Nat → Nat} {F : Nat} {σ : St}  {σ' : St} (C : Cx X (gC D cI ad) cX1_findContradictions 3 RX1 3 73 0) (hr : RetV X (gC D cI ad) cX1_findContradictions 3 0 σ') (h : fX1_findContradictions F σ = some σ') : WP X (gC D cI ad) 3 0 0 σ [(0, .ref (ad 84))] [] := by
  unfold fX1_findContradictions at h
  refine w_aload_n C dX1_findContradictions_0 rfl 0 rfl ?_
  refine w_get C 84 2 (Nat.le_of_ble_eq_true rfl) rfl rfl inB_X1 (by decide) tw2_130 rfl dX1_findContradictions_1 rfl ?_
  refine w_iconst C 0 dX1_findContradictions_4 rfl (by decide) ?_
  refine bd1_w h (fun u1 hc h => ?_)
  refine w_callSv C (n := 2) (As := [.ref (ad 85), .int 0]) (st := []) (cfJ7_fill_53178_5 D cI ad (l := X.2.1) C.2.2.1 hc) tw5_236 cs_J7_fill_53178 (by decide +kernel) ⟨Nat.le_of_ble_eq_true rfl, Nat.le_of_ble_eq_true rfl⟩ (by decide) rfl rfl (Nat.le_of_ble_eq_true rfl) dX1_findContradictions_5 rfl ?_
  refine w_iconst C 0 dX1_findContradictions_8 rfl (by decide) ?_
  refine w_istore_n C [(1, .int 0), (0, .ref (ad 84))] dX1_findContradictions_9 rfl (by decide) rfl ?_
  refine w_sub (lv' := [(1, .int 0), (0, .ref (ad 84))]) [0, 1] rfl ?_
  refine lp_w (fun v2 : St × Int32 => WP X (gC D cI ad) 3 0 10 v2.1 [(1, .int v2.2), (0, .ref (ad 84))] []) (fun K3 hK4 v2 h => ?_) F _ h
  refine w_iload_n C dX1_findContradictions_10 rfl 0 rfl ?_
  refine w_aload_n C dX1_findContradictions_11 rfl 1 rfl ?_
  refine w_get C 84 0 (Nat.le_of_ble_eq_true rfl) rfl rfl inB_X1 (by decide) tw2_128 rfl dX1_findContradictions_12 rfl ?_
  refine w_get C 2 1 (Nat.le_of_ble_eq_true rfl) rfl rfl inB_X0 (by decide) tw1_63 rfl dX1_findContradictions_15 rfl ?_
  refine w_icmp_ge C (qt := 69) dX1_findContradictions_18 (by decide) rfl h (fun _ h => ?_) (fun _ h => ?_)
  · exact w_rv hr h (by decide) dX1_findContradictions_69
  · refine w_iload_n C dX1_findContradictions_21 rfl 0 rfl ?_
    refine w_iconst C 1 dX1_findContradictions_22 rfl (by decide) ?_
    refine w_iadd C dX1_findContradictions_23 rfl ?_
    refine w_nm h (fun x5 h => ?_)
    refine w_istore_n C [(2, .int x5), (1, .int v2.2), (0, .ref (ad 84))] dX1_findContradictions_24 rfl (by decide) rfl ?_
    refine w_sub (lv' := [(2, .int x5), (1, .int v2.2), (0, .ref (ad 84))]) [0, 1, 2] rfl ?_
    refine lp_w (fun v6 : St × Int32 => WP X (gC D cI ad) 3 0 25 v6.1 [(2, .int v6.2), (1, .int v2.2), (0, .ref (ad 84))] []) (fun K7 hK8 v6 h => ?_) F _ h
    refine w_iload_n C dX1_findContradictions_25 rfl 0 rfl ?_
    refine w_aload_n C dX1_findContradictions_26 rfl 2 rfl ?_
    refine w_get C 84 0 (Nat.le_of_ble_eq_true rfl) rfl rfl inB_X1 (by decide) tw2_128 rfl dX1_findContradictions_27 rfl ?_
    refine w_get C 2 1 (Nat.le_of_ble_eq_true rfl) rfl rfl inB_X0 (by decide) tw1_63 rfl dX1_findContradictions_30 rfl ?_
    refine w_icmp_ge C (qt := 63) dX1_findContradictions_33 (by decide) rfl h (fun _ h => ?_) (fun _ h => ?_)
    · refine w_iinc (j := 1) C (v2.2 + 1) [(1, .int (v2.2 + 1)), (2, .int v6.2), (0, .ref (ad 84))] dX1_findContradictions_63 rfl rfl rfl (by decide) rfl ?_
      refine w_goto (q := 10) C dX1_findContradictions_66 (by decide) ?_
      exact w_sub (lv' := [(1, .int (v2.2 + 1)), (0, .ref (ad 84))]) [0, 2] rfl (hK4 ((v6.1, v2.2 + 1)) h)
    · refine w_aload_n C dX1_findContradictions_36 rfl 2 rfl ?_
      refine w_iload_n C dX1_findContradictions_37 rfl 1 rfl ?_
      refine w_iload_n C dX1_findContradictions_38 rfl 0 rfl ?_
      refine bd1_w h (fun r9 hc h => ?_)
      refine w_callVi C (n := 2) (As := [.int v2.2, .int v6.2]) (st := []) 84 (Nat.le_of_ble_eq_true rfl) rfl rfl (cfX1_contradict D cI ad (l := X.2.1) C.2.2.1 hc) tw5_237 cy_X1_contradict (by decide +kernel) ⟨Nat.le_of_ble_eq_true rfl, Nat.le_of_ble_eq_true rfl⟩ (by decide) rfl rfl (Nat.le_of_ble_eq_true rfl) dX1_findContradictions_39 rfl ?_
      refine w_if_eq C (qt := 57) dX1_findContradictions_42 (by decide) rfl h (fun _ h => ?_) (fun _ h => ?_)
      · refine w_iinc (j := 0) C (v6.2 + 1) [(2, .int (v6.2 + 1)), (1, .int v2.2), (0, .ref (ad 84))] dX1_findContradictions_57 rfl rfl rfl (by decide) rfl ?_
        refine w_goto (q := 25) C dX1_findContradictions_60 (by decide) ?_
        exact w_sub (lv' := [(2, .int (v6.2 + 1)), (1, .int v2.2), (0, .ref (ad 84))]) [0, 1, 2] rfl (hK8 ((v6.1, v6.2 + 1)) h)
      · refine w_aload_n C dX1_findContradictions_45 rfl 2 rfl ?_
        refine w_get C 84 2 (Nat.le_of_ble_eq_true rfl) rfl rfl inB_X1 (by decide) tw2_130 rfl dX1_findContradictions_46 rfl ?_
        refine w_iload_n C dX1_findContradictions_49 rfl 1 rfl ?_
        refine w_dup2 C rfl rfl dX1_findContradictions_50 rfl ?_
        refine w_iald C 85 8 0 (Nat.le_of_ble_eq_true rfl) (fun _ => rfl) rfl h dX1_findContradictions_51 rfl (fun h => ?_)
        refine w_iconst C 1 dX1_findContradictions_52 rfl (by decide) ?_
        refine w_iload_n C dX1_findContradictions_53 rfl 0 rfl ?_
        refine w_ishl C dX1_findContradictions_54 rfl ?_
        refine w_ior C dX1_findContradictions_55 rfl ?_
        refine w_iast C 85 8 0 (Nat.le_of_ble_eq_true rfl) (fun _ => rfl) rfl h dX1_findContradictions_56 rfl (fun h => ?_)
        refine w_nst h (fun u10 h => ?_)
        refine w_iinc (j := 0) C (v6.2 + 1) [(2, .int (v6.2 + 1)), (1, .int v2.2), (0, .ref (ad 84))] dX1_findContradictions_57 rfl rfl rfl (by decide) rfl ?_
        refine w_goto (q := 25) C dX1_findContradictions_60 (by decide) ?_
        exact w_sub (lv' := [(2, .int (v6.2 + 1)), (1, .int v2.2), (0, .ref (ad 84))]) [0, 1, 2] rfl (hK8 ((u10, v6.2 + 1)) h)
theorem cfX1_findContradictions (D : va_G) (cI : ClassId) (ad : Nat → Nat) {l : Launch} (had : gAp (gC D cI ad)) {F : Nat} {σ : St}  {σ' : St} (h : fX1_findContradictions F σ = some σ') : MV l yX1_findContradictions (wB yX1_findContradictions cX1_findContradictions 3 none) 3 73 (gC D cI ad) [.ref (ad 84)] σ σ' := mk_MV had (by decide +kernel) (Nat.le_of_ble_eq_true rfl) (fun X hX C hr => wfX1_findContradictions C hr h)

def fX1_endsAll (F : Nat) (σ : St) (a0 : Int32) : Option Int32 := lp (fun (K2 : Int32 → Option Int32) (v1 : Int32) => if (σ 2 1) ≤ v1 then (some 1) else if ((a0 >>> (v1 &&& 31)) &&& 1) = 0 then (ckI (v1) 8 (if ((σ 85 (Int32.toNatClampNeg v1)) &&& (a0 ^^^ ((-1)))) = 0 then (K2 (v1 + 1)) else some 0)) else K2 (v1 + 1)) F 0
set_option maxRecDepth 20000 in
theorem wfX1_endsAll {X : XT} {D : va_G} {cI : ClassId} {ad : Nat → Nat} {F : Nat} {σ : St} {a0 : Int32} {r : Int32} (C : Cx X (gC D cI ad) cX1_endsAll 3 RX1 0 0 0) (hr : RetZ X (gC D cI ad) cX1_endsAll 3 0 r σ) (h : fX1_endsAll F σ a0 = some r) : WP X (gC D cI ad) 3 0 0 σ [(0, .ref (ad 84)), (1, .int a0)] [] := by
  unfold fX1_endsAll at h
  refine w_iconst C 0 dX1_endsAll_0 rfl (by decide) ?_
  refine w_istore_n C [(2, .int 0), (0, .ref (ad 84)), (1, .int a0)] dX1_endsAll_1 rfl (by decide) rfl ?_
  refine w_sub (lv' := [(2, .int 0), (0, .ref (ad 84)), (1, .int a0)]) [0, 1, 2] rfl ?_
  refine lp_w (fun v1 : Int32 => WP X (gC D cI ad) 3 0 2 σ [(2, .int v1), (0, .ref (ad 84)), (1, .int a0)] []) (fun K2 hK3 v1 h => ?_) F _ h
  refine w_iload_n C dX1_endsAll_2 rfl 0 rfl ?_
  refine w_aload_n C dX1_endsAll_3 rfl 1 rfl ?_
  refine w_get C 84 0 (Nat.le_of_ble_eq_true rfl) rfl rfl inB_X1 (by decide) tw2_128 rfl dX1_endsAll_4 rfl ?_
  refine w_get C 2 1 (Nat.le_of_ble_eq_true rfl) rfl rfl inB_X0 (by decide) tw1_63 rfl dX1_endsAll_7 rfl ?_
  refine w_icmp_ge C (qt := 42) dX1_endsAll_10 (by decide) rfl h (fun _ h => ?_) (fun _ h => ?_)
  · refine w_iconst C 1 dX1_endsAll_42 rfl (by decide) ?_
    exact w_rz1 hr (by decide) h (by decide) dX1_endsAll_43
  · refine w_iload_n C dX1_endsAll_13 rfl 2 rfl ?_
    refine w_iload_n C dX1_endsAll_14 rfl 0 rfl ?_
    refine w_ishr C dX1_endsAll_15 rfl ?_
    refine w_iconst C 1 dX1_endsAll_16 rfl (by decide) ?_
    refine w_iand C dX1_endsAll_17 rfl ?_
    refine w_if_ne C (qt := 36) dX1_endsAll_18 (by decide) rfl h (fun _ h => ?_) (fun _ h => ?_)
    · refine w_iinc (j := 0) C (v1 + 1) [(2, .int (v1 + 1)), (0, .ref (ad 84)), (1, .int a0)] dX1_endsAll_36 rfl rfl rfl (by decide) rfl ?_
      refine w_goto (q := 2) C dX1_endsAll_39 (by decide) ?_
      exact w_sub (lv' := [(2, .int (v1 + 1)), (0, .ref (ad 84)), (1, .int a0)]) [0, 1, 2] rfl (hK3 (v1 + 1) h)
    · refine w_aload_n C dX1_endsAll_21 rfl 1 rfl ?_
      refine w_get C 84 2 (Nat.le_of_ble_eq_true rfl) rfl rfl inB_X1 (by decide) tw2_130 rfl dX1_endsAll_22 rfl ?_
      refine w_iload_n C dX1_endsAll_25 rfl 0 rfl ?_
      refine w_iald C 85 8 0 (Nat.le_of_ble_eq_true rfl) (fun _ => rfl) rfl h dX1_endsAll_26 rfl (fun h => ?_)
      refine w_iload_n C dX1_endsAll_27 rfl 2 rfl ?_
      refine w_iconst C (-1) dX1_endsAll_28 rfl (by decide) ?_
      refine w_ixor C dX1_endsAll_29 rfl ?_
      refine w_iand C dX1_endsAll_30 rfl ?_
      refine w_if_eq C (qt := 36) dX1_endsAll_31 (by decide) rfl h (fun _ h => ?_) (fun _ h => ?_)
      · refine w_iinc (j := 0) C (v1 + 1) [(2, .int (v1 + 1)), (0, .ref (ad 84)), (1, .int a0)] dX1_endsAll_36 rfl rfl rfl (by decide) rfl ?_
        refine w_goto (q := 2) C dX1_endsAll_39 (by decide) ?_
        exact w_sub (lv' := [(2, .int (v1 + 1)), (0, .ref (ad 84)), (1, .int a0)]) [0, 1, 2] rfl (hK3 (v1 + 1) h)
      · refine w_iconst C 0 dX1_endsAll_34 rfl (by decide) ?_
        exact w_rz1 hr (by decide) h (by decide) dX1_endsAll_35
theorem cfX1_endsAll (D : va_G) (cI : ClassId) (ad : Nat → Nat) {l : Launch} (had : gAp (gC D cI ad)) {F : Nat} {σ : St} {a0 : Int32} {r : Int32} (h : fX1_endsAll F σ a0 = some r) : MI l yX1_endsAll (wB yX1_endsAll cX1_endsAll 3 (some .boolean)) 0 0 (gC D cI ad) [.ref (ad 84), .int a0] σ r σ := mk_MZ had (by decide +kernel) (Nat.le_of_ble_eq_true rfl) (fun X hX C hr => wfX1_endsAll C hr h)

def fX1_fewestToBreak (F : Nat) (σ : St) : Option Int32 := nm (((1 : Int32) <<< ((σ 2 1) &&& 31)) - 1) fun x1 => lp (fun (K3 : (Int32 × Int32) → Option Int32) (v2 : Int32 × Int32) => if x1 < v2.1 then (some v2.2) else bd1 (fJ6_bitCount_0f7a4 F σ v2.1) fun r5 => bd1 (fJ6_bitCount_0f7a4 F σ v2.2) fun r6 => if r6 ≤ r5 then (K3 ((v2.1 + 1, v2.2))) else bd1 (fX1_endsAll F σ v2.1) fun r7 => if r7 = 0 then (K3 ((v2.1 + 1, v2.2))) else K3 ((v2.1 + 1, v2.1))) F ((0, x1))
set_option maxRecDepth 20000 in
theorem wfX1_fewestToBreak {X : XT} {D : va_G} {cI : ClassId} {ad : Nat → Nat} {F : Nat} {σ : St}  {r : Int32} (C : Cx X (gC D cI ad) cX1_fewestToBreak 4 RX1 1 22 0) (hr : RetI X (gC D cI ad) cX1_fewestToBreak 4 0 r σ) (h : fX1_fewestToBreak F σ = some r) : WP X (gC D cI ad) 4 0 0 σ [(0, .ref (ad 84))] [] := by
  unfold fX1_fewestToBreak at h
  refine w_iconst C 1 dX1_fewestToBreak_0 rfl (by decide) ?_
  refine w_aload_n C dX1_fewestToBreak_1 rfl 0 rfl ?_
  refine w_get C 84 0 (Nat.le_of_ble_eq_true rfl) rfl rfl inB_X1 (by decide) tw2_128 rfl dX1_fewestToBreak_2 rfl ?_
  refine w_get C 2 1 (Nat.le_of_ble_eq_true rfl) rfl rfl inB_X0 (by decide) tw1_63 rfl dX1_fewestToBreak_5 rfl ?_
  refine w_ishl C dX1_fewestToBreak_8 rfl ?_
  refine w_iconst C 1 dX1_fewestToBreak_9 rfl (by decide) ?_
  refine w_isub C dX1_fewestToBreak_10 rfl ?_
  refine w_nm h (fun x1 h => ?_)
  refine w_istore_n C [(1, .int x1), (0, .ref (ad 84))] dX1_fewestToBreak_11 rfl (by decide) rfl ?_
  refine w_iload_n C dX1_fewestToBreak_12 rfl 0 rfl ?_
  refine w_istore_n C [(2, .int x1), (1, .int x1), (0, .ref (ad 84))] dX1_fewestToBreak_13 rfl (by decide) rfl ?_
  refine w_iconst C 0 dX1_fewestToBreak_14 rfl (by decide) ?_
  refine w_istore_n C [(3, .int 0), (2, .int x1), (1, .int x1), (0, .ref (ad 84))] dX1_fewestToBreak_15 rfl (by decide) rfl ?_
  refine w_sub (lv' := [(3, .int 0), (2, .int x1), (1, .int x1), (0, .ref (ad 84))]) [0, 1, 2, 3] rfl ?_
  refine lp_w (fun v2 : Int32 × Int32 => WP X (gC D cI ad) 4 0 16 σ [(3, .int v2.1), (2, .int v2.2), (1, .int x1), (0, .ref (ad 84))] []) (fun K3 hK4 v2 h => ?_) F _ h
  refine w_iload_n C dX1_fewestToBreak_16 rfl 0 rfl ?_
  refine w_iload_n C dX1_fewestToBreak_17 rfl 2 rfl ?_
  refine w_icmp_gt C (qt := 48) dX1_fewestToBreak_18 (by decide) rfl h (fun _ h => ?_) (fun _ h => ?_)
  · refine w_iload_n C dX1_fewestToBreak_48 rfl 1 rfl ?_
    exact w_ri1 hr h (by decide) dX1_fewestToBreak_49
  · refine w_iload_n C dX1_fewestToBreak_21 rfl 0 rfl ?_
    refine bd1_w h (fun r5 hc h => ?_)
    refine w_callSi C (n := 1) (As := [.int v2.1]) (st := []) (cfJ6_bitCount_0f7a4 D cI ad (l := X.2.1) C.2.2.1 hc) tw6_10 cs_J6_bitCount_0f7a4 (by decide +kernel) ⟨Nat.le_of_ble_eq_true rfl, Nat.le_of_ble_eq_true rfl⟩ (by decide) rfl rfl (Nat.le_of_ble_eq_true rfl) dX1_fewestToBreak_22 rfl ?_
    refine w_iload_n C dX1_fewestToBreak_25 rfl 1 rfl ?_
    refine bd1_w h (fun r6 hc h => ?_)
    refine w_callSi C (n := 1) (As := [.int v2.2]) (st := [.int r5]) (cfJ6_bitCount_0f7a4 D cI ad (l := X.2.1) C.2.2.1 hc) tw6_10 cs_J6_bitCount_0f7a4 (by decide +kernel) ⟨Nat.le_of_ble_eq_true rfl, Nat.le_of_ble_eq_true rfl⟩ (by decide) rfl rfl (Nat.le_of_ble_eq_true rfl) dX1_fewestToBreak_26 rfl ?_
    refine w_icmp_ge C (qt := 42) dX1_fewestToBreak_29 (by decide) rfl h (fun _ h => ?_) (fun _ h => ?_)
    · refine w_iinc (j := 0) C (v2.1 + 1) [(3, .int (v2.1 + 1)), (2, .int v2.2), (1, .int x1), (0, .ref (ad 84))] dX1_fewestToBreak_42 rfl rfl rfl (by decide) rfl ?_
      refine w_goto (q := 16) C dX1_fewestToBreak_45 (by decide) ?_
      exact w_sub (lv' := [(3, .int (v2.1 + 1)), (2, .int v2.2), (1, .int x1), (0, .ref (ad 84))]) [0, 1, 2, 3] rfl (hK4 ((v2.1 + 1, v2.2)) h)
    · refine w_aload_n C dX1_fewestToBreak_32 rfl 3 rfl ?_
      refine w_iload_n C dX1_fewestToBreak_33 rfl 0 rfl ?_
      refine bd1_w h (fun r7 hc h => ?_)
      refine w_callVi C (n := 1) (As := [.int v2.1]) (st := []) 84 (Nat.le_of_ble_eq_true rfl) rfl rfl (cfX1_endsAll D cI ad (l := X.2.1) C.2.2.1 hc) tw6_15 cy_X1_endsAll (by decide +kernel) ⟨Nat.le_of_ble_eq_true rfl, Nat.le_of_ble_eq_true rfl⟩ (by decide) rfl rfl (Nat.le_of_ble_eq_true rfl) dX1_fewestToBreak_34 rfl ?_
      refine w_if_eq C (qt := 42) dX1_fewestToBreak_37 (by decide) rfl h (fun _ h => ?_) (fun _ h => ?_)
      · refine w_iinc (j := 0) C (v2.1 + 1) [(3, .int (v2.1 + 1)), (2, .int v2.2), (1, .int x1), (0, .ref (ad 84))] dX1_fewestToBreak_42 rfl rfl rfl (by decide) rfl ?_
        refine w_goto (q := 16) C dX1_fewestToBreak_45 (by decide) ?_
        exact w_sub (lv' := [(3, .int (v2.1 + 1)), (2, .int v2.2), (1, .int x1), (0, .ref (ad 84))]) [0, 1, 2, 3] rfl (hK4 ((v2.1 + 1, v2.2)) h)
      · refine w_iload_n C dX1_fewestToBreak_40 rfl 0 rfl ?_
        refine w_istore_n C [(2, .int v2.1), (3, .int v2.1), (1, .int x1), (0, .ref (ad 84))] dX1_fewestToBreak_41 rfl (by decide) rfl ?_
        refine w_iinc (j := 1) C (v2.1 + 1) [(3, .int (v2.1 + 1)), (2, .int v2.1), (1, .int x1), (0, .ref (ad 84))] dX1_fewestToBreak_42 rfl rfl rfl (by decide) rfl ?_
        refine w_goto (q := 16) C dX1_fewestToBreak_45 (by decide) ?_
        exact w_sub (lv' := [(3, .int (v2.1 + 1)), (2, .int v2.1), (1, .int x1), (0, .ref (ad 84))]) [0, 1, 2, 3] rfl (hK4 ((v2.1 + 1, v2.1)) h)
theorem cfX1_fewestToBreak (D : va_G) (cI : ClassId) (ad : Nat → Nat) {l : Launch} (had : gAp (gC D cI ad)) {F : Nat} {σ : St}  {r : Int32} (h : fX1_fewestToBreak F σ = some r) : MI l yX1_fewestToBreak (wB yX1_fewestToBreak cX1_fewestToBreak 4 (some .int)) 1 22 (gC D cI ad) [.ref (ad 84)] σ r σ := mk_MI had (by decide +kernel) (Nat.le_of_ble_eq_true rfl) (fun X hX C hr => wfX1_fewestToBreak C hr h)

def fX1_countContradictions (F : Nat) (σ : St) : Option Int32 := lp (fun (K2 : (Int32 × Int32) → Option Int32) (v1 : Int32 × Int32) => if (σ 2 1) ≤ v1.1 then (some v1.2) else ckI (v1.1) 8 (bd1 (fJ6_bitCount_0f7a4 F σ (σ 85 (Int32.toNatClampNeg v1.1))) fun r4 => nm (v1.2 + r4) fun x5 => K2 ((v1.1 + 1, x5)))) F ((0, 0))
set_option maxRecDepth 20000 in
theorem wfX1_countContradictions {X : XT} {D : va_G} {cI : ClassId} {ad : Nat → Nat} {F : Nat} {σ : St}  {r : Int32} (C : Cx X (gC D cI ad) cX1_countContradictions 3 RX1 1 20 0) (hr : RetI X (gC D cI ad) cX1_countContradictions 3 0 r σ) (h : fX1_countContradictions F σ = some r) : WP X (gC D cI ad) 3 0 0 σ [(0, .ref (ad 84))] [] := by
  unfold fX1_countContradictions at h
  refine w_iconst C 0 dX1_countContradictions_0 rfl (by decide) ?_
  refine w_istore_n C [(1, .int 0), (0, .ref (ad 84))] dX1_countContradictions_1 rfl (by decide) rfl ?_
  refine w_iconst C 0 dX1_countContradictions_2 rfl (by decide) ?_
  refine w_istore_n C [(2, .int 0), (1, .int 0), (0, .ref (ad 84))] dX1_countContradictions_3 rfl (by decide) rfl ?_
  refine w_sub (lv' := [(2, .int 0), (1, .int 0), (0, .ref (ad 84))]) [0, 1, 2] rfl ?_
  refine lp_w (fun v1 : Int32 × Int32 => WP X (gC D cI ad) 3 0 4 σ [(2, .int v1.1), (1, .int v1.2), (0, .ref (ad 84))] []) (fun K2 hK3 v1 h => ?_) F _ h
  refine w_iload_n C dX1_countContradictions_4 rfl 0 rfl ?_
  refine w_aload_n C dX1_countContradictions_5 rfl 2 rfl ?_
  refine w_get C 84 0 (Nat.le_of_ble_eq_true rfl) rfl rfl inB_X1 (by decide) tw2_128 rfl dX1_countContradictions_6 rfl ?_
  refine w_get C 2 1 (Nat.le_of_ble_eq_true rfl) rfl rfl inB_X0 (by decide) tw1_63 rfl dX1_countContradictions_9 rfl ?_
  refine w_icmp_ge C (qt := 33) dX1_countContradictions_12 (by decide) rfl h (fun _ h => ?_) (fun _ h => ?_)
  · refine w_iload_n C dX1_countContradictions_33 rfl 1 rfl ?_
    exact w_ri1 hr h (by decide) dX1_countContradictions_34
  · refine w_iload_n C dX1_countContradictions_15 rfl 1 rfl ?_
    refine w_aload_n C dX1_countContradictions_16 rfl 2 rfl ?_
    refine w_get C 84 2 (Nat.le_of_ble_eq_true rfl) rfl rfl inB_X1 (by decide) tw2_130 rfl dX1_countContradictions_17 rfl ?_
    refine w_iload_n C dX1_countContradictions_20 rfl 0 rfl ?_
    refine w_iald C 85 8 0 (Nat.le_of_ble_eq_true rfl) (fun _ => rfl) rfl h dX1_countContradictions_21 rfl (fun h => ?_)
    refine bd1_w h (fun r4 hc h => ?_)
    refine w_callSi C (n := 1) (As := [.int (σ 85 (Int32.toNatClampNeg v1.1))]) (st := [.int v1.2]) (cfJ6_bitCount_0f7a4 D cI ad (l := X.2.1) C.2.2.1 hc) tw6_10 cs_J6_bitCount_0f7a4 (by decide +kernel) ⟨Nat.le_of_ble_eq_true rfl, Nat.le_of_ble_eq_true rfl⟩ (by decide) rfl rfl (Nat.le_of_ble_eq_true rfl) dX1_countContradictions_22 rfl ?_
    refine w_iadd C dX1_countContradictions_25 rfl ?_
    refine w_nm h (fun x5 h => ?_)
    refine w_istore_n C [(1, .int x5), (2, .int v1.1), (0, .ref (ad 84))] dX1_countContradictions_26 rfl (by decide) rfl ?_
    refine w_iinc (j := 1) C (v1.1 + 1) [(2, .int (v1.1 + 1)), (1, .int x5), (0, .ref (ad 84))] dX1_countContradictions_27 rfl rfl rfl (by decide) rfl ?_
    refine w_goto (q := 4) C dX1_countContradictions_30 (by decide) ?_
    exact w_sub (lv' := [(2, .int (v1.1 + 1)), (1, .int x5), (0, .ref (ad 84))]) [0, 1, 2] rfl (hK3 ((v1.1 + 1, x5)) h)
theorem cfX1_countContradictions (D : va_G) (cI : ClassId) (ad : Nat → Nat) {l : Launch} (had : gAp (gC D cI ad)) {F : Nat} {σ : St}  {r : Int32} (h : fX1_countContradictions F σ = some r) : MI l yX1_countContradictions (wB yX1_countContradictions cX1_countContradictions 3 (some .int)) 1 20 (gC D cI ad) [.ref (ad 84)] σ r σ := mk_MI had (by decide +kernel) (Nat.le_of_ble_eq_true rfl) (fun X hX C hr => wfX1_countContradictions C hr h)

def fX10_against (F : Nat) (σ : St) (a0 : Int32) : Option (Nat × Int32 × St) := bd1 (fX10_checkBelow F σ a0 2) fun t1 => if t1 = 0 then (bd2 (fX2_bindingBits F σ 0) fun r2 u3 => bd1 (fX6_weighAll F u3 r2) fun u4 => bd1 (fX1_findContradictions F u4) fun u5 => if a0 = 0 then (bd1 (fX1_countContradictions F u5) fun r7 => some (0, r7, u5)) else bd1 (fX1_fewestToBreak F u5) fun r6 => some (0, r6, u5)) else some (t1, 0, σ)
set_option maxRecDepth 20000 in
theorem wfX10_against {X : XT} {D : va_G} {cI : ClassId} {ad : Nat → Nat} {F : Nat} {σ : St} {a0 : Int32} {res : Nat × Int32 × St} (C : Cx X (gC D cI ad) cX10_against 2 RX10 8 140 1) (hr : RetXi X (gC D cI ad) cX10_against 2 1 res) (hx : ThrX X (gC D cI ad) cX10_against 2 1 res) (h : fX10_against F σ a0 = some res) : WP X (gC D cI ad) 2 0 0 σ [(0, .ref (ad 0)), (1, .int a0)] [] := by
  unfold fX10_against at h
  refine w_aload_n C dX10_against_0 rfl 0 rfl ?_
  refine w_iload_n C dX10_against_1 rfl 1 rfl ?_
  refine w_iconst C 2 dX10_against_2 rfl (by decide) ?_
  refine bd1_w h (fun t1 hc h => ?_)
  refine w_callX C hx (n := 2) (As := [.int a0, .int 2]) (st := []) 0 (Nat.le_of_ble_eq_true rfl) rfl rfl (cfX10_checkBelow D cI ad (l := X.2.1) C.2.2.1 hx.1 hc) tw5_51 cy_X10_checkBelow (by decide +kernel) ⟨by decide, by decide⟩ (by decide) rfl rfl (Nat.le_of_ble_eq_true rfl) dX10_against_3 rfl h (fun h => ?_)
  refine w_aload_n C dX10_against_6 rfl 0 rfl ?_
  refine w_get C 0 12 (Nat.le_of_ble_eq_true rfl) rfl rfl inB_X10 (by decide) tw2_184 rfl dX10_against_7 rfl ?_
  refine w_aload_n C dX10_against_10 rfl 0 rfl ?_
  refine w_get C 0 10 (Nat.le_of_ble_eq_true rfl) rfl rfl inB_X10 (by decide) tw2_182 rfl dX10_against_11 rfl ?_
  refine w_aload_n C dX10_against_14 rfl 0 rfl ?_
  refine w_get C 0 7 (Nat.le_of_ble_eq_true rfl) rfl rfl inB_X10 (by decide) tw2_179 rfl dX10_against_15 rfl ?_
  refine w_iconst C 0 dX10_against_18 rfl (by decide) ?_
  refine bd2_w h (fun r2 u3 hc h => ?_)
  refine w_callVi C (n := 2) (As := [.ref (ad 30), .int 0]) (st := [.ref (ad 81)]) 66 (Nat.le_of_ble_eq_true rfl) rfl rfl (cfX2_bindingBits D cI ad (l := X.2.1) C.2.2.1 hc) tw4_88 cy_X2_bindingBits (by decide +kernel) ⟨Nat.le_of_ble_eq_true rfl, Nat.le_of_ble_eq_true rfl⟩ (by decide) rfl rfl (Nat.le_of_ble_eq_true rfl) dX10_against_19 rfl ?_
  refine bd1_w h (fun u4 hc h => ?_)
  refine w_callVv C (n := 1) (As := [.int r2]) (st := []) 81 (Nat.le_of_ble_eq_true rfl) rfl rfl (cfX6_weighAll D cI ad (l := X.2.1) C.2.2.1 hc) tw4_149 cy_X6_weighAll (by decide +kernel) ⟨Nat.le_of_ble_eq_true rfl, Nat.le_of_ble_eq_true rfl⟩ (by decide) rfl rfl (Nat.le_of_ble_eq_true rfl) dX10_against_22 rfl ?_
  refine w_aload_n C dX10_against_25 rfl 0 rfl ?_
  refine w_get C 0 13 (Nat.le_of_ble_eq_true rfl) rfl rfl inB_X10 (by decide) tw2_185 rfl dX10_against_26 rfl ?_
  refine bd1_w h (fun u5 hc h => ?_)
  refine w_callVv C (n := 0) (As := []) (st := []) 84 (Nat.le_of_ble_eq_true rfl) rfl rfl (cfX1_findContradictions D cI ad (l := X.2.1) C.2.2.1 hc) tw5_232 cy_X1_findContradictions (by decide +kernel) ⟨Nat.le_of_ble_eq_true rfl, Nat.le_of_ble_eq_true rfl⟩ (by decide) rfl rfl (Nat.le_of_ble_eq_true rfl) dX10_against_29 rfl ?_
  refine w_iload_n C dX10_against_32 rfl 1 rfl ?_
  refine w_if_ne C (qt := 46) dX10_against_33 (by decide) rfl h (fun _ h => ?_) (fun _ h => ?_)
  · refine w_aload_n C dX10_against_46 rfl 0 rfl ?_
    refine w_get C 0 13 (Nat.le_of_ble_eq_true rfl) rfl rfl inB_X10 (by decide) tw2_185 rfl dX10_against_47 rfl ?_
    refine bd1_w h (fun r6 hc h => ?_)
    refine w_callVi C (n := 0) (As := []) (st := []) 84 (Nat.le_of_ble_eq_true rfl) rfl rfl (cfX1_fewestToBreak D cI ad (l := X.2.1) C.2.2.1 hc) tw6_11 cy_X1_fewestToBreak (by decide +kernel) ⟨Nat.le_of_ble_eq_true rfl, Nat.le_of_ble_eq_true rfl⟩ (by decide) rfl rfl (Nat.le_of_ble_eq_true rfl) dX10_against_50 rfl ?_
    exact w_rxi hr h (by decide) dX10_against_53
  · refine w_aload_n C dX10_against_36 rfl 0 rfl ?_
    refine w_get C 0 13 (Nat.le_of_ble_eq_true rfl) rfl rfl inB_X10 (by decide) tw2_185 rfl dX10_against_37 rfl ?_
    refine bd1_w h (fun r7 hc h => ?_)
    refine w_callVi C (n := 0) (As := []) (st := []) 84 (Nat.le_of_ble_eq_true rfl) rfl rfl (cfX1_countContradictions D cI ad (l := X.2.1) C.2.2.1 hc) tw6_6 cy_X1_countContradictions (by decide +kernel) ⟨Nat.le_of_ble_eq_true rfl, Nat.le_of_ble_eq_true rfl⟩ (by decide) rfl rfl (Nat.le_of_ble_eq_true rfl) dX10_against_40 rfl ?_
    refine w_goto (q := 53) C dX10_against_43 (by decide) ?_
    exact w_rxi hr h (by decide) dX10_against_53
theorem cfX10_against (D : va_G) (cI : ClassId) (ad : Nat → Nat) {l : Launch} (had : gAp (gC D cI ad)) (hst : l.stackTraces = false) {F : Nat} {σ : St} {a0 : Int32} {res : Nat × Int32 × St} (h : fX10_against F σ a0 = some res) : MX l yX10_against (wB yX10_against cX10_against 2 (some .int)) 8 140 1 (gC D cI ad) [.ref (ad 0), .int a0] σ res := mk_MX had (by decide +kernel) (Nat.le_of_ble_eq_true rfl) hst rfl (by decide) (by decide) (fun X hX C hr hx => wfX10_against C hr hx h)

def fX1_bothOf (F : Nat) (σ : St) (a0 : Int32) : Option Int32 := ckI (a0) 8 (ckI (a0) 8 (some (((1 : Int32) <<< ((σ 4 (Int32.toNatClampNeg a0)) &&& 31)) ||| ((1 : Int32) <<< ((σ 5 (Int32.toNatClampNeg a0)) &&& 31)))))
set_option maxRecDepth 20000 in
theorem wfX1_bothOf {X : XT} {D : va_G} {cI : ClassId} {ad : Nat → Nat} {F : Nat} {σ : St} {a0 : Int32} {r : Int32} (C : Cx X (gC D cI ad) cX1_bothOf 2 RX1 0 0 0) (hr : RetI X (gC D cI ad) cX1_bothOf 2 0 r σ) (h : fX1_bothOf F σ a0 = some r) : WP X (gC D cI ad) 2 0 0 σ [(0, .ref (ad 84)), (1, .int a0)] [] := by
  unfold fX1_bothOf at h
  refine w_iconst C 1 dX1_bothOf_0 rfl (by decide) ?_
  refine w_aload_n C dX1_bothOf_1 rfl 0 rfl ?_
  refine w_get C 84 0 (Nat.le_of_ble_eq_true rfl) rfl rfl inB_X1 (by decide) tw2_128 rfl dX1_bothOf_2 rfl ?_
  refine w_get C 2 6 (Nat.le_of_ble_eq_true rfl) rfl rfl inB_X0 (by decide) tw1_84 rfl dX1_bothOf_5 rfl ?_
  refine w_iload_n C dX1_bothOf_8 rfl 1 rfl ?_
  refine w_iald C 4 8 0 (Nat.le_of_ble_eq_true rfl) (fun _ => rfl) rfl h dX1_bothOf_9 rfl (fun h => ?_)
  refine w_ishl C dX1_bothOf_10 rfl ?_
  refine w_iconst C 1 dX1_bothOf_11 rfl (by decide) ?_
  refine w_aload_n C dX1_bothOf_12 rfl 0 rfl ?_
  refine w_get C 84 0 (Nat.le_of_ble_eq_true rfl) rfl rfl inB_X1 (by decide) tw2_128 rfl dX1_bothOf_13 rfl ?_
  refine w_get C 2 7 (Nat.le_of_ble_eq_true rfl) rfl rfl inB_X0 (by decide) tw1_88 rfl dX1_bothOf_16 rfl ?_
  refine w_iload_n C dX1_bothOf_19 rfl 1 rfl ?_
  refine w_iald C 5 8 0 (Nat.le_of_ble_eq_true rfl) (fun _ => rfl) rfl h dX1_bothOf_20 rfl (fun h => ?_)
  refine w_ishl C dX1_bothOf_21 rfl ?_
  refine w_ior C dX1_bothOf_22 rfl ?_
  exact w_ri1 hr h (by decide) dX1_bothOf_23
theorem cfX1_bothOf (D : va_G) (cI : ClassId) (ad : Nat → Nat) {l : Launch} (had : gAp (gC D cI ad)) {F : Nat} {σ : St} {a0 : Int32} {r : Int32} (h : fX1_bothOf F σ a0 = some r) : MI l yX1_bothOf (wB yX1_bothOf cX1_bothOf 2 (some .int)) 0 0 (gC D cI ad) [.ref (ad 84), .int a0] σ r σ := mk_MI had (by decide +kernel) (Nat.le_of_ble_eq_true rfl) (fun X hX C hr => wfX1_bothOf C hr h)

def fX1_reachedFrom (F : Nat) (σ : St) (a0 : Int32) (a1 : Int32) : Option Int32 := nm ((1 : Int32) <<< (a0 &&& 31)) fun x1 => lp (fun (K3 : (Int32 × Int32) → Option Int32) (v2 : Int32 × Int32) => if (6 : Int32) ≤ v2.1 then (some (v2.2 &&& (((1 : Int32) <<< (a0 &&& 31)) ^^^ ((-1))))) else lp (fun (K6 : (Int32 × Int32) → Option Int32) (v5 : Int32 × Int32) => if (σ 2 1) ≤ v5.1 then (K3 ((v2.1 + 1, v5.2))) else bd1 (fX1_bothOf F σ v5.1) fun r8 => ckI (v5.1) 8 (jn (fun v9 : Int32 => if v9 = 0 then (K6 ((v5.1 + 1, v5.2))) else if (v5.2 &&& r8) = 0 then (K6 ((v5.1 + 1, v5.2))) else nm (v5.2 ||| r8) fun x12 => K6 ((v5.1 + 1, x12))) fun J10 => jn (fun v13 : Unit => J10 0) fun J14 => if (σ 6 (Int32.toNatClampNeg v5.1)) = (3 : Int32) then (if ((a1 >>> (v5.1 &&& 31)) &&& 1) = 0 then (J14 (())) else J10 1) else J14 (()))) F ((0, v2.2))) F ((0, x1))
set_option maxRecDepth 20000 in
theorem wfX1_reachedFrom {X : XT} {D : va_G} {cI : ClassId} {ad : Nat → Nat} {F : Nat} {σ : St} {a0 : Int32} {a1 : Int32} {r : Int32} (C : Cx X (gC D cI ad) cX1_reachedFrom 8 RX1 1 21 0) (hr : RetI X (gC D cI ad) cX1_reachedFrom 8 0 r σ) (h : fX1_reachedFrom F σ a0 a1 = some r) : WP X (gC D cI ad) 8 0 0 σ [(0, .ref (ad 84)), (1, .int a0), (2, .int a1)] [] := by
  unfold fX1_reachedFrom at h
  refine w_iconst C 1 dX1_reachedFrom_0 rfl (by decide) ?_
  refine w_iload_n C dX1_reachedFrom_1 rfl 1 rfl ?_
  refine w_ishl C dX1_reachedFrom_2 rfl ?_
  refine w_nm h (fun x1 h => ?_)
  refine w_istore_n C [(3, .int x1), (0, .ref (ad 84)), (1, .int a0), (2, .int a1)] dX1_reachedFrom_3 rfl (by decide) rfl ?_
  refine w_iconst C 0 dX1_reachedFrom_4 rfl (by decide) ?_
  refine w_istore C [(4, .int 0), (3, .int x1), (0, .ref (ad 84)), (1, .int a0), (2, .int a1)] dX1_reachedFrom_5 rfl (by decide) rfl ?_
  refine w_sub (lv' := [(4, .int 0), (3, .int x1), (0, .ref (ad 84)), (1, .int a0), (2, .int a1)]) [0, 1, 2, 3, 4] rfl ?_
  refine lp_w (fun v2 : Int32 × Int32 => WP X (gC D cI ad) 8 0 7 σ [(4, .int v2.1), (3, .int v2.2), (0, .ref (ad 84)), (1, .int a0), (2, .int a1)] []) (fun K3 hK4 v2 h => ?_) F _ h
  refine w_iload C dX1_reachedFrom_7 rfl 0 rfl ?_
  refine w_bipush C 6 dX1_reachedFrom_9 rfl (by decide) ?_
  refine w_icmp_ge C (qt := 96) dX1_reachedFrom_11 (by decide) rfl h (fun _ h => ?_) (fun _ h => ?_)
  · refine w_iload_n C dX1_reachedFrom_96 rfl 1 rfl ?_
    refine w_iconst C 1 dX1_reachedFrom_97 rfl (by decide) ?_
    refine w_iload_n C dX1_reachedFrom_98 rfl 3 rfl ?_
    refine w_ishl C dX1_reachedFrom_99 rfl ?_
    refine w_iconst C (-1) dX1_reachedFrom_100 rfl (by decide) ?_
    refine w_ixor C dX1_reachedFrom_101 rfl ?_
    refine w_iand C dX1_reachedFrom_102 rfl ?_
    exact w_ri1 hr h (by decide) dX1_reachedFrom_103
  · refine w_iconst C 0 dX1_reachedFrom_14 rfl (by decide) ?_
    refine w_istore C [(5, .int 0), (4, .int v2.1), (3, .int v2.2), (0, .ref (ad 84)), (1, .int a0), (2, .int a1)] dX1_reachedFrom_15 rfl (by decide) rfl ?_
    refine w_sub (lv' := [(5, .int 0), (4, .int v2.1), (3, .int v2.2), (0, .ref (ad 84)), (1, .int a0), (2, .int a1)]) [0, 1, 2, 3, 4, 5] rfl ?_
    refine lp_w (fun v5 : Int32 × Int32 => WP X (gC D cI ad) 8 0 17 σ [(5, .int v5.1), (4, .int v2.1), (3, .int v5.2), (0, .ref (ad 84)), (1, .int a0), (2, .int a1)] []) (fun K6 hK7 v5 h => ?_) F _ h
    refine w_iload C dX1_reachedFrom_17 rfl 0 rfl ?_
    refine w_aload_n C dX1_reachedFrom_19 rfl 3 rfl ?_
    refine w_get C 84 0 (Nat.le_of_ble_eq_true rfl) rfl rfl inB_X1 (by decide) tw2_128 rfl dX1_reachedFrom_20 rfl ?_
    refine w_get C 2 1 (Nat.le_of_ble_eq_true rfl) rfl rfl inB_X0 (by decide) tw1_63 rfl dX1_reachedFrom_23 rfl ?_
    refine w_icmp_ge C (qt := 90) dX1_reachedFrom_26 (by decide) rfl h (fun _ h => ?_) (fun _ h => ?_)
    · refine w_iinc (j := 1) C (v2.1 + 1) [(4, .int (v2.1 + 1)), (5, .int v5.1), (3, .int v5.2), (0, .ref (ad 84)), (1, .int a0), (2, .int a1)] dX1_reachedFrom_90 rfl rfl rfl (by decide) rfl ?_
      refine w_goto (q := 7) C dX1_reachedFrom_93 (by decide) ?_
      exact w_sub (lv' := [(4, .int (v2.1 + 1)), (3, .int v5.2), (0, .ref (ad 84)), (1, .int a0), (2, .int a1)]) [0, 2, 3, 4, 5] rfl (hK4 ((v2.1 + 1, v5.2)) h)
    · refine w_aload_n C dX1_reachedFrom_29 rfl 3 rfl ?_
      refine w_iload C dX1_reachedFrom_30 rfl 0 rfl ?_
      refine bd1_w h (fun r8 hc h => ?_)
      refine w_callVi C (n := 1) (As := [.int v5.1]) (st := []) 84 (Nat.le_of_ble_eq_true rfl) rfl rfl (cfX1_bothOf D cI ad (l := X.2.1) C.2.2.1 hc) tw6_30 cy_X1_bothOf (by decide +kernel) ⟨Nat.le_of_ble_eq_true rfl, Nat.le_of_ble_eq_true rfl⟩ (by decide) rfl rfl (Nat.le_of_ble_eq_true rfl) dX1_reachedFrom_32 rfl ?_
      refine w_istore C [(6, .int r8), (5, .int v5.1), (4, .int v2.1), (3, .int v5.2), (0, .ref (ad 84)), (1, .int a0), (2, .int a1)] dX1_reachedFrom_35 rfl (by decide) rfl ?_
      refine w_aload_n C dX1_reachedFrom_37 rfl 4 rfl ?_
      refine w_get C 84 0 (Nat.le_of_ble_eq_true rfl) rfl rfl inB_X1 (by decide) tw2_128 rfl dX1_reachedFrom_38 rfl ?_
      refine w_get C 2 8 (Nat.le_of_ble_eq_true rfl) rfl rfl inB_X0 (by decide) tw1_93 rfl dX1_reachedFrom_41 rfl ?_
      refine w_iload C dX1_reachedFrom_44 rfl 1 rfl ?_
      refine w_iald C 6 8 0 (Nat.le_of_ble_eq_true rfl) (fun _ => rfl) rfl h dX1_reachedFrom_46 rfl (fun h => ?_)
      refine w_iconst C 3 dX1_reachedFrom_47 rfl (by decide) ?_
      refine jn_w (fun v9 : Int32 => WP X (gC D cI ad) 8 0 65 σ [(6, .int r8), (5, .int v5.1), (4, .int v2.1), (3, .int v5.2), (0, .ref (ad 84)), (1, .int a0), (2, .int a1)] [.int v9]) h (fun v9 h => ?_) (fun J10 hJ11 h => ?_)
      · refine w_istore C [(7, .int v9), (6, .int r8), (5, .int v5.1), (4, .int v2.1), (3, .int v5.2), (0, .ref (ad 84)), (1, .int a0), (2, .int a1)] dX1_reachedFrom_65 rfl (by decide) rfl ?_
        refine w_iload C dX1_reachedFrom_67 rfl 0 rfl ?_
        refine w_if_eq C (qt := 84) dX1_reachedFrom_69 (by decide) rfl h (fun _ h => ?_) (fun _ h => ?_)
        · refine w_iinc (j := 2) C (v5.1 + 1) [(5, .int (v5.1 + 1)), (7, .int v9), (6, .int r8), (4, .int v2.1), (3, .int v5.2), (0, .ref (ad 84)), (1, .int a0), (2, .int a1)] dX1_reachedFrom_84 rfl rfl rfl (by decide) rfl ?_
          refine w_goto (q := 17) C dX1_reachedFrom_87 (by decide) ?_
          exact w_sub (lv' := [(5, .int (v5.1 + 1)), (4, .int v2.1), (3, .int v5.2), (0, .ref (ad 84)), (1, .int a0), (2, .int a1)]) [0, 3, 4, 5, 6, 7] rfl (hK7 ((v5.1 + 1, v5.2)) h)
        · refine w_iload_n C dX1_reachedFrom_72 rfl 4 rfl ?_
          refine w_iload C dX1_reachedFrom_73 rfl 1 rfl ?_
          refine w_iand C dX1_reachedFrom_75 rfl ?_
          refine w_if_eq C (qt := 84) dX1_reachedFrom_76 (by decide) rfl h (fun _ h => ?_) (fun _ h => ?_)
          · refine w_iinc (j := 2) C (v5.1 + 1) [(5, .int (v5.1 + 1)), (7, .int v9), (6, .int r8), (4, .int v2.1), (3, .int v5.2), (0, .ref (ad 84)), (1, .int a0), (2, .int a1)] dX1_reachedFrom_84 rfl rfl rfl (by decide) rfl ?_
            refine w_goto (q := 17) C dX1_reachedFrom_87 (by decide) ?_
            exact w_sub (lv' := [(5, .int (v5.1 + 1)), (4, .int v2.1), (3, .int v5.2), (0, .ref (ad 84)), (1, .int a0), (2, .int a1)]) [0, 3, 4, 5, 6, 7] rfl (hK7 ((v5.1 + 1, v5.2)) h)
          · refine w_iload_n C dX1_reachedFrom_79 rfl 4 rfl ?_
            refine w_iload C dX1_reachedFrom_80 rfl 1 rfl ?_
            refine w_ior C dX1_reachedFrom_82 rfl ?_
            refine w_nm h (fun x12 h => ?_)
            refine w_istore_n C [(3, .int x12), (7, .int v9), (6, .int r8), (5, .int v5.1), (4, .int v2.1), (0, .ref (ad 84)), (1, .int a0), (2, .int a1)] dX1_reachedFrom_83 rfl (by decide) rfl ?_
            refine w_iinc (j := 3) C (v5.1 + 1) [(5, .int (v5.1 + 1)), (3, .int x12), (7, .int v9), (6, .int r8), (4, .int v2.1), (0, .ref (ad 84)), (1, .int a0), (2, .int a1)] dX1_reachedFrom_84 rfl rfl rfl (by decide) rfl ?_
            refine w_goto (q := 17) C dX1_reachedFrom_87 (by decide) ?_
            exact w_sub (lv' := [(5, .int (v5.1 + 1)), (4, .int v2.1), (3, .int x12), (0, .ref (ad 84)), (1, .int a0), (2, .int a1)]) [0, 4, 1, 5, 6, 7] rfl (hK7 ((v5.1 + 1, x12)) h)
      · refine jn_w (fun v13 : Unit => WP X (gC D cI ad) 8 0 64 σ [(6, .int r8), (5, .int v5.1), (4, .int v2.1), (3, .int v5.2), (0, .ref (ad 84)), (1, .int a0), (2, .int a1)] []) h (fun v13 h => ?_) (fun J14 hJ15 h => ?_)
        · refine w_iconst C 0 dX1_reachedFrom_64 rfl (by decide) ?_
          exact w_sub (lv' := [(6, .int r8), (5, .int v5.1), (4, .int v2.1), (3, .int v5.2), (0, .ref (ad 84)), (1, .int a0), (2, .int a1)]) [0, 1, 2, 3, 4, 5, 6] rfl (hJ11 0 h)
        · refine w_icmp_ne C (qt := 64) dX1_reachedFrom_48 (by decide) rfl h (fun _ h => ?_) (fun _ h => ?_)
          · exact w_sub (lv' := [(6, .int r8), (5, .int v5.1), (4, .int v2.1), (3, .int v5.2), (0, .ref (ad 84)), (1, .int a0), (2, .int a1)]) [0, 1, 2, 3, 4, 5, 6] rfl (hJ15 (()) h)
          · refine w_iload_n C dX1_reachedFrom_51 rfl 6 rfl ?_
            refine w_iload C dX1_reachedFrom_52 rfl 1 rfl ?_
            refine w_ishr C dX1_reachedFrom_54 rfl ?_
            refine w_iconst C 1 dX1_reachedFrom_55 rfl (by decide) ?_
            refine w_iand C dX1_reachedFrom_56 rfl ?_
            refine w_if_eq C (qt := 64) dX1_reachedFrom_57 (by decide) rfl h (fun _ h => ?_) (fun _ h => ?_)
            · exact w_sub (lv' := [(6, .int r8), (5, .int v5.1), (4, .int v2.1), (3, .int v5.2), (0, .ref (ad 84)), (1, .int a0), (2, .int a1)]) [0, 1, 2, 3, 4, 5, 6] rfl (hJ15 (()) h)
            · refine w_iconst C 1 dX1_reachedFrom_60 rfl (by decide) ?_
              refine w_goto (q := 65) C dX1_reachedFrom_61 (by decide) ?_
              exact w_sub (lv' := [(6, .int r8), (5, .int v5.1), (4, .int v2.1), (3, .int v5.2), (0, .ref (ad 84)), (1, .int a0), (2, .int a1)]) [0, 1, 2, 3, 4, 5, 6] rfl (hJ11 1 h)
theorem cfX1_reachedFrom (D : va_G) (cI : ClassId) (ad : Nat → Nat) {l : Launch} (had : gAp (gC D cI ad)) {F : Nat} {σ : St} {a0 : Int32} {a1 : Int32} {r : Int32} (h : fX1_reachedFrom F σ a0 a1 = some r) : MI l yX1_reachedFrom (wB yX1_reachedFrom cX1_reachedFrom 8 (some .int)) 1 21 (gC D cI ad) [.ref (ad 84), .int a0, .int a1] σ r σ := mk_MI had (by decide +kernel) (Nat.le_of_ble_eq_true rfl) (fun X hX C hr => wfX1_reachedFrom C hr h)

def fX10_help (F : Nat) (σ : St) (a0 : Int32) : Option (Nat × Int32 × St) := bd1 (fX10_checkValley F σ a0) fun t1 => if t1 = 0 then (bd2 (fX2_bindingBits F σ 0) fun r2 u3 => bd1 (fX1_reachedFrom F u3 a0 r2) fun r4 => some (0, r4, u3)) else some (t1, 0, σ)
set_option maxRecDepth 20000 in
theorem wfX10_help {X : XT} {D : va_G} {cI : ClassId} {ad : Nat → Nat} {F : Nat} {σ : St} {a0 : Int32} {res : Nat × Int32 × St} (C : Cx X (gC D cI ad) cX10_help 2 RX10 8 131 1) (hr : RetXi X (gC D cI ad) cX10_help 2 1 res) (hx : ThrX X (gC D cI ad) cX10_help 2 1 res) (h : fX10_help F σ a0 = some res) : WP X (gC D cI ad) 2 0 0 σ [(0, .ref (ad 0)), (1, .int a0)] [] := by
  unfold fX10_help at h
  refine w_aload_n C dX10_help_0 rfl 0 rfl ?_
  refine w_iload_n C dX10_help_1 rfl 1 rfl ?_
  refine bd1_w h (fun t1 hc h => ?_)
  refine w_callX C hx (n := 1) (As := [.int a0]) (st := []) 0 (Nat.le_of_ble_eq_true rfl) rfl rfl (cfX10_checkValley D cI ad (l := X.2.1) C.2.2.1 hx.1 hc) tw5_0 cy_X10_checkValley (by decide +kernel) ⟨by decide, by decide⟩ (by decide) rfl rfl (Nat.le_of_ble_eq_true rfl) dX10_help_2 rfl h (fun h => ?_)
  refine w_aload_n C dX10_help_5 rfl 0 rfl ?_
  refine w_get C 0 13 (Nat.le_of_ble_eq_true rfl) rfl rfl inB_X10 (by decide) tw2_185 rfl dX10_help_6 rfl ?_
  refine w_iload_n C dX10_help_9 rfl 1 rfl ?_
  refine w_aload_n C dX10_help_10 rfl 0 rfl ?_
  refine w_get C 0 10 (Nat.le_of_ble_eq_true rfl) rfl rfl inB_X10 (by decide) tw2_182 rfl dX10_help_11 rfl ?_
  refine w_aload_n C dX10_help_14 rfl 0 rfl ?_
  refine w_get C 0 7 (Nat.le_of_ble_eq_true rfl) rfl rfl inB_X10 (by decide) tw2_179 rfl dX10_help_15 rfl ?_
  refine w_iconst C 0 dX10_help_18 rfl (by decide) ?_
  refine bd2_w h (fun r2 u3 hc h => ?_)
  refine w_callVi C (n := 2) (As := [.ref (ad 30), .int 0]) (st := [.int a0, .ref (ad 84)]) 66 (Nat.le_of_ble_eq_true rfl) rfl rfl (cfX2_bindingBits D cI ad (l := X.2.1) C.2.2.1 hc) tw4_88 cy_X2_bindingBits (by decide +kernel) ⟨Nat.le_of_ble_eq_true rfl, Nat.le_of_ble_eq_true rfl⟩ (by decide) rfl rfl (Nat.le_of_ble_eq_true rfl) dX10_help_19 rfl ?_
  refine bd1_w h (fun r4 hc h => ?_)
  refine w_callVi C (n := 2) (As := [.int a0, .int r2]) (st := []) 84 (Nat.le_of_ble_eq_true rfl) rfl rfl (cfX1_reachedFrom D cI ad (l := X.2.1) C.2.2.1 hc) tw6_26 cy_X1_reachedFrom (by decide +kernel) ⟨Nat.le_of_ble_eq_true rfl, Nat.le_of_ble_eq_true rfl⟩ (by decide) rfl rfl (Nat.le_of_ble_eq_true rfl) dX10_help_22 rfl ?_
  exact w_rxi hr h (by decide) dX10_help_25
theorem cfX10_help (D : va_G) (cI : ClassId) (ad : Nat → Nat) {l : Launch} (had : gAp (gC D cI ad)) (hst : l.stackTraces = false) {F : Nat} {σ : St} {a0 : Int32} {res : Nat × Int32 × St} (h : fX10_help F σ a0 = some res) : MX l yX10_help (wB yX10_help cX10_help 2 (some .int)) 8 131 1 (gC D cI ad) [.ref (ad 0), .int a0] σ res := mk_MX had (by decide +kernel) (Nat.le_of_ble_eq_true rfl) hst rfl (by decide) (by decide) (fun X hX C hr hx => wfX10_help C hr hx h)

def fX1_onOneEvening (F : Nat) (σ : St) (a0 : Int32) : Option Int32 := lp (fun (K2 : (Int32 × Int32) → Option Int32) (v1 : Int32 × Int32) => if (σ 2 1) ≤ v1.1 then (some 1) else if ((a0 >>> (v1.1 &&& 31)) &&& 1) = 0 then (K2 ((v1.1 + 1, v1.2))) else bd1 (fX1_bothOf F σ v1.1) fun r4 => if (v1.2 &&& r4) = 0 then (bd1 (fX1_bothOf F σ v1.1) fun r5 => nm (v1.2 ||| r5) fun x6 => K2 ((v1.1 + 1, x6))) else some 0) F ((0, 0))
set_option maxRecDepth 20000 in
theorem wfX1_onOneEvening {X : XT} {D : va_G} {cI : ClassId} {ad : Nat → Nat} {F : Nat} {σ : St} {a0 : Int32} {r : Int32} (C : Cx X (gC D cI ad) cX1_onOneEvening 4 RX1 1 21 0) (hr : RetZ X (gC D cI ad) cX1_onOneEvening 4 0 r σ) (h : fX1_onOneEvening F σ a0 = some r) : WP X (gC D cI ad) 4 0 0 σ [(0, .ref (ad 84)), (1, .int a0)] [] := by
  unfold fX1_onOneEvening at h
  refine w_iconst C 0 dX1_onOneEvening_0 rfl (by decide) ?_
  refine w_istore_n C [(2, .int 0), (0, .ref (ad 84)), (1, .int a0)] dX1_onOneEvening_1 rfl (by decide) rfl ?_
  refine w_iconst C 0 dX1_onOneEvening_2 rfl (by decide) ?_
  refine w_istore_n C [(3, .int 0), (2, .int 0), (0, .ref (ad 84)), (1, .int a0)] dX1_onOneEvening_3 rfl (by decide) rfl ?_
  refine w_sub (lv' := [(3, .int 0), (2, .int 0), (0, .ref (ad 84)), (1, .int a0)]) [0, 1, 2, 3] rfl ?_
  refine lp_w (fun v1 : Int32 × Int32 => WP X (gC D cI ad) 4 0 4 σ [(3, .int v1.1), (2, .int v1.2), (0, .ref (ad 84)), (1, .int a0)] []) (fun K2 hK3 v1 h => ?_) F _ h
  refine w_iload_n C dX1_onOneEvening_4 rfl 0 rfl ?_
  refine w_aload_n C dX1_onOneEvening_5 rfl 2 rfl ?_
  refine w_get C 84 0 (Nat.le_of_ble_eq_true rfl) rfl rfl inB_X1 (by decide) tw2_128 rfl dX1_onOneEvening_6 rfl ?_
  refine w_get C 2 1 (Nat.le_of_ble_eq_true rfl) rfl rfl inB_X0 (by decide) tw1_63 rfl dX1_onOneEvening_9 rfl ?_
  refine w_icmp_ge C (qt := 49) dX1_onOneEvening_12 (by decide) rfl h (fun _ h => ?_) (fun _ h => ?_)
  · refine w_iconst C 1 dX1_onOneEvening_49 rfl (by decide) ?_
    exact w_rz1 hr (by decide) h (by decide) dX1_onOneEvening_50
  · refine w_iload_n C dX1_onOneEvening_15 rfl 3 rfl ?_
    refine w_iload_n C dX1_onOneEvening_16 rfl 0 rfl ?_
    refine w_ishr C dX1_onOneEvening_17 rfl ?_
    refine w_iconst C 1 dX1_onOneEvening_18 rfl (by decide) ?_
    refine w_iand C dX1_onOneEvening_19 rfl ?_
    refine w_if_eq C (qt := 43) dX1_onOneEvening_20 (by decide) rfl h (fun _ h => ?_) (fun _ h => ?_)
    · refine w_iinc (j := 0) C (v1.1 + 1) [(3, .int (v1.1 + 1)), (2, .int v1.2), (0, .ref (ad 84)), (1, .int a0)] dX1_onOneEvening_43 rfl rfl rfl (by decide) rfl ?_
      refine w_goto (q := 4) C dX1_onOneEvening_46 (by decide) ?_
      exact w_sub (lv' := [(3, .int (v1.1 + 1)), (2, .int v1.2), (0, .ref (ad 84)), (1, .int a0)]) [0, 1, 2, 3] rfl (hK3 ((v1.1 + 1, v1.2)) h)
    · refine w_iload_n C dX1_onOneEvening_23 rfl 1 rfl ?_
      refine w_aload_n C dX1_onOneEvening_24 rfl 2 rfl ?_
      refine w_iload_n C dX1_onOneEvening_25 rfl 0 rfl ?_
      refine bd1_w h (fun r4 hc h => ?_)
      refine w_callVi C (n := 1) (As := [.int v1.1]) (st := [.int v1.2]) 84 (Nat.le_of_ble_eq_true rfl) rfl rfl (cfX1_bothOf D cI ad (l := X.2.1) C.2.2.1 hc) tw6_30 cy_X1_bothOf (by decide +kernel) ⟨Nat.le_of_ble_eq_true rfl, Nat.le_of_ble_eq_true rfl⟩ (by decide) rfl rfl (Nat.le_of_ble_eq_true rfl) dX1_onOneEvening_26 rfl ?_
      refine w_iand C dX1_onOneEvening_29 rfl ?_
      refine w_if_eq C (qt := 35) dX1_onOneEvening_30 (by decide) rfl h (fun _ h => ?_) (fun _ h => ?_)
      · refine w_iload_n C dX1_onOneEvening_35 rfl 1 rfl ?_
        refine w_aload_n C dX1_onOneEvening_36 rfl 2 rfl ?_
        refine w_iload_n C dX1_onOneEvening_37 rfl 0 rfl ?_
        refine bd1_w h (fun r5 hc h => ?_)
        refine w_callVi C (n := 1) (As := [.int v1.1]) (st := [.int v1.2]) 84 (Nat.le_of_ble_eq_true rfl) rfl rfl (cfX1_bothOf D cI ad (l := X.2.1) C.2.2.1 hc) tw6_30 cy_X1_bothOf (by decide +kernel) ⟨Nat.le_of_ble_eq_true rfl, Nat.le_of_ble_eq_true rfl⟩ (by decide) rfl rfl (Nat.le_of_ble_eq_true rfl) dX1_onOneEvening_38 rfl ?_
        refine w_ior C dX1_onOneEvening_41 rfl ?_
        refine w_nm h (fun x6 h => ?_)
        refine w_istore_n C [(2, .int x6), (3, .int v1.1), (0, .ref (ad 84)), (1, .int a0)] dX1_onOneEvening_42 rfl (by decide) rfl ?_
        refine w_iinc (j := 1) C (v1.1 + 1) [(3, .int (v1.1 + 1)), (2, .int x6), (0, .ref (ad 84)), (1, .int a0)] dX1_onOneEvening_43 rfl rfl rfl (by decide) rfl ?_
        refine w_goto (q := 4) C dX1_onOneEvening_46 (by decide) ?_
        exact w_sub (lv' := [(3, .int (v1.1 + 1)), (2, .int x6), (0, .ref (ad 84)), (1, .int a0)]) [0, 1, 2, 3] rfl (hK3 ((v1.1 + 1, x6)) h)
      · refine w_iconst C 0 dX1_onOneEvening_33 rfl (by decide) ?_
        exact w_rz1 hr (by decide) h (by decide) dX1_onOneEvening_34
theorem cfX1_onOneEvening (D : va_G) (cI : ClassId) (ad : Nat → Nat) {l : Launch} (had : gAp (gC D cI ad)) {F : Nat} {σ : St} {a0 : Int32} {r : Int32} (h : fX1_onOneEvening F σ a0 = some r) : MI l yX1_onOneEvening (wB yX1_onOneEvening cX1_onOneEvening 4 (some .boolean)) 1 21 (gC D cI ad) [.ref (ad 84), .int a0] σ r σ := mk_MZ had (by decide +kernel) (Nat.le_of_ble_eq_true rfl) (fun X hX C hr => wfX1_onOneEvening C hr h)

def fX1_findEvenings (F : Nat) (σ : St) : Option St := nm ((1 : Int32) <<< ((σ 2 1) &&& 31)) fun x1 => nm (up σ 86 0 0) fun u2 => lp (fun (K4 : (St × Int32) → Option St) (v3 : St × Int32) => if x1 ≤ v3.2 then (some v3.1) else bd1 (fX1_onOneEvening F v3.1 v3.2) fun r6 => jn (fun v7 : Int32 => ckI (v3.2) 256 (nm (up v3.1 86 (Int32.toNatClampNeg v3.2) v7) fun u10 => lp (fun (K12 : (St × Int32) → Option St) (v11 : St × Int32) => if v3.2 ≤ v11.2 then (K4 ((v11.1, v3.2 + 1))) else if (v11.2 &&& (v3.2 ^^^ ((-1)))) = 0 then (ckI (v11.2) 256 (if (v11.1 86 (Int32.toNatClampNeg v11.2)) = (1 : Int32) then (ckI (v3.2) 256 (ckI (v3.2 ^^^ v11.2) 256 (ckI (v3.2) 256 (nm (up v11.1 86 (Int32.toNatClampNeg v3.2) (if (1 + (v11.1 86 (Int32.toNatClampNeg (v3.2 ^^^ v11.2)))) < (v11.1 86 (Int32.toNatClampNeg v3.2)) then (1 + (v11.1 86 (Int32.toNatClampNeg (v3.2 ^^^ v11.2)))) else (v11.1 86 (Int32.toNatClampNeg v3.2)))) fun u14 => K12 ((u14, v11.2 + 1)))))) else K12 ((v11.1, v11.2 + 1)))) else K12 ((v11.1, v11.2 + 1))) F ((u10, 1)))) fun J8 => if r6 = 0 then (J8 8) else J8 1) F ((u2, 1))
set_option maxRecDepth 20000 in
theorem wfX1_findEvenings {X : XT} {D : va_G} {cI : ClassId} {ad : Nat → Nat} {F : Nat} {σ : St}  {σ' : St} (C : Cx X (gC D cI ad) cX1_findEvenings 4 RX1 2 44 0) (hr : RetV X (gC D cI ad) cX1_findEvenings 4 0 σ') (h : fX1_findEvenings F σ = some σ') : WP X (gC D cI ad) 4 0 0 σ [(0, .ref (ad 84))] [] := by
  unfold fX1_findEvenings at h
  refine w_iconst C 1 dX1_findEvenings_0 rfl (by decide) ?_
  refine w_aload_n C dX1_findEvenings_1 rfl 0 rfl ?_
  refine w_get C 84 0 (Nat.le_of_ble_eq_true rfl) rfl rfl inB_X1 (by decide) tw2_128 rfl dX1_findEvenings_2 rfl ?_
  refine w_get C 2 1 (Nat.le_of_ble_eq_true rfl) rfl rfl inB_X0 (by decide) tw1_63 rfl dX1_findEvenings_5 rfl ?_
  refine w_ishl C dX1_findEvenings_8 rfl ?_
  refine w_nm h (fun x1 h => ?_)
  refine w_istore_n C [(1, .int x1), (0, .ref (ad 84))] dX1_findEvenings_9 rfl (by decide) rfl ?_
  refine w_aload_n C dX1_findEvenings_10 rfl 1 rfl ?_
  refine w_get C 84 3 (Nat.le_of_ble_eq_true rfl) rfl rfl inB_X1 (by decide) tw2_131 rfl dX1_findEvenings_11 rfl ?_
  refine w_iconst C 0 dX1_findEvenings_14 rfl (by decide) ?_
  refine w_iconst C 0 dX1_findEvenings_15 rfl (by decide) ?_
  refine w_iastc C 86 256 0 0 (Nat.le_of_ble_eq_true rfl) (fun _ => rfl) rfl (by decide) (by show ¬ (_ ∨ _); decide) dX1_findEvenings_16 rfl ?_
  refine w_nst h (fun u2 h => ?_)
  refine w_iconst C 1 dX1_findEvenings_17 rfl (by decide) ?_
  refine w_istore_n C [(2, .int 1), (1, .int x1), (0, .ref (ad 84))] dX1_findEvenings_18 rfl (by decide) rfl ?_
  refine w_sub (lv' := [(2, .int 1), (1, .int x1), (0, .ref (ad 84))]) [0, 1, 2] rfl ?_
  refine lp_w (fun v3 : St × Int32 => WP X (gC D cI ad) 4 0 19 v3.1 [(2, .int v3.2), (1, .int x1), (0, .ref (ad 84))] []) (fun K4 hK5 v3 h => ?_) F _ h
  refine w_iload_n C dX1_findEvenings_19 rfl 0 rfl ?_
  refine w_iload_n C dX1_findEvenings_20 rfl 1 rfl ?_
  refine w_icmp_ge C (qt := 106) dX1_findEvenings_21 (by decide) rfl h (fun _ h => ?_) (fun _ h => ?_)
  · exact w_rv hr h (by decide) dX1_findEvenings_106
  · refine w_aload_n C dX1_findEvenings_24 rfl 2 rfl ?_
    refine w_get C 84 3 (Nat.le_of_ble_eq_true rfl) rfl rfl inB_X1 (by decide) tw2_131 rfl dX1_findEvenings_25 rfl ?_
    refine w_iload_n C dX1_findEvenings_28 rfl 0 rfl ?_
    refine w_aload_n C dX1_findEvenings_29 rfl 2 rfl ?_
    refine w_iload_n C dX1_findEvenings_30 rfl 0 rfl ?_
    refine bd1_w h (fun r6 hc h => ?_)
    refine w_callVi C (n := 1) (As := [.int v3.2]) (st := [.int v3.2, .ref (ad 86)]) 84 (Nat.le_of_ble_eq_true rfl) rfl rfl (cfX1_onOneEvening D cI ad (l := X.2.1) C.2.2.1 hc) tw6_45 cy_X1_onOneEvening (by decide +kernel) ⟨Nat.le_of_ble_eq_true rfl, Nat.le_of_ble_eq_true rfl⟩ (by decide) rfl rfl (Nat.le_of_ble_eq_true rfl) dX1_findEvenings_31 rfl ?_
    refine jn_w (fun v7 : Int32 => WP X (gC D cI ad) 4 0 43 v3.1 [(2, .int v3.2), (1, .int x1), (0, .ref (ad 84))] [.int v7, .int v3.2, .ref (ad 86)]) h (fun v7 h => ?_) (fun J8 hJ9 h => ?_)
    · refine w_iast C 86 256 0 (Nat.le_of_ble_eq_true rfl) (fun _ => rfl) rfl h dX1_findEvenings_43 rfl (fun h => ?_)
      refine w_nst h (fun u10 h => ?_)
      refine w_iconst C 1 dX1_findEvenings_44 rfl (by decide) ?_
      refine w_istore_n C [(3, .int 1), (2, .int v3.2), (1, .int x1), (0, .ref (ad 84))] dX1_findEvenings_45 rfl (by decide) rfl ?_
      refine w_sub (lv' := [(3, .int 1), (2, .int v3.2), (1, .int x1), (0, .ref (ad 84))]) [0, 1, 2, 3] rfl ?_
      refine lp_w (fun v11 : St × Int32 => WP X (gC D cI ad) 4 0 46 v11.1 [(3, .int v11.2), (2, .int v3.2), (1, .int x1), (0, .ref (ad 84))] []) (fun K12 hK13 v11 h => ?_) F _ h
      refine w_iload_n C dX1_findEvenings_46 rfl 0 rfl ?_
      refine w_iload_n C dX1_findEvenings_47 rfl 1 rfl ?_
      refine w_icmp_ge C (qt := 100) dX1_findEvenings_48 (by decide) rfl h (fun _ h => ?_) (fun _ h => ?_)
      · refine w_iinc (j := 1) C (v3.2 + 1) [(2, .int (v3.2 + 1)), (3, .int v11.2), (1, .int x1), (0, .ref (ad 84))] dX1_findEvenings_100 rfl rfl rfl (by decide) rfl ?_
        refine w_goto (q := 19) C dX1_findEvenings_103 (by decide) ?_
        exact w_sub (lv' := [(2, .int (v3.2 + 1)), (1, .int x1), (0, .ref (ad 84))]) [0, 2, 3] rfl (hK5 ((v11.1, v3.2 + 1)) h)
      · refine w_iload_n C dX1_findEvenings_51 rfl 0 rfl ?_
        refine w_iload_n C dX1_findEvenings_52 rfl 1 rfl ?_
        refine w_iconst C (-1) dX1_findEvenings_53 rfl (by decide) ?_
        refine w_ixor C dX1_findEvenings_54 rfl ?_
        refine w_iand C dX1_findEvenings_55 rfl ?_
        refine w_if_ne C (qt := 94) dX1_findEvenings_56 (by decide) rfl h (fun _ h => ?_) (fun _ h => ?_)
        · refine w_iinc (j := 0) C (v11.2 + 1) [(3, .int (v11.2 + 1)), (2, .int v3.2), (1, .int x1), (0, .ref (ad 84))] dX1_findEvenings_94 rfl rfl rfl (by decide) rfl ?_
          refine w_goto (q := 46) C dX1_findEvenings_97 (by decide) ?_
          exact w_sub (lv' := [(3, .int (v11.2 + 1)), (2, .int v3.2), (1, .int x1), (0, .ref (ad 84))]) [0, 1, 2, 3] rfl (hK13 ((v11.1, v11.2 + 1)) h)
        · refine w_aload_n C dX1_findEvenings_59 rfl 3 rfl ?_
          refine w_get C 84 3 (Nat.le_of_ble_eq_true rfl) rfl rfl inB_X1 (by decide) tw2_131 rfl dX1_findEvenings_60 rfl ?_
          refine w_iload_n C dX1_findEvenings_63 rfl 0 rfl ?_
          refine w_iald C 86 256 0 (Nat.le_of_ble_eq_true rfl) (fun _ => rfl) rfl h dX1_findEvenings_64 rfl (fun h => ?_)
          refine w_iconst C 1 dX1_findEvenings_65 rfl (by decide) ?_
          refine w_icmp_ne C (qt := 94) dX1_findEvenings_66 (by decide) rfl h (fun _ h => ?_) (fun _ h => ?_)
          · refine w_iinc (j := 0) C (v11.2 + 1) [(3, .int (v11.2 + 1)), (2, .int v3.2), (1, .int x1), (0, .ref (ad 84))] dX1_findEvenings_94 rfl rfl rfl (by decide) rfl ?_
            refine w_goto (q := 46) C dX1_findEvenings_97 (by decide) ?_
            exact w_sub (lv' := [(3, .int (v11.2 + 1)), (2, .int v3.2), (1, .int x1), (0, .ref (ad 84))]) [0, 1, 2, 3] rfl (hK13 ((v11.1, v11.2 + 1)) h)
          · refine w_aload_n C dX1_findEvenings_69 rfl 3 rfl ?_
            refine w_get C 84 3 (Nat.le_of_ble_eq_true rfl) rfl rfl inB_X1 (by decide) tw2_131 rfl dX1_findEvenings_70 rfl ?_
            refine w_iload_n C dX1_findEvenings_73 rfl 1 rfl ?_
            refine w_aload_n C dX1_findEvenings_74 rfl 3 rfl ?_
            refine w_get C 84 3 (Nat.le_of_ble_eq_true rfl) rfl rfl inB_X1 (by decide) tw2_131 rfl dX1_findEvenings_75 rfl ?_
            refine w_iload_n C dX1_findEvenings_78 rfl 1 rfl ?_
            refine w_iald C 86 256 0 (Nat.le_of_ble_eq_true rfl) (fun _ => rfl) rfl h dX1_findEvenings_79 rfl (fun h => ?_)
            refine w_iconst C 1 dX1_findEvenings_80 rfl (by decide) ?_
            refine w_aload_n C dX1_findEvenings_81 rfl 3 rfl ?_
            refine w_get C 84 3 (Nat.le_of_ble_eq_true rfl) rfl rfl inB_X1 (by decide) tw2_131 rfl dX1_findEvenings_82 rfl ?_
            refine w_iload_n C dX1_findEvenings_85 rfl 1 rfl ?_
            refine w_iload_n C dX1_findEvenings_86 rfl 0 rfl ?_
            refine w_ixor C dX1_findEvenings_87 rfl ?_
            refine w_iald C 86 256 0 (Nat.le_of_ble_eq_true rfl) (fun _ => rfl) rfl h dX1_findEvenings_88 rfl (fun h => ?_)
            refine w_iadd C dX1_findEvenings_89 rfl ?_
            refine w_mmin C (all4 tw6_49 tw3_112 tw1_17 tw3_113) ⟨Nat.le_of_ble_eq_true rfl, Nat.le_of_ble_eq_true rfl⟩ (by decide) dX1_findEvenings_90 rfl ?_
            refine w_iast C 86 256 0 (Nat.le_of_ble_eq_true rfl) (fun _ => rfl) rfl h dX1_findEvenings_93 rfl (fun h => ?_)
            refine w_nst h (fun u14 h => ?_)
            refine w_iinc (j := 0) C (v11.2 + 1) [(3, .int (v11.2 + 1)), (2, .int v3.2), (1, .int x1), (0, .ref (ad 84))] dX1_findEvenings_94 rfl rfl rfl (by decide) rfl ?_
            refine w_goto (q := 46) C dX1_findEvenings_97 (by decide) ?_
            exact w_sub (lv' := [(3, .int (v11.2 + 1)), (2, .int v3.2), (1, .int x1), (0, .ref (ad 84))]) [0, 1, 2, 3] rfl (hK13 ((u14, v11.2 + 1)) h)
    · refine w_if_eq C (qt := 41) dX1_findEvenings_34 (by decide) rfl h (fun _ h => ?_) (fun _ h => ?_)
      · refine w_bipush C 8 dX1_findEvenings_41 rfl (by decide) ?_
        exact w_sub (lv' := [(2, .int v3.2), (1, .int x1), (0, .ref (ad 84))]) [0, 1, 2] rfl (hJ9 8 h)
      · refine w_iconst C 1 dX1_findEvenings_37 rfl (by decide) ?_
        refine w_goto (q := 43) C dX1_findEvenings_38 (by decide) ?_
        exact w_sub (lv' := [(2, .int v3.2), (1, .int x1), (0, .ref (ad 84))]) [0, 1, 2] rfl (hJ9 1 h)
theorem cfX1_findEvenings (D : va_G) (cI : ClassId) (ad : Nat → Nat) {l : Launch} (had : gAp (gC D cI ad)) {F : Nat} {σ : St}  {σ' : St} (h : fX1_findEvenings F σ = some σ') : MV l yX1_findEvenings (wB yX1_findEvenings cX1_findEvenings 4 none) 2 44 (gC D cI ad) [.ref (ad 84)] σ σ' := mk_MV had (by decide +kernel) (Nat.le_of_ble_eq_true rfl) (fun X hX C hr => wfX1_findEvenings C hr h)

def fX1_mostAtOnce (F : Nat) (σ : St) : Option Int32 := lp (fun (K2 : (Int32 × Int32) → Option Int32) (v1 : Int32 × Int32) => if ((1 : Int32) <<< ((σ 2 1) &&& 31)) ≤ v1.1 then (some v1.2) else ckI (v1.1) 256 (if (σ 86 (Int32.toNatClampNeg v1.1)) = (1 : Int32) then (bd1 (fJ6_bitCount_0f7a4 F σ v1.1) fun r4 => bd1 (fJ6_bitCount_0f7a4 F σ v1.2) fun r5 => if r4 ≤ r5 then (K2 ((v1.1 + 1, v1.2))) else K2 ((v1.1 + 1, v1.1))) else K2 ((v1.1 + 1, v1.2)))) F ((1, 0))
set_option maxRecDepth 20000 in
theorem wfX1_mostAtOnce {X : XT} {D : va_G} {cI : ClassId} {ad : Nat → Nat} {F : Nat} {σ : St}  {r : Int32} (C : Cx X (gC D cI ad) cX1_mostAtOnce 3 RX1 1 20 0) (hr : RetI X (gC D cI ad) cX1_mostAtOnce 3 0 r σ) (h : fX1_mostAtOnce F σ = some r) : WP X (gC D cI ad) 3 0 0 σ [(0, .ref (ad 84))] [] := by
  unfold fX1_mostAtOnce at h
  refine w_iconst C 0 dX1_mostAtOnce_0 rfl (by decide) ?_
  refine w_istore_n C [(1, .int 0), (0, .ref (ad 84))] dX1_mostAtOnce_1 rfl (by decide) rfl ?_
  refine w_iconst C 1 dX1_mostAtOnce_2 rfl (by decide) ?_
  refine w_istore_n C [(2, .int 1), (1, .int 0), (0, .ref (ad 84))] dX1_mostAtOnce_3 rfl (by decide) rfl ?_
  refine w_sub (lv' := [(2, .int 1), (1, .int 0), (0, .ref (ad 84))]) [0, 1, 2] rfl ?_
  refine lp_w (fun v1 : Int32 × Int32 => WP X (gC D cI ad) 3 0 4 σ [(2, .int v1.1), (1, .int v1.2), (0, .ref (ad 84))] []) (fun K2 hK3 v1 h => ?_) F _ h
  refine w_iload_n C dX1_mostAtOnce_4 rfl 0 rfl ?_
  refine w_iconst C 1 dX1_mostAtOnce_5 rfl (by decide) ?_
  refine w_aload_n C dX1_mostAtOnce_6 rfl 2 rfl ?_
  refine w_get C 84 0 (Nat.le_of_ble_eq_true rfl) rfl rfl inB_X1 (by decide) tw2_128 rfl dX1_mostAtOnce_7 rfl ?_
  refine w_get C 2 1 (Nat.le_of_ble_eq_true rfl) rfl rfl inB_X0 (by decide) tw1_63 rfl dX1_mostAtOnce_10 rfl ?_
  refine w_ishl C dX1_mostAtOnce_13 rfl ?_
  refine w_icmp_ge C (qt := 46) dX1_mostAtOnce_14 (by decide) rfl h (fun _ h => ?_) (fun _ h => ?_)
  · refine w_iload_n C dX1_mostAtOnce_46 rfl 1 rfl ?_
    exact w_ri1 hr h (by decide) dX1_mostAtOnce_47
  · refine w_aload_n C dX1_mostAtOnce_17 rfl 2 rfl ?_
    refine w_get C 84 3 (Nat.le_of_ble_eq_true rfl) rfl rfl inB_X1 (by decide) tw2_131 rfl dX1_mostAtOnce_18 rfl ?_
    refine w_iload_n C dX1_mostAtOnce_21 rfl 0 rfl ?_
    refine w_iald C 86 256 0 (Nat.le_of_ble_eq_true rfl) (fun _ => rfl) rfl h dX1_mostAtOnce_22 rfl (fun h => ?_)
    refine w_iconst C 1 dX1_mostAtOnce_23 rfl (by decide) ?_
    refine w_icmp_ne C (qt := 40) dX1_mostAtOnce_24 (by decide) rfl h (fun _ h => ?_) (fun _ h => ?_)
    · refine w_iinc (j := 0) C (v1.1 + 1) [(2, .int (v1.1 + 1)), (1, .int v1.2), (0, .ref (ad 84))] dX1_mostAtOnce_40 rfl rfl rfl (by decide) rfl ?_
      refine w_goto (q := 4) C dX1_mostAtOnce_43 (by decide) ?_
      exact w_sub (lv' := [(2, .int (v1.1 + 1)), (1, .int v1.2), (0, .ref (ad 84))]) [0, 1, 2] rfl (hK3 ((v1.1 + 1, v1.2)) h)
    · refine w_iload_n C dX1_mostAtOnce_27 rfl 0 rfl ?_
      refine bd1_w h (fun r4 hc h => ?_)
      refine w_callSi C (n := 1) (As := [.int v1.1]) (st := []) (cfJ6_bitCount_0f7a4 D cI ad (l := X.2.1) C.2.2.1 hc) tw6_10 cs_J6_bitCount_0f7a4 (by decide +kernel) ⟨Nat.le_of_ble_eq_true rfl, Nat.le_of_ble_eq_true rfl⟩ (by decide) rfl rfl (Nat.le_of_ble_eq_true rfl) dX1_mostAtOnce_28 rfl ?_
      refine w_iload_n C dX1_mostAtOnce_31 rfl 1 rfl ?_
      refine bd1_w h (fun r5 hc h => ?_)
      refine w_callSi C (n := 1) (As := [.int v1.2]) (st := [.int r4]) (cfJ6_bitCount_0f7a4 D cI ad (l := X.2.1) C.2.2.1 hc) tw6_10 cs_J6_bitCount_0f7a4 (by decide +kernel) ⟨Nat.le_of_ble_eq_true rfl, Nat.le_of_ble_eq_true rfl⟩ (by decide) rfl rfl (Nat.le_of_ble_eq_true rfl) dX1_mostAtOnce_32 rfl ?_
      refine w_icmp_le C (qt := 40) dX1_mostAtOnce_35 (by decide) rfl h (fun _ h => ?_) (fun _ h => ?_)
      · refine w_iinc (j := 0) C (v1.1 + 1) [(2, .int (v1.1 + 1)), (1, .int v1.2), (0, .ref (ad 84))] dX1_mostAtOnce_40 rfl rfl rfl (by decide) rfl ?_
        refine w_goto (q := 4) C dX1_mostAtOnce_43 (by decide) ?_
        exact w_sub (lv' := [(2, .int (v1.1 + 1)), (1, .int v1.2), (0, .ref (ad 84))]) [0, 1, 2] rfl (hK3 ((v1.1 + 1, v1.2)) h)
      · refine w_iload_n C dX1_mostAtOnce_38 rfl 0 rfl ?_
        refine w_istore_n C [(1, .int v1.1), (2, .int v1.1), (0, .ref (ad 84))] dX1_mostAtOnce_39 rfl (by decide) rfl ?_
        refine w_iinc (j := 1) C (v1.1 + 1) [(2, .int (v1.1 + 1)), (1, .int v1.1), (0, .ref (ad 84))] dX1_mostAtOnce_40 rfl rfl rfl (by decide) rfl ?_
        refine w_goto (q := 4) C dX1_mostAtOnce_43 (by decide) ?_
        exact w_sub (lv' := [(2, .int (v1.1 + 1)), (1, .int v1.1), (0, .ref (ad 84))]) [0, 1, 2] rfl (hK3 ((v1.1 + 1, v1.1)) h)
theorem cfX1_mostAtOnce (D : va_G) (cI : ClassId) (ad : Nat → Nat) {l : Launch} (had : gAp (gC D cI ad)) {F : Nat} {σ : St}  {r : Int32} (h : fX1_mostAtOnce F σ = some r) : MI l yX1_mostAtOnce (wB yX1_mostAtOnce cX1_mostAtOnce 3 (some .int)) 1 20 (gC D cI ad) [.ref (ad 84)] σ r σ := mk_MI had (by decide +kernel) (Nat.le_of_ble_eq_true rfl) (fun X hX C hr => wfX1_mostAtOnce C hr h)

