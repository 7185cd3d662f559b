def fX1_fewestEvenings (F : Nat) (σ : St) : Option Int32 := ckI (((1 : Int32) <<< ((σ 2 1) &&& 31)) - 1) 256 (some (σ 86 (Int32.toNatClampNeg (((1 : Int32) <<< ((σ 2 1) &&& 31)) - 1))))
set_option maxRecDepth 20000 in
theorem wfX1_fewestEvenings {X : XT} {D : va_G} {cI : ClassId} {ad : Nat → Nat} {F : Nat} {σ : St}  {r : Int32} (C : Cx X (gC D cI ad) cX1_fewestEvenings 1 RX1 0 0 0) (hr : RetI X (gC D cI ad) cX1_fewestEvenings 1 0 r σ) (h : fX1_fewestEvenings F σ = some r) : WP X (gC D cI ad) 1 0 0 σ [(0, .ref (ad 84))] [] := by
  unfold fX1_fewestEvenings at h
  refine w_aload_n C dX1_fewestEvenings_0 rfl 0 rfl ?_
  refine w_get C 84 3 (Nat.le_of_ble_eq_true rfl) rfl rfl inB_X1 (by decide) tw2_131 rfl dX1_fewestEvenings_1 rfl ?_
  refine w_iconst C 1 dX1_fewestEvenings_4 rfl (by decide) ?_
  refine w_aload_n C dX1_fewestEvenings_5 rfl 0 rfl ?_
  refine w_get C 84 0 (Nat.le_of_ble_eq_true rfl) rfl rfl inB_X1 (by decide) tw2_128 rfl dX1_fewestEvenings_6 rfl ?_
  refine w_get C 2 1 (Nat.le_of_ble_eq_true rfl) rfl rfl inB_X0 (by decide) tw1_63 rfl dX1_fewestEvenings_9 rfl ?_
  refine w_ishl C dX1_fewestEvenings_12 rfl ?_
  refine w_iconst C 1 dX1_fewestEvenings_13 rfl (by decide) ?_
  refine w_isub C dX1_fewestEvenings_14 rfl ?_
  refine w_iald C 86 256 0 (Nat.le_of_ble_eq_true rfl) (fun _ => rfl) rfl h dX1_fewestEvenings_15 rfl (fun h => ?_)
  exact w_ri1 hr h (by decide) dX1_fewestEvenings_16
theorem cfX1_fewestEvenings (D : va_G) (cI : ClassId) (ad : Nat → Nat) {l : Launch} (had : gAp (gC D cI ad)) {F : Nat} {σ : St}  {r : Int32} (h : fX1_fewestEvenings F σ = some r) : MI l yX1_fewestEvenings (wB yX1_fewestEvenings cX1_fewestEvenings 1 (some .int)) 0 0 (gC D cI ad) [.ref (ad 84)] σ r σ := mk_MI had (by decide +kernel) (Nat.le_of_ble_eq_true rfl) (fun X hX C hr => wfX1_fewestEvenings C hr h)

def fX10_evenings (F : Nat) (σ : St) (a0 : Int32) : Option (Nat × Int32 × St) := bd1 (fX10_checkBelow F σ a0 3) fun t1 => if t1 = 0 then (bd1 (fX1_findEvenings F σ) fun u2 => if a0 = 0 then (bd1 (fX1_fewestEvenings F u2) fun r5 => some (0, r5, u2)) else bd1 (fX1_mostAtOnce F u2) fun r3 => if a0 = (1 : Int32) then (bd1 (fJ6_bitCount_0f7a4 F u2 r3) fun r4 => some (0, r4, u2)) else some (0, r3, u2)) else some (t1, 0, σ)
set_option maxRecDepth 20000 in
theorem wfX10_evenings {X : XT} {D : va_G} {cI : ClassId} {ad : Nat → Nat} {F : Nat} {σ : St} {a0 : Int32} {res : Nat × Int32 × St} (C : Cx X (gC D cI ad) cX10_evenings 3 RX10 8 132 1) (hr : RetXi X (gC D cI ad) cX10_evenings 3 1 res) (hx : ThrX X (gC D cI ad) cX10_evenings 3 1 res) (h : fX10_evenings F σ a0 = some res) : WP X (gC D cI ad) 3 0 0 σ [(0, .ref (ad 0)), (1, .int a0)] [] := by
  unfold fX10_evenings at h
  refine w_aload_n C dX10_evenings_0 rfl 0 rfl ?_
  refine w_iload_n C dX10_evenings_1 rfl 1 rfl ?_
  refine w_iconst C 3 dX10_evenings_2 rfl (by decide) ?_
  refine bd1_w h (fun t1 hc h => ?_)
  refine w_callX C hx (n := 2) (As := [.int a0, .int 3]) (st := []) 0 (Nat.le_of_ble_eq_true rfl) rfl rfl (cfX10_checkBelow D cI ad (l := X.2.1) C.2.2.1 hx.1 hc) tw5_51 cy_X10_checkBelow (by decide +kernel) ⟨by decide, by decide⟩ (by decide) rfl rfl (Nat.le_of_ble_eq_true rfl) dX10_evenings_3 rfl h (fun h => ?_)
  refine w_aload_n C dX10_evenings_6 rfl 0 rfl ?_
  refine w_get C 0 13 (Nat.le_of_ble_eq_true rfl) rfl rfl inB_X10 (by decide) tw2_185 rfl dX10_evenings_7 rfl ?_
  refine bd1_w h (fun u2 hc h => ?_)
  refine w_callVv C (n := 0) (As := []) (st := []) 84 (Nat.le_of_ble_eq_true rfl) rfl rfl (cfX1_findEvenings D cI ad (l := X.2.1) C.2.2.1 hc) tw6_41 cy_X1_findEvenings (by decide +kernel) ⟨Nat.le_of_ble_eq_true rfl, Nat.le_of_ble_eq_true rfl⟩ (by decide) rfl rfl (Nat.le_of_ble_eq_true rfl) dX10_evenings_10 rfl ?_
  refine w_iload_n C dX10_evenings_13 rfl 1 rfl ?_
  refine w_if_ne C (qt := 25) dX10_evenings_14 (by decide) rfl h (fun _ h => ?_) (fun _ h => ?_)
  · refine w_aload_n C dX10_evenings_25 rfl 0 rfl ?_
    refine w_get C 0 13 (Nat.le_of_ble_eq_true rfl) rfl rfl inB_X10 (by decide) tw2_185 rfl dX10_evenings_26 rfl ?_
    refine bd1_w h (fun r3 hc h => ?_)
    refine w_callVi C (n := 0) (As := []) (st := []) 84 (Nat.le_of_ble_eq_true rfl) rfl rfl (cfX1_mostAtOnce D cI ad (l := X.2.1) C.2.2.1 hc) tw6_54 cy_X1_mostAtOnce (by decide +kernel) ⟨Nat.le_of_ble_eq_true rfl, Nat.le_of_ble_eq_true rfl⟩ (by decide) rfl rfl (Nat.le_of_ble_eq_true rfl) dX10_evenings_29 rfl ?_
    refine w_istore_n C [(2, .int r3), (0, .ref (ad 0)), (1, .int a0)] dX10_evenings_32 rfl (by decide) rfl ?_
    refine w_iload_n C dX10_evenings_33 rfl 2 rfl ?_
    refine w_iconst C 1 dX10_evenings_34 rfl (by decide) ?_
    refine w_icmp_ne C (qt := 45) dX10_evenings_35 (by decide) rfl h (fun _ h => ?_) (fun _ h => ?_)
    · refine w_iload_n C dX10_evenings_45 rfl 0 rfl ?_
      exact w_rxi hr h (by decide) dX10_evenings_46
    · refine w_iload_n C dX10_evenings_38 rfl 0 rfl ?_
      refine bd1_w h (fun r4 hc h => ?_)
      refine w_callSi C (n := 1) (As := [.int r3]) (st := []) (cfJ6_bitCount_0f7a4 D cI ad (l := X.2.1) C.2.2.1 hc) tw5_189 cs_J6_bitCount_0f7a4 (by decide +kernel) ⟨Nat.le_of_ble_eq_true rfl, Nat.le_of_ble_eq_true rfl⟩ (by decide) rfl rfl (Nat.le_of_ble_eq_true rfl) dX10_evenings_39 rfl ?_
      refine w_goto (q := 46) C dX10_evenings_42 (by decide) ?_
      exact w_rxi hr h (by decide) dX10_evenings_46
  · refine w_aload_n C dX10_evenings_17 rfl 0 rfl ?_
    refine w_get C 0 13 (Nat.le_of_ble_eq_true rfl) rfl rfl inB_X10 (by decide) tw2_185 rfl dX10_evenings_18 rfl ?_
    refine bd1_w h (fun r5 hc h => ?_)
    refine w_callVi C (n := 0) (As := []) (st := []) 84 (Nat.le_of_ble_eq_true rfl) rfl rfl (cfX1_fewestEvenings D cI ad (l := X.2.1) C.2.2.1 hc) tw6_50 cy_X1_fewestEvenings (by decide +kernel) ⟨Nat.le_of_ble_eq_true rfl, Nat.le_of_ble_eq_true rfl⟩ (by decide) rfl rfl (Nat.le_of_ble_eq_true rfl) dX10_evenings_21 rfl ?_
    exact w_rxi hr h (by decide) dX10_evenings_24
theorem cfX10_evenings (D : va_G) (cI : ClassId) (ad : Nat → Nat) {l : Launch} (had : gAp (gC D cI ad)) (hst : l.stackTraces = false) {F : Nat} {σ : St} {a0 : Int32} {res : Nat × Int32 × St} (h : fX10_evenings F σ a0 = some res) : MX l yX10_evenings (wB yX10_evenings cX10_evenings 3 (some .int)) 8 132 1 (gC D cI ad) [.ref (ad 0), .int a0] σ res := mk_MX had (by decide +kernel) (Nat.le_of_ble_eq_true rfl) hst rfl (by decide) (by decide) (fun X hX C hr hx => wfX10_evenings C hr hx h)

def fX0_hasPlace (F : Nat) (σ : St) (a0 : Int32) (a1 : Int32) : Option Int32 := if a0 < 0 then (some 0) else if (σ 2 2) ≤ a0 then (some 0) else if a1 < 0 then (some 0) else if (σ 2 2) ≤ a1 then (some 0) else some 1
set_option maxRecDepth 20000 in
theorem wfX0_hasPlace {X : XT} {D : va_G} {cI : ClassId} {ad : Nat → Nat} {F : Nat} {σ : St} {a0 : Int32} {a1 : Int32} {r : Int32} (C : Cx X (gC D cI ad) cX0_hasPlace 3 RX0 0 0 0) (hr : RetZ X (gC D cI ad) cX0_hasPlace 3 0 r σ) (h : fX0_hasPlace F σ a0 a1 = some r) : WP X (gC D cI ad) 3 0 0 σ [(0, .ref (ad 2)), (1, .int a0), (2, .int a1)] [] := by
  unfold fX0_hasPlace at h
  refine w_iload_n C dX0_hasPlace_0 rfl 1 rfl ?_
  refine w_if_lt C (qt := 28) dX0_hasPlace_1 (by decide) rfl h (fun _ h => ?_) (fun _ h => ?_)
  · refine w_iconst C 0 dX0_hasPlace_28 rfl (by decide) ?_
    exact w_rz1 hr (by decide) h (by decide) dX0_hasPlace_29
  · refine w_iload_n C dX0_hasPlace_4 rfl 1 rfl ?_
    refine w_aload_n C dX0_hasPlace_5 rfl 0 rfl ?_
    refine w_get C 2 2 (Nat.le_of_ble_eq_true rfl) rfl rfl inB_X0 (by decide) tw1_69 rfl dX0_hasPlace_6 rfl ?_
    refine w_icmp_ge C (qt := 28) dX0_hasPlace_9 (by decide) rfl h (fun _ h => ?_) (fun _ h => ?_)
    · refine w_iconst C 0 dX0_hasPlace_28 rfl (by decide) ?_
      exact w_rz1 hr (by decide) h (by decide) dX0_hasPlace_29
    · refine w_iload_n C dX0_hasPlace_12 rfl 2 rfl ?_
      refine w_if_lt C (qt := 28) dX0_hasPlace_13 (by decide) rfl h (fun _ h => ?_) (fun _ h => ?_)
      · refine w_iconst C 0 dX0_hasPlace_28 rfl (by decide) ?_
        exact w_rz1 hr (by decide) h (by decide) dX0_hasPlace_29
      · refine w_iload_n C dX0_hasPlace_16 rfl 2 rfl ?_
        refine w_aload_n C dX0_hasPlace_17 rfl 0 rfl ?_
        refine w_get C 2 2 (Nat.le_of_ble_eq_true rfl) rfl rfl inB_X0 (by decide) tw1_69 rfl dX0_hasPlace_18 rfl ?_
        refine w_icmp_ge C (qt := 28) dX0_hasPlace_21 (by decide) rfl h (fun _ h => ?_) (fun _ h => ?_)
        · refine w_iconst C 0 dX0_hasPlace_28 rfl (by decide) ?_
          exact w_rz1 hr (by decide) h (by decide) dX0_hasPlace_29
        · refine w_iconst C 1 dX0_hasPlace_24 rfl (by decide) ?_
          refine w_goto (q := 29) C dX0_hasPlace_25 (by decide) ?_
          exact w_rz1 hr (by decide) h (by decide) dX0_hasPlace_29
theorem cfX0_hasPlace (D : va_G) (cI : ClassId) (ad : Nat → Nat) {l : Launch} (had : gAp (gC D cI ad)) {F : Nat} {σ : St} {a0 : Int32} {a1 : Int32} {r : Int32} (h : fX0_hasPlace F σ a0 a1 = some r) : MI l yX0_hasPlace (wB yX0_hasPlace cX0_hasPlace 3 (some .boolean)) 0 0 (gC D cI ad) [.ref (ad 2), .int a0, .int a1] σ r σ := mk_MZ had (by decide +kernel) (Nat.le_of_ble_eq_true rfl) (fun X hX C hr => wfX0_hasPlace C hr h)

def fX9_witness (F : Nat) (σ : St) (a0 : Int32) (a1 : Int32) (a2 : Int32) (a3 : Int32) (a4 : Int32) : Option St := if (σ 30 2) < (8 : Int32) then (ckI (σ 30 2) 8 (nm (up σ 36 (Int32.toNatClampNeg (σ 30 2)) a0) fun u1 => ckI (u1 30 2) 8 (nm (up u1 37 (Int32.toNatClampNeg (u1 30 2)) a1) fun u2 => ckI (u2 30 2) 8 (nm (up u2 38 (Int32.toNatClampNeg (u2 30 2)) a2) fun u3 => ckI (u3 30 2) 8 (nm (up u3 39 (Int32.toNatClampNeg (u3 30 2)) a3) fun u4 => ckI (u4 30 2) 8 (nm (up u4 40 (Int32.toNatClampNeg (u4 30 2)) a4) fun u5 => nm (up u5 30 2 ((u5 30 2) + 1)) fun u7 => some u7)))))) else some σ
set_option maxRecDepth 20000 in
theorem wfX9_witness {X : XT} {D : va_G} {cI : ClassId} {ad : Nat → Nat} {F : Nat} {σ : St} {a0 : Int32} {a1 : Int32} {a2 : Int32} {a3 : Int32} {a4 : Int32} {σ' : St} (C : Cx X (gC D cI ad) cX9_witness 6 RX9 0 0 0) (hr : RetV X (gC D cI ad) cX9_witness 6 0 σ') (h : fX9_witness F σ a0 a1 a2 a3 a4 = some σ') : WP X (gC D cI ad) 6 0 0 σ [(0, .ref (ad 30)), (1, .int a0), (2, .int a1), (3, .int a2), (4, .int a3), (5, .int a4)] [] := by
  unfold fX9_witness at h
  refine w_aload_n C dX9_witness_0 rfl 0 rfl ?_
  refine w_get C 30 2 (Nat.le_of_ble_eq_true rfl) rfl rfl inB_X9 (by decide) tw1_194 rfl dX9_witness_1 rfl ?_
  refine w_bipush C 8 dX9_witness_4 rfl (by decide) ?_
  refine w_icmp_lt C (qt := 10) dX9_witness_6 (by decide) rfl h (fun _ h => ?_) (fun _ h => ?_)
  · refine w_aload_n C dX9_witness_10 rfl 0 rfl ?_
    refine w_get C 30 8 (Nat.le_of_ble_eq_true rfl) rfl rfl inB_X9 (by decide) tw1_211 rfl dX9_witness_11 rfl ?_
    refine w_aload_n C dX9_witness_14 rfl 0 rfl ?_
    refine w_get C 30 2 (Nat.le_of_ble_eq_true rfl) rfl rfl inB_X9 (by decide) tw1_194 rfl dX9_witness_15 rfl ?_
    refine w_iload_n C dX9_witness_18 rfl 1 rfl ?_
    refine w_iast C 36 8 0 (Nat.le_of_ble_eq_true rfl) (fun _ => rfl) rfl h dX9_witness_19 rfl (fun h => ?_)
    refine w_nst h (fun u1 h => ?_)
    refine w_aload_n C dX9_witness_20 rfl 0 rfl ?_
    refine w_get C 30 9 (Nat.le_of_ble_eq_true rfl) rfl rfl inB_X9 (by decide) tw1_213 rfl dX9_witness_21 rfl ?_
    refine w_aload_n C dX9_witness_24 rfl 0 rfl ?_
    refine w_get C 30 2 (Nat.le_of_ble_eq_true rfl) rfl rfl inB_X9 (by decide) tw1_194 rfl dX9_witness_25 rfl ?_
    refine w_iload_n C dX9_witness_28 rfl 2 rfl ?_
    refine w_iast C 37 8 0 (Nat.le_of_ble_eq_true rfl) (fun _ => rfl) rfl h dX9_witness_29 rfl (fun h => ?_)
    refine w_nst h (fun u2 h => ?_)
    refine w_aload_n C dX9_witness_30 rfl 0 rfl ?_
    refine w_get C 30 10 (Nat.le_of_ble_eq_true rfl) rfl rfl inB_X9 (by decide) tw1_215 rfl dX9_witness_31 rfl ?_
    refine w_aload_n C dX9_witness_34 rfl 0 rfl ?_
    refine w_get C 30 2 (Nat.le_of_ble_eq_true rfl) rfl rfl inB_X9 (by decide) tw1_194 rfl dX9_witness_35 rfl ?_
    refine w_iload_n C dX9_witness_38 rfl 3 rfl ?_
    refine w_iast C 38 8 0 (Nat.le_of_ble_eq_true rfl) (fun _ => rfl) rfl h dX9_witness_39 rfl (fun h => ?_)
    refine w_nst h (fun u3 h => ?_)
    refine w_aload_n C dX9_witness_40 rfl 0 rfl ?_
    refine w_get C 30 11 (Nat.le_of_ble_eq_true rfl) rfl rfl inB_X9 (by decide) tw1_217 rfl dX9_witness_41 rfl ?_
    refine w_aload_n C dX9_witness_44 rfl 0 rfl ?_
    refine w_get C 30 2 (Nat.le_of_ble_eq_true rfl) rfl rfl inB_X9 (by decide) tw1_194 rfl dX9_witness_45 rfl ?_
    refine w_iload C dX9_witness_48 rfl 4 rfl ?_
    refine w_iast C 39 8 0 (Nat.le_of_ble_eq_true rfl) (fun _ => rfl) rfl h dX9_witness_50 rfl (fun h => ?_)
    refine w_nst h (fun u4 h => ?_)
    refine w_aload_n C dX9_witness_51 rfl 0 rfl ?_
    refine w_get C 30 12 (Nat.le_of_ble_eq_true rfl) rfl rfl inB_X9 (by decide) tw1_219 rfl dX9_witness_52 rfl ?_
    refine w_aload_n C dX9_witness_55 rfl 0 rfl ?_
    refine w_get C 30 2 (Nat.le_of_ble_eq_true rfl) rfl rfl inB_X9 (by decide) tw1_194 rfl dX9_witness_56 rfl ?_
    refine w_iload C dX9_witness_59 rfl 5 rfl ?_
    refine w_iast C 40 8 0 (Nat.le_of_ble_eq_true rfl) (fun _ => rfl) rfl h dX9_witness_61 rfl (fun h => ?_)
    refine w_nst h (fun u5 h => ?_)
    refine w_aload_n C dX9_witness_62 rfl 0 rfl ?_
    refine w_dup C rfl dX9_witness_63 rfl ?_
    refine w_get C 30 2 (Nat.le_of_ble_eq_true rfl) rfl rfl inB_X9 (by decide) tw1_194 rfl dX9_witness_64 rfl ?_
    refine w_iconst C 1 dX9_witness_67 rfl (by decide) ?_
    refine w_iadd C dX9_witness_68 rfl ?_
    refine w_put C 30 2 ((u5 30 2) + 1) (Nat.le_of_ble_eq_true rfl) rfl rfl inB_X9 tyX9_ok nmX9 (by decide) tw1_194 rfl rfl rfl (Nat.le_of_ble_eq_true rfl) rfl dX9_witness_69 rfl ?_
    refine w_nst h (fun u7 h => ?_)
    exact w_rv hr h (by decide) dX9_witness_72
  · exact w_rv hr h (by decide) dX9_witness_9
theorem cfX9_witness (D : va_G) (cI : ClassId) (ad : Nat → Nat) {l : Launch} (had : gAp (gC D cI ad)) {F : Nat} {σ : St} {a0 : Int32} {a1 : Int32} {a2 : Int32} {a3 : Int32} {a4 : Int32} {σ' : St} (h : fX9_witness F σ a0 a1 a2 a3 a4 = some σ') : MV l yX9_witness (wB yX9_witness cX9_witness 6 none) 0 0 (gC D cI ad) [.ref (ad 30), .int a0, .int a1, .int a2, .int a3, .int a4] σ σ' := mk_MV had (by decide +kernel) (Nat.le_of_ble_eq_true rfl) (fun X hX C hr => wfX9_witness C hr h)

def fX10_see (F : Nat) (σ : St) (a0 : Int32) (a1 : Int32) (a2 : Int32) (a3 : Int32) (a4 : Int32) : Option (Nat × Int32 × St) := bd1 (fX10_checkStep F σ a0 a1) fun t1 => if t1 = 0 then (jn (fun v2 : Int32 => jn (fun v5 : Unit => bd2 (fX10_refuse F σ 2) fun r8 u9 => some (0, r8, u9)) fun J6 => if (8 : Int32) ≤ (σ 30 2) then (J6 (())) else if v2 = 0 then (J6 (())) else bd1 (fX0_hasPlace F σ a3 a4) fun r10 => if r10 = 0 then (J6 (())) else bd1 (fX9_witness F σ a0 a1 a2 a3 a4) fun u11 => some (0, u11 30 2, u11)) fun J3 => jn (fun v12 : Unit => J3 1) fun J13 => if a2 = 0 then (J13 (())) else if a2 = (1 : Int32) then (J13 (())) else J3 0) else some (t1, 0, σ)
set_option maxRecDepth 20000 in
theorem wfX10_see {X : XT} {D : va_G} {cI : ClassId} {ad : Nat → Nat} {F : Nat} {σ : St} {a0 : Int32} {a1 : Int32} {a2 : Int32} {a3 : Int32} {a4 : Int32} {res : Nat × Int32 × St} (C : Cx X (gC D cI ad) cX10_see 7 RX10 9 153 2) (hr : RetXi X (gC D cI ad) cX10_see 7 2 res) (hx : ThrX X (gC D cI ad) cX10_see 7 2 res) (h : fX10_see F σ a0 a1 a2 a3 a4 = some res) : WP X (gC D cI ad) 7 0 0 σ [(0, .ref (ad 0)), (1, .int a0), (2, .int a1), (3, .int a2), (4, .int a3), (5, .int a4)] [] := by
  unfold fX10_see at h
  refine w_aload_n C dX10_see_0 rfl 0 rfl ?_
  refine w_iload_n C dX10_see_1 rfl 1 rfl ?_
  refine w_iload_n C dX10_see_2 rfl 2 rfl ?_
  refine bd1_w h (fun t1 hc h => ?_)
  refine w_callX C hx (n := 2) (As := [.int a0, .int a1]) (st := []) 0 (Nat.le_of_ble_eq_true rfl) rfl rfl (cfX10_checkStep D cI ad (l := X.2.1) C.2.2.1 hx.1 hc) tw5_37 cy_X10_checkStep (by decide +kernel) ⟨by decide, by decide⟩ (by decide) rfl rfl (Nat.le_of_ble_eq_true rfl) dX10_see_3 rfl h (fun h => ?_)
  refine w_iload_n C dX10_see_6 rfl 3 rfl ?_
  refine jn_w (fun v2 : Int32 => WP X (gC D cI ad) 7 2 20 σ [(0, .ref (ad 0)), (1, .int a0), (2, .int a1), (3, .int a2), (4, .int a3), (5, .int a4)] [.int v2]) h (fun v2 h => ?_) (fun J3 hJ4 h => ?_)
  · refine w_istore C [(6, .int v2), (0, .ref (ad 0)), (1, .int a0), (2, .int a1), (3, .int a2), (4, .int a3), (5, .int a4)] dX10_see_20 rfl (by decide) rfl ?_
    refine w_aload_n C dX10_see_22 rfl 1 rfl ?_
    refine w_get C 0 7 (Nat.le_of_ble_eq_true rfl) rfl rfl inB_X10 (by decide) tw2_179 rfl dX10_see_23 rfl ?_
    refine w_get C 30 2 (Nat.le_of_ble_eq_true rfl) rfl rfl inB_X9 (by decide) tw1_195 rfl dX10_see_26 rfl ?_
    refine w_bipush C 8 dX10_see_29 rfl (by decide) ?_
    refine jn_w (fun v5 : Unit => WP X (gC D cI ad) 7 2 53 σ [(0, .ref (ad 0))] []) h (fun v5 h => ?_) (fun J6 hJ7 h => ?_)
    · refine w_aload_n C dX10_see_53 rfl 0 rfl ?_
      refine w_iconst C 2 dX10_see_54 rfl (by decide) ?_
      refine bd2_w h (fun r8 u9 hc h => ?_)
      refine w_callVi C (n := 1) (As := [.int 2]) (st := []) 0 (Nat.le_of_ble_eq_true rfl) rfl rfl (cfX10_refuse D cI ad (l := X.2.1) C.2.2.1 hc) tw2_234 cy_X10_refuse (by decide +kernel) ⟨Nat.le_of_ble_eq_true rfl, Nat.le_of_ble_eq_true rfl⟩ (by decide) rfl rfl (Nat.le_of_ble_eq_true rfl) dX10_see_55 rfl ?_
      exact w_rxi hr h (by decide) dX10_see_58
    · refine w_icmp_ge C (qt := 53) dX10_see_31 (by decide) rfl h (fun _ h => ?_) (fun _ h => ?_)
      · exact w_sub (lv' := [(0, .ref (ad 0))]) [1] rfl (hJ7 (()) h)
      · refine w_iload C dX10_see_34 rfl 0 rfl ?_
        refine w_if_eq C (qt := 53) dX10_see_36 (by decide) rfl h (fun _ h => ?_) (fun _ h => ?_)
        · exact w_sub (lv' := [(0, .ref (ad 0))]) [1] rfl (hJ7 (()) h)
        · refine w_aload_n C dX10_see_39 rfl 1 rfl ?_
          refine w_get C 0 4 (Nat.le_of_ble_eq_true rfl) rfl rfl inB_X10 (by decide) tw2_176 rfl dX10_see_40 rfl ?_
          refine w_iload C dX10_see_43 rfl 5 rfl ?_
          refine w_iload C dX10_see_45 rfl 6 rfl ?_
          refine bd1_w h (fun r10 hc h => ?_)
          refine w_callVi C (n := 2) (As := [.int a3, .int a4]) (st := []) 2 (Nat.le_of_ble_eq_true rfl) rfl rfl (cfX0_hasPlace D cI ad (l := X.2.1) C.2.2.1 hc) tw6_65 cy_X0_hasPlace (by decide +kernel) ⟨Nat.le_of_ble_eq_true rfl, Nat.le_of_ble_eq_true rfl⟩ (by decide) rfl rfl (Nat.le_of_ble_eq_true rfl) dX10_see_47 rfl ?_
          refine w_if_ne C (qt := 59) dX10_see_50 (by decide) rfl h (fun _ h => ?_) (fun _ h => ?_)
          · refine w_aload_n C dX10_see_59 rfl 1 rfl ?_
            refine w_get C 0 7 (Nat.le_of_ble_eq_true rfl) rfl rfl inB_X10 (by decide) tw2_179 rfl dX10_see_60 rfl ?_
            refine w_iload_n C dX10_see_63 rfl 2 rfl ?_
            refine w_iload_n C dX10_see_64 rfl 3 rfl ?_
            refine w_iload_n C dX10_see_65 rfl 4 rfl ?_
            refine w_iload C dX10_see_66 rfl 5 rfl ?_
            refine w_iload C dX10_see_68 rfl 6 rfl ?_
            refine bd1_w h (fun u11 hc h => ?_)
            refine w_callVv C (n := 5) (As := [.int a0, .int a1, .int a2, .int a3, .int a4]) (st := []) 30 (Nat.le_of_ble_eq_true rfl) rfl rfl (cfX9_witness D cI ad (l := X.2.1) C.2.2.1 hc) tw6_69 cy_X9_witness (by decide +kernel) ⟨Nat.le_of_ble_eq_true rfl, Nat.le_of_ble_eq_true rfl⟩ (by decide) rfl rfl (Nat.le_of_ble_eq_true rfl) dX10_see_70 rfl ?_
            refine w_aload_n C dX10_see_73 rfl 1 rfl ?_
            refine w_get C 0 7 (Nat.le_of_ble_eq_true rfl) rfl rfl inB_X10 (by decide) tw2_179 rfl dX10_see_74 rfl ?_
            refine w_get C 30 2 (Nat.le_of_ble_eq_true rfl) rfl rfl inB_X9 (by decide) tw1_195 rfl dX10_see_77 rfl ?_
            exact w_rxi hr h (by decide) dX10_see_80
          · exact w_sub (lv' := [(0, .ref (ad 0))]) [1] rfl (hJ7 (()) h)
  · refine jn_w (fun v12 : Unit => WP X (gC D cI ad) 7 2 15 σ [(0, .ref (ad 0)), (1, .int a0), (2, .int a1), (3, .int a2), (4, .int a3), (5, .int a4)] []) h (fun v12 h => ?_) (fun J13 hJ14 h => ?_)
    · refine w_iconst C 1 dX10_see_15 rfl (by decide) ?_
      refine w_goto (q := 20) C dX10_see_16 (by decide) ?_
      exact w_sub (lv' := [(0, .ref (ad 0)), (1, .int a0), (2, .int a1), (3, .int a2), (4, .int a3), (5, .int a4)]) [0, 1, 2, 3, 4, 5] rfl (hJ4 1 h)
    · refine w_if_eq C (qt := 15) dX10_see_7 (by decide) rfl h (fun _ h => ?_) (fun _ h => ?_)
      · exact w_sub (lv' := [(0, .ref (ad 0)), (1, .int a0), (2, .int a1), (3, .int a2), (4, .int a3), (5, .int a4)]) [0, 1, 2, 3, 4, 5] rfl (hJ14 (()) h)
      · refine w_iload_n C dX10_see_10 rfl 3 rfl ?_
        refine w_iconst C 1 dX10_see_11 rfl (by decide) ?_
        refine w_icmp_ne C (qt := 19) dX10_see_12 (by decide) rfl h (fun _ h => ?_) (fun _ h => ?_)
        · refine w_iconst C 0 dX10_see_19 rfl (by decide) ?_
          exact w_sub (lv' := [(0, .ref (ad 0)), (1, .int a0), (2, .int a1), (3, .int a2), (4, .int a3), (5, .int a4)]) [0, 1, 2, 3, 4, 5] rfl (hJ4 0 h)
        · exact w_sub (lv' := [(0, .ref (ad 0)), (1, .int a0), (2, .int a1), (3, .int a2), (4, .int a3), (5, .int a4)]) [0, 1, 2, 3, 4, 5] rfl (hJ14 (()) h)
theorem cfX10_see (D : va_G) (cI : ClassId) (ad : Nat → Nat) {l : Launch} (had : gAp (gC D cI ad)) (hst : l.stackTraces = false) {F : Nat} {σ : St} {a0 : Int32} {a1 : Int32} {a2 : Int32} {a3 : Int32} {a4 : Int32} {res : Nat × Int32 × St} (h : fX10_see F σ a0 a1 a2 a3 a4 = some res) : MX l yX10_see (wB yX10_see cX10_see 7 (some .int)) 9 153 2 (gC D cI ad) [.ref (ad 0), .int a0, .int a1, .int a2, .int a3, .int a4] σ res := mk_MX had (by decide +kernel) (Nat.le_of_ble_eq_true rfl) hst rfl (by decide) (by decide) (fun X hX C hr hx => wfX10_see C hr hx h)

def fX5_isThere (F : Nat) (σ : St) (a1 : Int32) : Option Int32 := ckI (a1) 8 (nm (σ 38 (Int32.toNatClampNeg a1)) fun x1 => ckI (x1) 2 (ckI (a1) 8 (if (σ 68 (Int32.toNatClampNeg x1)) = (σ 39 (Int32.toNatClampNeg a1)) then (ckI (x1) 2 (ckI (a1) 8 (if (σ 69 (Int32.toNatClampNeg x1)) = (σ 40 (Int32.toNatClampNeg a1)) then (some 1) else some 0))) else some 0)))
set_option maxRecDepth 20000 in
theorem wfX5_isThere {X : XT} {D : va_G} {cI : ClassId} {ad : Nat → Nat} {F : Nat} {σ : St} {a1 : Int32} {r : Int32} (C : Cx X (gC D cI ad) cX5_isThere 4 RX5 0 0 0) (hr : RetZ X (gC D cI ad) cX5_isThere 4 0 r σ) (h : fX5_isThere F σ a1 = some r) : WP X (gC D cI ad) 4 0 0 σ [(0, .ref (ad 72)), (1, .ref (ad 30)), (2, .int a1)] [] := by
  unfold fX5_isThere at h
  refine w_aload_n C dX5_isThere_0 rfl 1 rfl ?_
  refine w_get C 30 10 (Nat.le_of_ble_eq_true rfl) rfl rfl inB_X9 (by decide) tw1_216 rfl dX5_isThere_1 rfl ?_
  refine w_iload_n C dX5_isThere_4 rfl 2 rfl ?_
  refine w_iald C 38 8 0 (Nat.le_of_ble_eq_true rfl) (fun _ => rfl) rfl h dX5_isThere_5 rfl (fun h => ?_)
  refine w_nm h (fun x1 h => ?_)
  refine w_istore_n C [(3, .int x1), (0, .ref (ad 72)), (1, .ref (ad 30)), (2, .int a1)] dX5_isThere_6 rfl (by decide) rfl ?_
  refine w_aload_n C dX5_isThere_7 rfl 1 rfl ?_
  refine w_get C 72 1 (Nat.le_of_ble_eq_true rfl) rfl rfl inB_X5 (by decide) tw2_75 rfl dX5_isThere_8 rfl ?_
  refine w_get C 66 1 (Nat.le_of_ble_eq_true rfl) rfl rfl inB_X2 (by decide) tw2_41 rfl dX5_isThere_11 rfl ?_
  refine w_get C 67 0 (Nat.le_of_ble_eq_true rfl) rfl rfl inB_X3 (by decide) tw2_26 rfl dX5_isThere_14 rfl ?_
  refine w_iload_n C dX5_isThere_17 rfl 0 rfl ?_
  refine w_iald C 68 2 0 (Nat.le_of_ble_eq_true rfl) (fun _ => rfl) rfl h dX5_isThere_18 rfl (fun h => ?_)
  refine w_aload_n C dX5_isThere_19 rfl 2 rfl ?_
  refine w_get C 30 11 (Nat.le_of_ble_eq_true rfl) rfl rfl inB_X9 (by decide) tw1_218 rfl dX5_isThere_20 rfl ?_
  refine w_iload_n C dX5_isThere_23 rfl 3 rfl ?_
  refine w_iald C 39 8 0 (Nat.le_of_ble_eq_true rfl) (fun _ => rfl) rfl h dX5_isThere_24 rfl (fun h => ?_)
  refine w_icmp_ne C (qt := 53) dX5_isThere_25 (by decide) rfl h (fun _ h => ?_) (fun _ h => ?_)
  · refine w_iconst C 0 dX5_isThere_53 rfl (by decide) ?_
    exact w_rz1 hr (by decide) h (by decide) dX5_isThere_54
  · refine w_aload_n C dX5_isThere_28 rfl 1 rfl ?_
    refine w_get C 72 1 (Nat.le_of_ble_eq_true rfl) rfl rfl inB_X5 (by decide) tw2_75 rfl dX5_isThere_29 rfl ?_
    refine w_get C 66 1 (Nat.le_of_ble_eq_true rfl) rfl rfl inB_X2 (by decide) tw2_41 rfl dX5_isThere_32 rfl ?_
    refine w_get C 67 1 (Nat.le_of_ble_eq_true rfl) rfl rfl inB_X3 (by decide) tw2_29 rfl dX5_isThere_35 rfl ?_
    refine w_iload_n C dX5_isThere_38 rfl 0 rfl ?_
    refine w_iald C 69 2 0 (Nat.le_of_ble_eq_true rfl) (fun _ => rfl) rfl h dX5_isThere_39 rfl (fun h => ?_)
    refine w_aload_n C dX5_isThere_40 rfl 2 rfl ?_
    refine w_get C 30 12 (Nat.le_of_ble_eq_true rfl) rfl rfl inB_X9 (by decide) tw1_220 rfl dX5_isThere_41 rfl ?_
    refine w_iload_n C dX5_isThere_44 rfl 3 rfl ?_
    refine w_iald C 40 8 0 (Nat.le_of_ble_eq_true rfl) (fun _ => rfl) rfl h dX5_isThere_45 rfl (fun h => ?_)
    refine w_icmp_ne C (qt := 53) dX5_isThere_46 (by decide) rfl h (fun _ h => ?_) (fun _ h => ?_)
    · refine w_iconst C 0 dX5_isThere_53 rfl (by decide) ?_
      exact w_rz1 hr (by decide) h (by decide) dX5_isThere_54
    · refine w_iconst C 1 dX5_isThere_49 rfl (by decide) ?_
      refine w_goto (q := 54) C dX5_isThere_50 (by decide) ?_
      exact w_rz1 hr (by decide) h (by decide) dX5_isThere_54
theorem cfX5_isThere (D : va_G) (cI : ClassId) (ad : Nat → Nat) {l : Launch} (had : gAp (gC D cI ad)) {F : Nat} {σ : St} {a1 : Int32} {r : Int32} (h : fX5_isThere F σ a1 = some r) : MI l yX5_isThere (wB yX5_isThere cX5_isThere 4 (some .boolean)) 0 0 (gC D cI ad) [.ref (ad 72), .ref (ad 30), .int a1] σ r σ := mk_MZ had (by decide +kernel) (Nat.le_of_ble_eq_true rfl) (fun X hX C hr => wfX5_isThere C hr h)

def fX5_isAsSeen (F : Nat) (σ : St) : Option (Int32 × St) := bd1 (fX3_begin F σ (σ 2 2)) fun u1 => lp (fun (K3 : (Int32 × Int32) → Option (Int32 × St)) (v2 : Int32 × Int32) => if (u1 30 2) ≤ v2.1 then (lp (fun (K6 : (St × Int32 × Int32) → Option (Int32 × St)) (v5 : St × Int32 × Int32) => jn (fun v8 : Unit => if v5.2.2 = 0 then (some (1, v5.1)) else some (0, v5.1)) fun J9 => if (v5.1 66 4) ≤ v5.2.1 then (J9 (())) else if v5.2.2 ≤ 0 then (J9 (())) else bd2 (fX2_takes F v5.1 v5.2.1) fun r11 u12 => if r11 = 0 then (some (0, u12)) else lp (fun (K14 : (Int32 × Int32) → Option (Int32 × St)) (v13 : Int32 × Int32) => if (u12 30 2) ≤ v13.1 then (K6 ((u12, v5.2.1 + 1, v13.2))) else ckI (v13.1) 8 (if (u12 36 (Int32.toNatClampNeg v13.1)) = (u12 66 3) then (ckI (v13.1) 8 (if (u12 37 (Int32.toNatClampNeg v13.1)) = v5.2.1 then (bd1 (fX5_isThere F u12 v13.1) fun r16 => if r16 = 0 then (some (0, u12)) else K14 ((v13.1 + 1, v13.2 + Int32.ofInt (-1)))) else K14 ((v13.1 + 1, v13.2)))) else K14 ((v13.1 + 1, v13.2)))) F ((0, v5.2.2))) F ((u1, 0, v2.2))) else ckI (v2.1) 8 (if (u1 36 (Int32.toNatClampNeg v2.1)) = (u1 66 3) then (nm (v2.2 + 1) fun x18 => K3 ((v2.1 + 1, x18))) else nm (v2.2 + 0) fun x17 => K3 ((v2.1 + 1, x17)))) F ((0, 0))
set_option maxRecDepth 20000 in
theorem wfX5_isAsSeen {X : XT} {D : va_G} {cI : ClassId} {ad : Nat → Nat} {F : Nat} {σ : St}  {r : Int32} {σ' : St} (C : Cx X (gC D cI ad) cX5_isAsSeen 5 RX5 2 55 0) (hr : RetZ X (gC D cI ad) cX5_isAsSeen 5 0 r σ') (h : fX5_isAsSeen F σ = some (r, σ')) : WP X (gC D cI ad) 5 0 0 σ [(0, .ref (ad 72)), (1, .ref (ad 30))] [] := by
  unfold fX5_isAsSeen at h
  refine w_aload_n C dX5_isAsSeen_0 rfl 0 rfl ?_
  refine w_get C 72 1 (Nat.le_of_ble_eq_true rfl) rfl rfl inB_X5 (by decide) tw2_75 rfl dX5_isAsSeen_1 rfl ?_
  refine w_get C 66 1 (Nat.le_of_ble_eq_true rfl) rfl rfl inB_X2 (by decide) tw2_41 rfl dX5_isAsSeen_4 rfl ?_
  refine w_aload_n C dX5_isAsSeen_7 rfl 0 rfl ?_
  refine w_get C 72 0 (Nat.le_of_ble_eq_true rfl) rfl rfl inB_X5 (by decide) tw2_74 rfl dX5_isAsSeen_8 rfl ?_
  refine w_get C 2 2 (Nat.le_of_ble_eq_true rfl) rfl rfl inB_X0 (by decide) tw1_71 rfl dX5_isAsSeen_11 rfl ?_
  refine bd1_w h (fun u1 hc h => ?_)
  refine w_callVv C (n := 1) (As := [.int (σ 2 2)]) (st := []) 67 (Nat.le_of_ble_eq_true rfl) rfl rfl (cfX3_begin D cI ad (l := X.2.1) C.2.2.1 hc) tw5_151 cy_X3_begin (by decide +kernel) ⟨Nat.le_of_ble_eq_true rfl, Nat.le_of_ble_eq_true rfl⟩ (by decide) rfl rfl (Nat.le_of_ble_eq_true rfl) dX5_isAsSeen_14 rfl ?_
  refine w_iconst C 0 dX5_isAsSeen_17 rfl (by decide) ?_
  refine w_istore_n C [(2, .int 0), (0, .ref (ad 72)), (1, .ref (ad 30))] dX5_isAsSeen_18 rfl (by decide) rfl ?_
  refine w_iconst C 0 dX5_isAsSeen_19 rfl (by decide) ?_
  refine w_istore_n C [(3, .int 0), (2, .int 0), (0, .ref (ad 72)), (1, .ref (ad 30))] dX5_isAsSeen_20 rfl (by decide) rfl ?_
  refine w_sub (lv' := [(3, .int 0), (2, .int 0), (0, .ref (ad 72)), (1, .ref (ad 30))]) [0, 1, 2, 3] rfl ?_
  refine lp_w (fun v2 : Int32 × Int32 => WP X (gC D cI ad) 5 0 21 u1 [(3, .int v2.1), (2, .int v2.2), (0, .ref (ad 72)), (1, .ref (ad 30))] []) (fun K3 hK4 v2 h => ?_) F _ h
  refine w_iload_n C dX5_isAsSeen_21 rfl 0 rfl ?_
  refine w_aload_n C dX5_isAsSeen_22 rfl 3 rfl ?_
  refine w_get C 30 2 (Nat.le_of_ble_eq_true rfl) rfl rfl inB_X9 (by decide) tw1_196 rfl dX5_isAsSeen_23 rfl ?_
  refine w_icmp_ge C (qt := 59) dX5_isAsSeen_26 (by decide) rfl h (fun _ h => ?_) (fun _ h => ?_)
  · refine w_iconst C 0 dX5_isAsSeen_59 rfl (by decide) ?_
    refine w_istore_n C [(3, .int 0), (2, .int v2.2), (0, .ref (ad 72)), (1, .ref (ad 30))] dX5_isAsSeen_60 rfl (by decide) rfl ?_
    refine w_sub (lv' := [(3, .int 0), (2, .int v2.2), (0, .ref (ad 72)), (1, .ref (ad 30))]) [0, 1, 2, 3] rfl ?_
    refine lp_w (fun v5 : St × Int32 × Int32 => WP X (gC D cI ad) 5 0 61 v5.1 [(3, .int v5.2.1), (2, .int v5.2.2), (0, .ref (ad 72)), (1, .ref (ad 30))] []) (fun K6 hK7 v5 h => ?_) F _ h
    refine w_iload_n C dX5_isAsSeen_61 rfl 0 rfl ?_
    refine w_aload_n C dX5_isAsSeen_62 rfl 2 rfl ?_
    refine w_get C 72 1 (Nat.le_of_ble_eq_true rfl) rfl rfl inB_X5 (by decide) tw2_75 rfl dX5_isAsSeen_63 rfl ?_
    refine w_get C 66 4 (Nat.le_of_ble_eq_true rfl) rfl rfl inB_X2 (by decide) tw2_48 rfl dX5_isAsSeen_66 rfl ?_
    refine jn_w (fun v8 : Unit => WP X (gC D cI ad) 5 0 156 v5.1 [(2, .int v5.2.2)] []) h (fun v8 h => ?_) (fun J9 hJ10 h => ?_)
    · refine w_iload_n C dX5_isAsSeen_156 rfl 0 rfl ?_
      refine w_if_ne C (qt := 164) dX5_isAsSeen_157 (by decide) rfl h (fun _ h => ?_) (fun _ h => ?_)
      · refine w_iconst C 0 dX5_isAsSeen_164 rfl (by decide) ?_
        exact w_rz2 hr (by decide) h (by decide) dX5_isAsSeen_165
      · refine w_iconst C 1 dX5_isAsSeen_160 rfl (by decide) ?_
        refine w_goto (q := 165) C dX5_isAsSeen_161 (by decide) ?_
        exact w_rz2 hr (by decide) h (by decide) dX5_isAsSeen_165
    · refine w_icmp_ge C (qt := 156) dX5_isAsSeen_69 (by decide) rfl h (fun _ h => ?_) (fun _ h => ?_)
      · exact w_sub (lv' := [(2, .int v5.2.2)]) [1] rfl (hJ10 (()) h)
      · refine w_iload_n C dX5_isAsSeen_72 rfl 1 rfl ?_
        refine w_if_le C (qt := 156) dX5_isAsSeen_73 (by decide) rfl h (fun _ h => ?_) (fun _ h => ?_)
        · exact w_sub (lv' := [(2, .int v5.2.2)]) [1] rfl (hJ10 (()) h)
        · refine w_aload_n C dX5_isAsSeen_76 rfl 2 rfl ?_
          refine w_get C 72 1 (Nat.le_of_ble_eq_true rfl) rfl rfl inB_X5 (by decide) tw2_75 rfl dX5_isAsSeen_77 rfl ?_
          refine w_iload_n C dX5_isAsSeen_80 rfl 0 rfl ?_
          refine bd2_w h (fun r11 u12 hc h => ?_)
          refine w_callVi C (n := 1) (As := [.int v5.2.1]) (st := []) 66 (Nat.le_of_ble_eq_true rfl) rfl rfl (cfX2_takes D cI ad (l := X.2.1) C.2.2.1 hc) tw6_84 cy_X2_takes (by decide +kernel) ⟨Nat.le_of_ble_eq_true rfl, Nat.le_of_ble_eq_true rfl⟩ (by decide) rfl rfl (Nat.le_of_ble_eq_true rfl) dX5_isAsSeen_81 rfl ?_
          refine w_if_ne C (qt := 89) dX5_isAsSeen_84 (by decide) rfl h (fun _ h => ?_) (fun _ h => ?_)
          · refine w_iconst C 0 dX5_isAsSeen_89 rfl (by decide) ?_
            refine w_istore C [(4, .int 0), (3, .int v5.2.1), (2, .int v5.2.2), (0, .ref (ad 72)), (1, .ref (ad 30))] dX5_isAsSeen_90 rfl (by decide) rfl ?_
            refine w_sub (lv' := [(4, .int 0), (3, .int v5.2.1), (2, .int v5.2.2), (0, .ref (ad 72)), (1, .ref (ad 30))]) [0, 1, 2, 3, 4] rfl ?_
            refine lp_w (fun v13 : Int32 × Int32 => WP X (gC D cI ad) 5 0 92 u12 [(4, .int v13.1), (3, .int v5.2.1), (2, .int v13.2), (0, .ref (ad 72)), (1, .ref (ad 30))] []) (fun K14 hK15 v13 h => ?_) F _ h
            refine w_iload C dX5_isAsSeen_92 rfl 0 rfl ?_
            refine w_aload_n C dX5_isAsSeen_94 rfl 4 rfl ?_
            refine w_get C 30 2 (Nat.le_of_ble_eq_true rfl) rfl rfl inB_X9 (by decide) tw1_196 rfl dX5_isAsSeen_95 rfl ?_
            refine w_icmp_ge C (qt := 150) dX5_isAsSeen_98 (by decide) rfl h (fun _ h => ?_) (fun _ h => ?_)
            · refine w_iinc (j := 1) C (v5.2.1 + 1) [(3, .int (v5.2.1 + 1)), (4, .int v13.1), (2, .int v13.2), (0, .ref (ad 72)), (1, .ref (ad 30))] dX5_isAsSeen_150 rfl rfl rfl (by decide) rfl ?_
              refine w_goto (q := 61) C dX5_isAsSeen_153 (by decide) ?_
              exact w_sub (lv' := [(3, .int (v5.2.1 + 1)), (2, .int v13.2), (0, .ref (ad 72)), (1, .ref (ad 30))]) [0, 2, 3, 4] rfl (hK7 ((u12, v5.2.1 + 1, v13.2)) h)
            · refine w_aload_n C dX5_isAsSeen_101 rfl 4 rfl ?_
              refine w_get C 30 8 (Nat.le_of_ble_eq_true rfl) rfl rfl inB_X9 (by decide) tw1_212 rfl dX5_isAsSeen_102 rfl ?_
              refine w_iload C dX5_isAsSeen_105 rfl 0 rfl ?_
              refine w_iald C 36 8 0 (Nat.le_of_ble_eq_true rfl) (fun _ => rfl) rfl h dX5_isAsSeen_107 rfl (fun h => ?_)
              refine w_aload_n C dX5_isAsSeen_108 rfl 3 rfl ?_
              refine w_get C 72 1 (Nat.le_of_ble_eq_true rfl) rfl rfl inB_X5 (by decide) tw2_75 rfl dX5_isAsSeen_109 rfl ?_
              refine w_get C 66 3 (Nat.le_of_ble_eq_true rfl) rfl rfl inB_X2 (by decide) tw2_46 rfl dX5_isAsSeen_112 rfl ?_
              refine w_icmp_ne C (qt := 144) dX5_isAsSeen_115 (by decide) rfl h (fun _ h => ?_) (fun _ h => ?_)
              · refine w_iinc (j := 0) C (v13.1 + 1) [(4, .int (v13.1 + 1)), (3, .int v5.2.1), (2, .int v13.2), (0, .ref (ad 72)), (1, .ref (ad 30))] dX5_isAsSeen_144 rfl rfl rfl (by decide) rfl ?_
                refine w_goto (q := 92) C dX5_isAsSeen_147 (by decide) ?_
                exact w_sub (lv' := [(4, .int (v13.1 + 1)), (3, .int v5.2.1), (2, .int v13.2), (0, .ref (ad 72)), (1, .ref (ad 30))]) [0, 1, 2, 3, 4] rfl (hK15 ((v13.1 + 1, v13.2)) h)
              · refine w_aload_n C dX5_isAsSeen_118 rfl 4 rfl ?_
                refine w_get C 30 9 (Nat.le_of_ble_eq_true rfl) rfl rfl inB_X9 (by decide) tw1_214 rfl dX5_isAsSeen_119 rfl ?_
                refine w_iload C dX5_isAsSeen_122 rfl 0 rfl ?_
                refine w_iald C 37 8 0 (Nat.le_of_ble_eq_true rfl) (fun _ => rfl) rfl h dX5_isAsSeen_124 rfl (fun h => ?_)
                refine w_iload_n C dX5_isAsSeen_125 rfl 1 rfl ?_
                refine w_icmp_ne C (qt := 144) dX5_isAsSeen_126 (by decide) rfl h (fun _ h => ?_) (fun _ h => ?_)
                · refine w_iinc (j := 0) C (v13.1 + 1) [(4, .int (v13.1 + 1)), (3, .int v5.2.1), (2, .int v13.2), (0, .ref (ad 72)), (1, .ref (ad 30))] dX5_isAsSeen_144 rfl rfl rfl (by decide) rfl ?_
                  refine w_goto (q := 92) C dX5_isAsSeen_147 (by decide) ?_
                  exact w_sub (lv' := [(4, .int (v13.1 + 1)), (3, .int v5.2.1), (2, .int v13.2), (0, .ref (ad 72)), (1, .ref (ad 30))]) [0, 1, 2, 3, 4] rfl (hK15 ((v13.1 + 1, v13.2)) h)
                · refine w_aload_n C dX5_isAsSeen_129 rfl 3 rfl ?_
                  refine w_aload_n C dX5_isAsSeen_130 rfl 4 rfl ?_
                  refine w_iload C dX5_isAsSeen_131 rfl 0 rfl ?_
                  refine bd1_w h (fun r16 hc h => ?_)
                  refine w_callVi C (n := 2) (As := [.ref (ad 30), .int v13.1]) (st := []) 72 (Nat.le_of_ble_eq_true rfl) rfl rfl (cfX5_isThere D cI ad (l := X.2.1) C.2.2.1 hc) tw6_85 cy_X5_isThere (by decide +kernel) ⟨Nat.le_of_ble_eq_true rfl, Nat.le_of_ble_eq_true rfl⟩ (by decide) rfl rfl (Nat.le_of_ble_eq_true rfl) dX5_isAsSeen_133 rfl ?_
                  refine w_if_ne C (qt := 141) dX5_isAsSeen_136 (by decide) rfl h (fun _ h => ?_) (fun _ h => ?_)
                  · refine w_iinc (j := 2) C (v13.2 + Int32.ofInt (-1)) [(2, .int (v13.2 + Int32.ofInt (-1))), (4, .int v13.1), (3, .int v5.2.1), (0, .ref (ad 72)), (1, .ref (ad 30))] dX5_isAsSeen_141 rfl rfl rfl (by decide) rfl ?_
                    refine w_iinc (j := 1) C (v13.1 + 1) [(4, .int (v13.1 + 1)), (2, .int (v13.2 + Int32.ofInt (-1))), (3, .int v5.2.1), (0, .ref (ad 72)), (1, .ref (ad 30))] dX5_isAsSeen_144 rfl rfl rfl (by decide) rfl ?_
                    refine w_goto (q := 92) C dX5_isAsSeen_147 (by decide) ?_
                    exact w_sub (lv' := [(4, .int (v13.1 + 1)), (3, .int v5.2.1), (2, .int (v13.2 + Int32.ofInt (-1))), (0, .ref (ad 72)), (1, .ref (ad 30))]) [0, 2, 1, 3, 4] rfl (hK15 ((v13.1 + 1, v13.2 + Int32.ofInt (-1))) h)
                  · refine w_iconst C 0 dX5_isAsSeen_139 rfl (by decide) ?_
                    exact w_rz2 hr (by decide) h (by decide) dX5_isAsSeen_140
          · refine w_iconst C 0 dX5_isAsSeen_87 rfl (by decide) ?_
            exact w_rz2 hr (by decide) h (by decide) dX5_isAsSeen_88
  · refine w_iload_n C dX5_isAsSeen_29 rfl 1 rfl ?_
    refine w_aload_n C dX5_isAsSeen_30 rfl 3 rfl ?_
    refine w_get C 30 8 (Nat.le_of_ble_eq_true rfl) rfl rfl inB_X9 (by decide) tw1_212 rfl dX5_isAsSeen_31 rfl ?_
    refine w_iload_n C dX5_isAsSeen_34 rfl 0 rfl ?_
    refine w_iald C 36 8 0 (Nat.le_of_ble_eq_true rfl) (fun _ => rfl) rfl h dX5_isAsSeen_35 rfl (fun h => ?_)
    refine w_aload_n C dX5_isAsSeen_36 rfl 2 rfl ?_
    refine w_get C 72 1 (Nat.le_of_ble_eq_true rfl) rfl rfl inB_X5 (by decide) tw2_75 rfl dX5_isAsSeen_37 rfl ?_
    refine w_get C 66 3 (Nat.le_of_ble_eq_true rfl) rfl rfl inB_X2 (by decide) tw2_46 rfl dX5_isAsSeen_40 rfl ?_
    refine w_icmp_ne C (qt := 50) dX5_isAsSeen_43 (by decide) rfl h (fun _ h => ?_) (fun _ h => ?_)
    · refine w_iconst C 0 dX5_isAsSeen_50 rfl (by decide) ?_
      refine w_iadd C dX5_isAsSeen_51 rfl ?_
      refine w_nm h (fun x17 h => ?_)
      refine w_istore_n C [(2, .int x17), (3, .int v2.1), (0, .ref (ad 72)), (1, .ref (ad 30))] dX5_isAsSeen_52 rfl (by decide) rfl ?_
      refine w_iinc (j := 1) C (v2.1 + 1) [(3, .int (v2.1 + 1)), (2, .int x17), (0, .ref (ad 72)), (1, .ref (ad 30))] dX5_isAsSeen_53 rfl rfl rfl (by decide) rfl ?_
      refine w_goto (q := 21) C dX5_isAsSeen_56 (by decide) ?_
      exact w_sub (lv' := [(3, .int (v2.1 + 1)), (2, .int x17), (0, .ref (ad 72)), (1, .ref (ad 30))]) [0, 1, 2, 3] rfl (hK4 ((v2.1 + 1, x17)) h)
    · refine w_iconst C 1 dX5_isAsSeen_46 rfl (by decide) ?_
      refine w_goto (q := 51) C dX5_isAsSeen_47 (by decide) ?_
      refine w_iadd C dX5_isAsSeen_51 rfl ?_
      refine w_nm h (fun x18 h => ?_)
      refine w_istore_n C [(2, .int x18), (3, .int v2.1), (0, .ref (ad 72)), (1, .ref (ad 30))] dX5_isAsSeen_52 rfl (by decide) rfl ?_
      refine w_iinc (j := 1) C (v2.1 + 1) [(3, .int (v2.1 + 1)), (2, .int x18), (0, .ref (ad 72)), (1, .ref (ad 30))] dX5_isAsSeen_53 rfl rfl rfl (by decide) rfl ?_
      refine w_goto (q := 21) C dX5_isAsSeen_56 (by decide) ?_
      exact w_sub (lv' := [(3, .int (v2.1 + 1)), (2, .int x18), (0, .ref (ad 72)), (1, .ref (ad 30))]) [0, 1, 2, 3] rfl (hK4 ((v2.1 + 1, x18)) h)
theorem cfX5_isAsSeen (D : va_G) (cI : ClassId) (ad : Nat → Nat) {l : Launch} (had : gAp (gC D cI ad)) {F : Nat} {σ : St}  {r : Int32} {σ' : St} (h : fX5_isAsSeen F σ = some (r, σ')) : MI l yX5_isAsSeen (wB yX5_isAsSeen cX5_isAsSeen 5 (some .boolean)) 2 55 (gC D cI ad) [.ref (ad 72), .ref (ad 30)] σ r σ' := mk_MZ had (by decide +kernel) (Nat.le_of_ble_eq_true rfl) (fun X hX C hr => wfX5_isAsSeen C hr h)

def fX5_seekLimpOf (F : Nat) (σ : St) (a1 : Int32) : Option St := ckI (a1) 10 (nm (σ 71 (Int32.toNatClampNeg a1)) fun x1 => lp (fun (K3 : (St × Int32) → Option St) (v2 : St × Int32) => if (9 : Int32) < v2.2 then (ckI (a1) 10 (nm (up v2.1 71 (Int32.toNatClampNeg a1) x1) fun u5 => some u5)) else ckI (a1) 10 (nm (up v2.1 71 (Int32.toNatClampNeg a1) v2.2) fun u6 => if v2.2 = x1 then (K3 ((u6, v2.2 + 1))) else bd2 (fX5_isAsSeen F u6) fun r7 u8 => if r7 = 0 then (K3 ((u8, v2.2 + 1))) else nm (up u8 72 4 ((u8 72 4) + 1)) fun u10 => if (u10 72 5) = (-1 : Int32) then (nm (up u10 72 5 ((10 * a1) + v2.2)) fun u14 => K3 ((u14, v2.2 + 1))) else nm (up u10 72 5 (u10 72 5)) fun u12 => K3 ((u12, v2.2 + 1)))) F ((σ, 0)))
set_option maxRecDepth 20000 in
theorem wfX5_seekLimpOf {X : XT} {D : va_G} {cI : ClassId} {ad : Nat → Nat} {F : Nat} {σ : St} {a1 : Int32} {σ' : St} (C : Cx X (gC D cI ad) cX5_seekLimpOf 5 RX5 3 79 0) (hr : RetV X (gC D cI ad) cX5_seekLimpOf 5 0 σ') (h : fX5_seekLimpOf F σ a1 = some σ') : WP X (gC D cI ad) 5 0 0 σ [(0, .ref (ad 72)), (1, .ref (ad 30)), (2, .int a1)] [] := by
  unfold fX5_seekLimpOf at h
  refine w_aload_n C dX5_seekLimpOf_0 rfl 0 rfl ?_
  refine w_get C 72 1 (Nat.le_of_ble_eq_true rfl) rfl rfl inB_X5 (by decide) tw2_75 rfl dX5_seekLimpOf_1 rfl ?_
  refine w_get C 66 2 (Nat.le_of_ble_eq_true rfl) rfl rfl inB_X2 (by decide) tw2_44 rfl dX5_seekLimpOf_4 rfl ?_
  refine w_iload_n C dX5_seekLimpOf_7 rfl 2 rfl ?_
  refine w_iald C 71 10 0 (Nat.le_of_ble_eq_true rfl) (fun _ => rfl) rfl h dX5_seekLimpOf_8 rfl (fun h => ?_)
  refine w_nm h (fun x1 h => ?_)
  refine w_istore_n C [(3, .int x1), (0, .ref (ad 72)), (1, .ref (ad 30)), (2, .int a1)] dX5_seekLimpOf_9 rfl (by decide) rfl ?_
  refine w_iconst C 0 dX5_seekLimpOf_10 rfl (by decide) ?_
  refine w_istore C [(4, .int 0), (3, .int x1), (0, .ref (ad 72)), (1, .ref (ad 30)), (2, .int a1)] dX5_seekLimpOf_11 rfl (by decide) rfl ?_
  refine w_sub (lv' := [(4, .int 0), (3, .int x1), (0, .ref (ad 72)), (1, .ref (ad 30)), (2, .int a1)]) [0, 1, 2, 3, 4] rfl ?_
  refine lp_w (fun v2 : St × Int32 => WP X (gC D cI ad) 5 0 13 v2.1 [(4, .int v2.2), (3, .int x1), (0, .ref (ad 72)), (1, .ref (ad 30)), (2, .int a1)] []) (fun K3 hK4 v2 h => ?_) F _ h
  refine w_iload C dX5_seekLimpOf_13 rfl 0 rfl ?_
  refine w_bipush C 9 dX5_seekLimpOf_15 rfl (by decide) ?_
  refine w_icmp_gt C (qt := 87) dX5_seekLimpOf_17 (by decide) rfl h (fun _ h => ?_) (fun _ h => ?_)
  · refine w_aload_n C dX5_seekLimpOf_87 rfl 2 rfl ?_
    refine w_get C 72 1 (Nat.le_of_ble_eq_true rfl) rfl rfl inB_X5 (by decide) tw2_75 rfl dX5_seekLimpOf_88 rfl ?_
    refine w_get C 66 2 (Nat.le_of_ble_eq_true rfl) rfl rfl inB_X2 (by decide) tw2_44 rfl dX5_seekLimpOf_91 rfl ?_
    refine w_iload_n C dX5_seekLimpOf_94 rfl 4 rfl ?_
    refine w_iload_n C dX5_seekLimpOf_95 rfl 1 rfl ?_
    refine w_iast C 71 10 0 (Nat.le_of_ble_eq_true rfl) (fun _ => rfl) rfl h dX5_seekLimpOf_96 rfl (fun h => ?_)
    refine w_nst h (fun u5 h => ?_)
    exact w_rv hr h (by decide) dX5_seekLimpOf_97
  · refine w_aload_n C dX5_seekLimpOf_20 rfl 2 rfl ?_
    refine w_get C 72 1 (Nat.le_of_ble_eq_true rfl) rfl rfl inB_X5 (by decide) tw2_75 rfl dX5_seekLimpOf_21 rfl ?_
    refine w_get C 66 2 (Nat.le_of_ble_eq_true rfl) rfl rfl inB_X2 (by decide) tw2_44 rfl dX5_seekLimpOf_24 rfl ?_
    refine w_iload_n C dX5_seekLimpOf_27 rfl 4 rfl ?_
    refine w_iload C dX5_seekLimpOf_28 rfl 0 rfl ?_
    refine w_iast C 71 10 0 (Nat.le_of_ble_eq_true rfl) (fun _ => rfl) rfl h dX5_seekLimpOf_30 rfl (fun h => ?_)
    refine w_nst h (fun u6 h => ?_)
    refine w_iload C dX5_seekLimpOf_31 rfl 0 rfl ?_
    refine w_iload_n C dX5_seekLimpOf_33 rfl 1 rfl ?_
    refine w_icmp_eq C (qt := 81) dX5_seekLimpOf_34 (by decide) rfl h (fun _ h => ?_) (fun _ h => ?_)
    · refine w_iinc (j := 0) C (v2.2 + 1) [(4, .int (v2.2 + 1)), (3, .int x1), (0, .ref (ad 72)), (1, .ref (ad 30)), (2, .int a1)] dX5_seekLimpOf_81 rfl rfl rfl (by decide) rfl ?_
      refine w_goto (q := 13) C dX5_seekLimpOf_84 (by decide) ?_
      exact w_sub (lv' := [(4, .int (v2.2 + 1)), (3, .int x1), (0, .ref (ad 72)), (1, .ref (ad 30)), (2, .int a1)]) [0, 1, 2, 3, 4] rfl (hK4 ((u6, v2.2 + 1)) h)
    · refine w_aload_n C dX5_seekLimpOf_37 rfl 2 rfl ?_
      refine w_aload_n C dX5_seekLimpOf_38 rfl 3 rfl ?_
      refine bd2_w h (fun r7 u8 hc h => ?_)
      refine w_callVi C (n := 1) (As := [.ref (ad 30)]) (st := []) 72 (Nat.le_of_ble_eq_true rfl) rfl rfl (cfX5_isAsSeen D cI ad (l := X.2.1) C.2.2.1 hc) tw6_97 cy_X5_isAsSeen (by decide +kernel) ⟨Nat.le_of_ble_eq_true rfl, Nat.le_of_ble_eq_true rfl⟩ (by decide) rfl rfl (Nat.le_of_ble_eq_true rfl) dX5_seekLimpOf_39 rfl ?_
      refine w_if_eq C (qt := 81) dX5_seekLimpOf_42 (by decide) rfl h (fun _ h => ?_) (fun _ h => ?_)
      · refine w_iinc (j := 0) C (v2.2 + 1) [(4, .int (v2.2 + 1)), (3, .int x1), (0, .ref (ad 72)), (1, .ref (ad 30)), (2, .int a1)] dX5_seekLimpOf_81 rfl rfl rfl (by decide) rfl ?_
        refine w_goto (q := 13) C dX5_seekLimpOf_84 (by decide) ?_
        exact w_sub (lv' := [(4, .int (v2.2 + 1)), (3, .int x1), (0, .ref (ad 72)), (1, .ref (ad 30)), (2, .int a1)]) [0, 1, 2, 3, 4] rfl (hK4 ((u8, v2.2 + 1)) h)
      · refine w_aload_n C dX5_seekLimpOf_45 rfl 2 rfl ?_
        refine w_dup C rfl dX5_seekLimpOf_46 rfl ?_
        refine w_get C 72 4 (Nat.le_of_ble_eq_true rfl) rfl rfl inB_X5 (by decide) tw2_78 rfl dX5_seekLimpOf_47 rfl ?_
        refine w_iconst C 1 dX5_seekLimpOf_50 rfl (by decide) ?_
        refine w_iadd C dX5_seekLimpOf_51 rfl ?_
        refine w_put C 72 4 ((u8 72 4) + 1) (Nat.le_of_ble_eq_true rfl) rfl rfl inB_X5 tyX5_ok nmX5 (by decide) tw2_78 rfl rfl rfl (Nat.le_of_ble_eq_true rfl) rfl dX5_seekLimpOf_52 rfl ?_
        refine w_nst h (fun u10 h => ?_)
        refine w_aload_n C dX5_seekLimpOf_55 rfl 2 rfl ?_
        refine w_aload_n C dX5_seekLimpOf_56 rfl 2 rfl ?_
        refine w_get C 72 5 (Nat.le_of_ble_eq_true rfl) rfl rfl inB_X5 (by decide) tw2_80 rfl dX5_seekLimpOf_57 rfl ?_
        refine w_iconst C (-1) dX5_seekLimpOf_60 rfl (by decide) ?_
        refine w_icmp_ne C (qt := 74) dX5_seekLimpOf_61 (by decide) rfl h (fun _ h => ?_) (fun _ h => ?_)
        · refine w_aload_n C dX5_seekLimpOf_74 rfl 2 rfl ?_
          refine w_get C 72 5 (Nat.le_of_ble_eq_true rfl) rfl rfl inB_X5 (by decide) tw2_80 rfl dX5_seekLimpOf_75 rfl ?_
          refine w_put C 72 5 (u10 72 5) (Nat.le_of_ble_eq_true rfl) rfl rfl inB_X5 tyX5_ok nmX5 (by decide) tw2_80 rfl rfl rfl (Nat.le_of_ble_eq_true rfl) rfl dX5_seekLimpOf_78 rfl ?_
          refine w_nst h (fun u12 h => ?_)
          refine w_iinc (j := 0) C (v2.2 + 1) [(4, .int (v2.2 + 1)), (3, .int x1), (0, .ref (ad 72)), (1, .ref (ad 30)), (2, .int a1)] dX5_seekLimpOf_81 rfl rfl rfl (by decide) rfl ?_
          refine w_goto (q := 13) C dX5_seekLimpOf_84 (by decide) ?_
          exact w_sub (lv' := [(4, .int (v2.2 + 1)), (3, .int x1), (0, .ref (ad 72)), (1, .ref (ad 30)), (2, .int a1)]) [0, 1, 2, 3, 4] rfl (hK4 ((u12, v2.2 + 1)) h)
        · refine w_bipush C 10 dX5_seekLimpOf_64 rfl (by decide) ?_
          refine w_iload_n C dX5_seekLimpOf_66 rfl 4 rfl ?_
          refine w_imul C dX5_seekLimpOf_67 rfl ?_
          refine w_iload C dX5_seekLimpOf_68 rfl 0 rfl ?_
          refine w_iadd C dX5_seekLimpOf_70 rfl ?_
          refine w_goto (q := 78) C dX5_seekLimpOf_71 (by decide) ?_
          refine w_put C 72 5 ((10 * a1) + v2.2) (Nat.le_of_ble_eq_true rfl) rfl rfl inB_X5 tyX5_ok nmX5 (by decide) tw2_80 rfl rfl rfl (Nat.le_of_ble_eq_true rfl) rfl dX5_seekLimpOf_78 rfl ?_
          refine w_nst h (fun u14 h => ?_)
          refine w_iinc (j := 0) C (v2.2 + 1) [(4, .int (v2.2 + 1)), (3, .int x1), (0, .ref (ad 72)), (1, .ref (ad 30)), (2, .int a1)] dX5_seekLimpOf_81 rfl rfl rfl (by decide) rfl ?_
          refine w_goto (q := 13) C dX5_seekLimpOf_84 (by decide) ?_
          exact w_sub (lv' := [(4, .int (v2.2 + 1)), (3, .int x1), (0, .ref (ad 72)), (1, .ref (ad 30)), (2, .int a1)]) [0, 1, 2, 3, 4] rfl (hK4 ((u14, v2.2 + 1)) h)
theorem cfX5_seekLimpOf (D : va_G) (cI : ClassId) (ad : Nat → Nat) {l : Launch} (had : gAp (gC D cI ad)) {F : Nat} {σ : St} {a1 : Int32} {σ' : St} (h : fX5_seekLimpOf F σ a1 = some σ') : MV l yX5_seekLimpOf (wB yX5_seekLimpOf cX5_seekLimpOf 5 none) 3 79 (gC D cI ad) [.ref (ad 72), .ref (ad 30), .int a1] σ σ' := mk_MV had (by decide +kernel) (Nat.le_of_ble_eq_true rfl) (fun X hX C hr => wfX5_seekLimpOf C hr h)

def fX5_seekLimp (F : Nat) (σ : St) : Option St := nm (up σ 72 4 0) fun u2 => nm (up u2 72 5 ((-1))) fun u4 => lp (fun (K6 : (St × Int32) → Option St) (v5 : St × Int32) => if (v5.1 66 4) ≤ v5.2 then (some v5.1) else bd1 (fX5_changes F v5.1 v5.2) fun r8 => if r8 = 0 then (K6 ((v5.1, v5.2 + 1))) else bd1 (fX5_seekLimpOf F v5.1 v5.2) fun u9 => K6 ((u9, v5.2 + 1))) F ((u4, 0))
set_option maxRecDepth 20000 in
theorem wfX5_seekLimp {X : XT} {D : va_G} {cI : ClassId} {ad : Nat → Nat} {F : Nat} {σ : St}  {σ' : St} (C : Cx X (gC D cI ad) cX5_seekLimp 3 RX5 4 103 0) (hr : RetV X (gC D cI ad) cX5_seekLimp 3 0 σ') (h : fX5_seekLimp F σ = some σ') : WP X (gC D cI ad) 3 0 0 σ [(0, .ref (ad 72)), (1, .ref (ad 30))] [] := by
  unfold fX5_seekLimp at h
  refine w_aload_n C dX5_seekLimp_0 rfl 0 rfl ?_
  refine w_iconst C 0 dX5_seekLimp_1 rfl (by decide) ?_
  refine w_put C 72 4 0 (Nat.le_of_ble_eq_true rfl) rfl rfl inB_X5 tyX5_ok nmX5 (by decide) tw2_78 rfl rfl rfl (Nat.le_of_ble_eq_true rfl) rfl dX5_seekLimp_2 rfl ?_
  refine w_nst h (fun u2 h => ?_)
  refine w_aload_n C dX5_seekLimp_5 rfl 0 rfl ?_
  refine w_iconst C (-1) dX5_seekLimp_6 rfl (by decide) ?_
  refine w_put C 72 5 ((-1)) (Nat.le_of_ble_eq_true rfl) rfl rfl inB_X5 tyX5_ok nmX5 (by decide) tw2_80 rfl rfl rfl (Nat.le_of_ble_eq_true rfl) rfl dX5_seekLimp_7 rfl ?_
  refine w_nst h (fun u4 h => ?_)
  refine w_iconst C 0 dX5_seekLimp_10 rfl (by decide) ?_
  refine w_istore_n C [(2, .int 0), (0, .ref (ad 72)), (1, .ref (ad 30))] dX5_seekLimp_11 rfl (by decide) rfl ?_
  refine w_sub (lv' := [(2, .int 0), (0, .ref (ad 72)), (1, .ref (ad 30))]) [0, 1, 2] rfl ?_
  refine lp_w (fun v5 : St × Int32 => WP X (gC D cI ad) 3 0 12 v5.1 [(2, .int v5.2), (0, .ref (ad 72)), (1, .ref (ad 30))] []) (fun K6 hK7 v5 h => ?_) F _ h
  refine w_iload_n C dX5_seekLimp_12 rfl 0 rfl ?_
  refine w_aload_n C dX5_seekLimp_13 rfl 1 rfl ?_
  refine w_get C 72 1 (Nat.le_of_ble_eq_true rfl) rfl rfl inB_X5 (by decide) tw2_75 rfl dX5_seekLimp_14 rfl ?_
  refine w_get C 66 4 (Nat.le_of_ble_eq_true rfl) rfl rfl inB_X2 (by decide) tw2_48 rfl dX5_seekLimp_17 rfl ?_
  refine w_icmp_ge C (qt := 43) dX5_seekLimp_20 (by decide) rfl h (fun _ h => ?_) (fun _ h => ?_)
  · exact w_rv hr h (by decide) dX5_seekLimp_43
  · refine w_aload_n C dX5_seekLimp_23 rfl 1 rfl ?_
    refine w_iload_n C dX5_seekLimp_24 rfl 0 rfl ?_
    refine bd1_w h (fun r8 hc h => ?_)
    refine w_callVi C (n := 1) (As := [.int v5.2]) (st := []) 72 (Nat.le_of_ble_eq_true rfl) rfl rfl (cfX5_changes D cI ad (l := X.2.1) C.2.2.1 hc) tw5_137 cy_X5_changes (by decide +kernel) ⟨Nat.le_of_ble_eq_true rfl, Nat.le_of_ble_eq_true rfl⟩ (by decide) rfl rfl (Nat.le_of_ble_eq_true rfl) dX5_seekLimp_25 rfl ?_
    refine w_if_eq C (qt := 37) dX5_seekLimp_28 (by decide) rfl h (fun _ h => ?_) (fun _ h => ?_)
    · refine w_iinc (j := 0) C (v5.2 + 1) [(2, .int (v5.2 + 1)), (0, .ref (ad 72)), (1, .ref (ad 30))] dX5_seekLimp_37 rfl rfl rfl (by decide) rfl ?_
      refine w_goto (q := 12) C dX5_seekLimp_40 (by decide) ?_
      exact w_sub (lv' := [(2, .int (v5.2 + 1)), (0, .ref (ad 72)), (1, .ref (ad 30))]) [0, 1, 2] rfl (hK7 ((v5.1, v5.2 + 1)) h)
    · refine w_aload_n C dX5_seekLimp_31 rfl 1 rfl ?_
      refine w_aload_n C dX5_seekLimp_32 rfl 2 rfl ?_
      refine w_iload_n C dX5_seekLimp_33 rfl 0 rfl ?_
      refine bd1_w h (fun u9 hc h => ?_)
      refine w_callVv C (n := 2) (As := [.ref (ad 30), .int v5.2]) (st := []) 72 (Nat.le_of_ble_eq_true rfl) rfl rfl (cfX5_seekLimpOf D cI ad (l := X.2.1) C.2.2.1 hc) tw6_93 cy_X5_seekLimpOf (by decide +kernel) ⟨Nat.le_of_ble_eq_true rfl, Nat.le_of_ble_eq_true rfl⟩ (by decide) rfl rfl (Nat.le_of_ble_eq_true rfl) dX5_seekLimp_34 rfl ?_
      refine w_iinc (j := 0) C (v5.2 + 1) [(2, .int (v5.2 + 1)), (0, .ref (ad 72)), (1, .ref (ad 30))] dX5_seekLimp_37 rfl rfl rfl (by decide) rfl ?_
      refine w_goto (q := 12) C dX5_seekLimp_40 (by decide) ?_
      exact w_sub (lv' := [(2, .int (v5.2 + 1)), (0, .ref (ad 72)), (1, .ref (ad 30))]) [0, 1, 2] rfl (hK7 ((u9, v5.2 + 1)) h)
theorem cfX5_seekLimp (D : va_G) (cI : ClassId) (ad : Nat → Nat) {l : Launch} (had : gAp (gC D cI ad)) {F : Nat} {σ : St}  {σ' : St} (h : fX5_seekLimp F σ = some σ') : MV l yX5_seekLimp (wB yX5_seekLimp cX5_seekLimp 3 none) 4 103 (gC D cI ad) [.ref (ad 72), .ref (ad 30)] σ σ' := mk_MV had (by decide +kernel) (Nat.le_of_ble_eq_true rfl) (fun X hX C hr => wfX5_seekLimp C hr h)

def fX10_limp (F : Nat) (σ : St) (a0 : Int32) (a1 : Int32) : Option (Nat × Int32 × St) := bd1 (fX10_checkDance F σ a0) fun t1 => if t1 = 0 then (bd1 (fX10_checkBelow F σ a1 3) fun t2 => if t2 = 0 then (bd1 (fX2_prepare F σ a0 0) fun u3 => if a1 = (2 : Int32) then (bd2 (fX5_isAsSeen F u3) fun r5 u6 => if r5 = 0 then (some (0, 0, u6)) else some (0, 1, u6)) else bd1 (fX5_seekLimp F u3) fun u4 => if a1 = 0 then (some (0, u4 72 4, u4)) else some (0, u4 72 5, u4)) else some (t2, 0, σ)) else some (t1, 0, σ)
set_option maxRecDepth 20000 in
theorem wfX10_limp {X : XT} {D : va_G} {cI : ClassId} {ad : Nat → Nat} {F : Nat} {σ : St} {a0 : Int32} {a1 : Int32} {res : Nat × Int32 × St} (C : Cx X (gC D cI ad) cX10_limp 3 RX10 8 132 2) (hr : RetXi X (gC D cI ad) cX10_limp 3 2 res) (hx : ThrX X (gC D cI ad) cX10_limp 3 2 res) (h : fX10_limp F σ a0 a1 = some res) : WP X (gC D cI ad) 3 0 0 σ [(0, .ref (ad 0)), (1, .int a0), (2, .int a1)] [] := by
  unfold fX10_limp at h
  refine w_aload_n C dX10_limp_0 rfl 0 rfl ?_
  refine w_iload_n C dX10_limp_1 rfl 1 rfl ?_
  refine bd1_w h (fun t1 hc h => ?_)
  refine w_callX C hx (n := 1) (As := [.int a0]) (st := []) 0 (Nat.le_of_ble_eq_true rfl) rfl rfl (cfX10_checkDance D cI ad (l := X.2.1) C.2.2.1 hx.1 hc) tw5_12 cy_X10_checkDance (by decide +kernel) ⟨by decide, by decide⟩ (by decide) rfl rfl (Nat.le_of_ble_eq_true rfl) dX10_limp_2 rfl h (fun h => ?_)
  refine w_aload_n C dX10_limp_5 rfl 0 rfl ?_
  refine w_iload_n C dX10_limp_6 rfl 2 rfl ?_
  refine w_iconst C 3 dX10_limp_7 rfl (by decide) ?_
  refine bd1_w h (fun t2 hc h => ?_)
  refine w_callX C hx (n := 2) (As := [.int a1, .int 3]) (st := []) 0 (Nat.le_of_ble_eq_true rfl) rfl rfl (cfX10_checkBelow D cI ad (l := X.2.1) C.2.2.1 hx.1 hc) tw5_51 cy_X10_checkBelow (by decide +kernel) ⟨by decide, by decide⟩ (by decide) rfl rfl (Nat.le_of_ble_eq_true rfl) dX10_limp_8 rfl h (fun h => ?_)
  refine w_aload_n C dX10_limp_11 rfl 0 rfl ?_
  refine w_get C 0 10 (Nat.le_of_ble_eq_true rfl) rfl rfl inB_X10 (by decide) tw2_182 rfl dX10_limp_12 rfl ?_
  refine w_aload_n C dX10_limp_15 rfl 0 rfl ?_
  refine w_get C 0 7 (Nat.le_of_ble_eq_true rfl) rfl rfl inB_X10 (by decide) tw2_179 rfl dX10_limp_16 rfl ?_
  refine w_iload_n C dX10_limp_19 rfl 1 rfl ?_
  refine w_iconst C 0 dX10_limp_20 rfl (by decide) ?_
  refine bd1_w h (fun u3 hc h => ?_)
  refine w_callVv C (n := 3) (As := [.ref (ad 30), .int a0, .int 0]) (st := []) 66 (Nat.le_of_ble_eq_true rfl) rfl rfl (cfX2_prepare D cI ad (l := X.2.1) C.2.2.1 hc) tw5_23 cy_X2_prepare (by decide +kernel) ⟨Nat.le_of_ble_eq_true rfl, Nat.le_of_ble_eq_true rfl⟩ (by decide) rfl rfl (Nat.le_of_ble_eq_true rfl) dX10_limp_21 rfl ?_
  refine w_iload_n C dX10_limp_24 rfl 2 rfl ?_
  refine w_iconst C 2 dX10_limp_25 rfl (by decide) ?_
  refine w_icmp_ne C (qt := 49) dX10_limp_26 (by decide) rfl h (fun _ h => ?_) (fun _ h => ?_)
  · refine w_aload_n C dX10_limp_49 rfl 0 rfl ?_
    refine w_get C 0 11 (Nat.le_of_ble_eq_true rfl) rfl rfl inB_X10 (by decide) tw2_183 rfl dX10_limp_50 rfl ?_
    refine w_aload_n C dX10_limp_53 rfl 0 rfl ?_
    refine w_get C 0 7 (Nat.le_of_ble_eq_true rfl) rfl rfl inB_X10 (by decide) tw2_179 rfl dX10_limp_54 rfl ?_
    refine bd1_w h (fun u4 hc h => ?_)
    refine w_callVv C (n := 1) (As := [.ref (ad 30)]) (st := []) 72 (Nat.le_of_ble_eq_true rfl) rfl rfl (cfX5_seekLimp D cI ad (l := X.2.1) C.2.2.1 hc) tw6_89 cy_X5_seekLimp (by decide +kernel) ⟨Nat.le_of_ble_eq_true rfl, Nat.le_of_ble_eq_true rfl⟩ (by decide) rfl rfl (Nat.le_of_ble_eq_true rfl) dX10_limp_57 rfl ?_
    refine w_iload_n C dX10_limp_60 rfl 2 rfl ?_
    refine w_if_ne C (qt := 74) dX10_limp_61 (by decide) rfl h (fun _ h => ?_) (fun _ h => ?_)
    · refine w_aload_n C dX10_limp_74 rfl 0 rfl ?_
      refine w_get C 0 11 (Nat.le_of_ble_eq_true rfl) rfl rfl inB_X10 (by decide) tw2_183 rfl dX10_limp_75 rfl ?_
      refine w_get C 72 5 (Nat.le_of_ble_eq_true rfl) rfl rfl inB_X5 (by decide) tw2_81 rfl dX10_limp_78 rfl ?_
      exact w_rxi hr h (by decide) dX10_limp_81
    · refine w_aload_n C dX10_limp_64 rfl 0 rfl ?_
      refine w_get C 0 11 (Nat.le_of_ble_eq_true rfl) rfl rfl inB_X10 (by decide) tw2_183 rfl dX10_limp_65 rfl ?_
      refine w_get C 72 4 (Nat.le_of_ble_eq_true rfl) rfl rfl inB_X5 (by decide) tw2_79 rfl dX10_limp_68 rfl ?_
      refine w_goto (q := 81) C dX10_limp_71 (by decide) ?_
      exact w_rxi hr h (by decide) dX10_limp_81
  · refine w_aload_n C dX10_limp_29 rfl 0 rfl ?_
    refine w_get C 0 11 (Nat.le_of_ble_eq_true rfl) rfl rfl inB_X10 (by decide) tw2_183 rfl dX10_limp_30 rfl ?_
    refine w_aload_n C dX10_limp_33 rfl 0 rfl ?_
    refine w_get C 0 7 (Nat.le_of_ble_eq_true rfl) rfl rfl inB_X10 (by decide) tw2_179 rfl dX10_limp_34 rfl ?_
    refine bd2_w h (fun r5 u6 hc h => ?_)
    refine w_callVi C (n := 1) (As := [.ref (ad 30)]) (st := []) 72 (Nat.le_of_ble_eq_true rfl) rfl rfl (cfX5_isAsSeen D cI ad (l := X.2.1) C.2.2.1 hc) tw6_80 cy_X5_isAsSeen (by decide +kernel) ⟨Nat.le_of_ble_eq_true rfl, Nat.le_of_ble_eq_true rfl⟩ (by decide) rfl rfl (Nat.le_of_ble_eq_true rfl) dX10_limp_37 rfl ?_
    refine w_if_eq C (qt := 47) dX10_limp_40 (by decide) rfl h (fun _ h => ?_) (fun _ h => ?_)
    · refine w_iconst C 0 dX10_limp_47 rfl (by decide) ?_
      exact w_rxi hr h (by decide) dX10_limp_48
    · refine w_iconst C 1 dX10_limp_43 rfl (by decide) ?_
      refine w_goto (q := 48) C dX10_limp_44 (by decide) ?_
      exact w_rxi hr h (by decide) dX10_limp_48
theorem cfX10_limp (D : va_G) (cI : ClassId) (ad : Nat → Nat) {l : Launch} (had : gAp (gC D cI ad)) (hst : l.stackTraces = false) {F : Nat} {σ : St} {a0 : Int32} {a1 : Int32} {res : Nat × Int32 × St} (h : fX10_limp F σ a0 a1 = some res) : MX l yX10_limp (wB yX10_limp cX10_limp 3 (some .int)) 8 132 2 (gC D cI ad) [.ref (ad 0), .int a0, .int a1] σ res := mk_MX had (by decide +kernel) (Nat.le_of_ble_eq_true rfl) hst rfl (by decide) (by decide) (fun X hX C hr hx => wfX10_limp C hr hx h)

def fX10_forget (F : Nat) (σ : St) : Option St := nm (up σ 30 2 0) fun u2 => some u2
set_option maxRecDepth 20000 in
theorem wfX10_forget {X : XT} {D : va_G} {cI : ClassId} {ad : Nat → Nat} {F : Nat} {σ : St}  {σ' : St} (C : Cx X (gC D cI ad) cX10_forget 1 RX10 0 0 0) (hr : RetV X (gC D cI ad) cX10_forget 1 0 σ') (h : fX10_forget F σ = some σ') : WP X (gC D cI ad) 1 0 0 σ [(0, .ref (ad 0))] [] := by
  unfold fX10_forget at h
  refine w_aload_n C dX10_forget_0 rfl 0 rfl ?_
  refine w_get C 0 7 (Nat.le_of_ble_eq_true rfl) rfl rfl inB_X10 (by decide) tw2_179 rfl dX10_forget_1 rfl ?_
  refine w_iconst C 0 dX10_forget_4 rfl (by decide) ?_
  refine w_put C 30 2 0 (Nat.le_of_ble_eq_true rfl) rfl rfl inB_X9 tyX9_ok nmX9 (by decide) tw1_195 rfl rfl rfl (Nat.le_of_ble_eq_true rfl) rfl dX10_forget_5 rfl ?_
  refine w_nst h (fun u2 h => ?_)
  exact w_rv hr h (by decide) dX10_forget_8
theorem cfX10_forget (D : va_G) (cI : ClassId) (ad : Nat → Nat) {l : Launch} (had : gAp (gC D cI ad)) {F : Nat} {σ : St}  {σ' : St} (h : fX10_forget F σ = some σ') : MV l yX10_forget (wB yX10_forget cX10_forget 1 none) 0 0 (gC D cI ad) [.ref (ad 0)] σ σ' := mk_MV had (by decide +kernel) (Nat.le_of_ble_eq_true rfl) (fun X hX C hr => wfX10_forget C hr h)

def fX6_gain (F : Nat) (σ : St) (a0 : Int32) (a1 : Int32) (a2 : Int32) : Option Int32 := bd1 (fX6_hasStamped F σ a0 a1 a2) fun r1 => if r1 = 0 then (some ((3 * a2) - 0)) else some ((3 * a2) - 20)
set_option maxRecDepth 20000 in
theorem wfX6_gain {X : XT} {D : va_G} {cI : ClassId} {ad : Nat → Nat} {F : Nat} {σ : St} {a0 : Int32} {a1 : Int32} {a2 : Int32} {r : Int32} (C : Cx X (gC D cI ad) cX6_gain 4 RX6 3 72 0) (hr : RetI X (gC D cI ad) cX6_gain 4 0 r σ) (h : fX6_gain F σ a0 a1 a2 = some r) : WP X (gC D cI ad) 4 0 0 σ [(0, .ref (ad 81)), (1, .int a0), (2, .int a1), (3, .int a2)] [] := by
  unfold fX6_gain at h
  refine w_iconst C 3 dX6_gain_0 rfl (by decide) ?_
  refine w_iload_n C dX6_gain_1 rfl 3 rfl ?_
  refine w_imul C dX6_gain_2 rfl ?_
  refine w_aload_n C dX6_gain_3 rfl 0 rfl ?_
  refine w_iload_n C dX6_gain_4 rfl 1 rfl ?_
  refine w_iload_n C dX6_gain_5 rfl 2 rfl ?_
  refine w_iload_n C dX6_gain_6 rfl 3 rfl ?_
  refine bd1_w h (fun r1 hc h => ?_)
  refine w_callVi C (n := 3) (As := [.int a0, .int a1, .int a2]) (st := [.int (3 * a2)]) 81 (Nat.le_of_ble_eq_true rfl) rfl rfl (cfX6_hasStamped D cI ad (l := X.2.1) C.2.2.1 hc) tw4_205 cy_X6_hasStamped (by decide +kernel) ⟨Nat.le_of_ble_eq_true rfl, Nat.le_of_ble_eq_true rfl⟩ (by decide) rfl rfl (Nat.le_of_ble_eq_true rfl) dX6_gain_7 rfl ?_
  refine w_if_eq C (qt := 18) dX6_gain_10 (by decide) rfl h (fun _ h => ?_) (fun _ h => ?_)
  · refine w_iconst C 0 dX6_gain_18 rfl (by decide) ?_
    refine w_isub C dX6_gain_19 rfl ?_
    exact w_ri1 hr h (by decide) dX6_gain_20
  · refine w_bipush C 20 dX6_gain_13 rfl (by decide) ?_
    refine w_goto (q := 19) C dX6_gain_15 (by decide) ?_
    refine w_isub C dX6_gain_19 rfl ?_
    exact w_ri1 hr h (by decide) dX6_gain_20
theorem cfX6_gain (D : va_G) (cI : ClassId) (ad : Nat → Nat) {l : Launch} (had : gAp (gC D cI ad)) {F : Nat} {σ : St} {a0 : Int32} {a1 : Int32} {a2 : Int32} {r : Int32} (h : fX6_gain F σ a0 a1 a2 = some r) : MI l yX6_gain (wB yX6_gain cX6_gain 4 (some .int)) 3 72 (gC D cI ad) [.ref (ad 81), .int a0, .int a1, .int a2] σ r σ := mk_MI had (by decide +kernel) (Nat.le_of_ble_eq_true rfl) (fun X hX C hr => wfX6_gain C hr h)

def fX6_bestGain (F : Nat) (σ : St) (a0 : Int32) (a1 : Int32) : Option Int32 := bd1 (fX6_gain F σ a0 a1 0) fun r1 => lp (fun (K3 : (Int32 × Int32) → Option Int32) (v2 : Int32 × Int32) => if (9 : Int32) < v2.1 then (some v2.2) else bd1 (fX6_gain F σ a0 a1 v2.1) fun r5 => nm (if v2.2 < r5 then r5 else v2.2) fun x6 => K3 ((v2.1 + 1, x6))) F ((1, r1))
set_option maxRecDepth 20000 in
theorem wfX6_bestGain {X : XT} {D : va_G} {cI : ClassId} {ad : Nat → Nat} {F : Nat} {σ : St} {a0 : Int32} {a1 : Int32} {r : Int32} (C : Cx X (gC D cI ad) cX6_bestGain 5 RX6 4 95 0) (hr : RetI X (gC D cI ad) cX6_bestGain 5 0 r σ) (h : fX6_bestGain F σ a0 a1 = some r) : WP X (gC D cI ad) 5 0 0 σ [(0, .ref (ad 81)), (1, .int a0), (2, .int a1)] [] := by
  unfold fX6_bestGain at h
  refine w_aload_n C dX6_bestGain_0 rfl 0 rfl ?_
  refine w_iload_n C dX6_bestGain_1 rfl 1 rfl ?_
  refine w_iload_n C dX6_bestGain_2 rfl 2 rfl ?_
  refine w_iconst C 0 dX6_bestGain_3 rfl (by decide) ?_
  refine bd1_w h (fun r1 hc h => ?_)
  refine w_callVi C (n := 3) (As := [.int a0, .int a1, .int 0]) (st := []) 81 (Nat.le_of_ble_eq_true rfl) rfl rfl (cfX6_gain D cI ad (l := X.2.1) C.2.2.1 hc) tw6_114 cy_X6_gain (by decide +kernel) ⟨Nat.le_of_ble_eq_true rfl, Nat.le_of_ble_eq_true rfl⟩ (by decide) rfl rfl (Nat.le_of_ble_eq_true rfl) dX6_bestGain_4 rfl ?_
  refine w_istore_n C [(3, .int r1), (0, .ref (ad 81)), (1, .int a0), (2, .int a1)] dX6_bestGain_7 rfl (by decide) rfl ?_
  refine w_iconst C 1 dX6_bestGain_8 rfl (by decide) ?_
  refine w_istore C [(4, .int 1), (3, .int r1), (0, .ref (ad 81)), (1, .int a0), (2, .int a1)] dX6_bestGain_9 rfl (by decide) rfl ?_
  refine w_sub (lv' := [(4, .int 1), (3, .int r1), (0, .ref (ad 81)), (1, .int a0), (2, .int a1)]) [0, 1, 2, 3, 4] rfl ?_
  refine lp_w (fun v2 : Int32 × Int32 => WP X (gC D cI ad) 5 0 11 σ [(4, .int v2.1), (3, .int v2.2), (0, .ref (ad 81)), (1, .int a0), (2, .int a1)] []) (fun K3 hK4 v2 h => ?_) F _ h
  refine w_iload C dX6_bestGain_11 rfl 0 rfl ?_
  refine w_bipush C 9 dX6_bestGain_13 rfl (by decide) ?_
  refine w_icmp_gt C (qt := 37) dX6_bestGain_15 (by decide) rfl h (fun _ h => ?_) (fun _ h => ?_)
  · refine w_iload_n C dX6_bestGain_37 rfl 1 rfl ?_
    exact w_ri1 hr h (by decide) dX6_bestGain_38
  · refine w_iload_n C dX6_bestGain_18 rfl 1 rfl ?_
    refine w_aload_n C dX6_bestGain_19 rfl 2 rfl ?_
    refine w_iload_n C dX6_bestGain_20 rfl 3 rfl ?_
    refine w_iload_n C dX6_bestGain_21 rfl 4 rfl ?_
    refine w_iload C dX6_bestGain_22 rfl 0 rfl ?_
    refine bd1_w h (fun r5 hc h => ?_)
    refine w_callVi C (n := 3) (As := [.int a0, .int a1, .int v2.1]) (st := [.int v2.2]) 81 (Nat.le_of_ble_eq_true rfl) rfl rfl (cfX6_gain D cI ad (l := X.2.1) C.2.2.1 hc) tw6_114 cy_X6_gain (by decide +kernel) ⟨Nat.le_of_ble_eq_true rfl, Nat.le_of_ble_eq_true rfl⟩ (by decide) rfl rfl (Nat.le_of_ble_eq_true rfl) dX6_bestGain_24 rfl ?_
    refine w_mmax C (all4 tw4_198 tw4_199 tw1_17 tw4_200) ⟨Nat.le_of_ble_eq_true rfl, Nat.le_of_ble_eq_true rfl⟩ (by decide) dX6_bestGain_27 rfl ?_
    refine w_nm h (fun x6 h => ?_)
    refine w_istore_n C [(3, .int x6), (4, .int v2.1), (0, .ref (ad 81)), (1, .int a0), (2, .int a1)] dX6_bestGain_30 rfl (by decide) rfl ?_
    refine w_iinc (j := 1) C (v2.1 + 1) [(4, .int (v2.1 + 1)), (3, .int x6), (0, .ref (ad 81)), (1, .int a0), (2, .int a1)] dX6_bestGain_31 rfl rfl rfl (by decide) rfl ?_
    refine w_goto (q := 11) C dX6_bestGain_34 (by decide) ?_
    exact w_sub (lv' := [(4, .int (v2.1 + 1)), (3, .int x6), (0, .ref (ad 81)), (1, .int a0), (2, .int a1)]) [0, 1, 2, 3, 4] rfl (hK4 ((v2.1 + 1, x6)) h)
theorem cfX6_bestGain (D : va_G) (cI : ClassId) (ad : Nat → Nat) {l : Launch} (had : gAp (gC D cI ad)) {F : Nat} {σ : St} {a0 : Int32} {a1 : Int32} {r : Int32} (h : fX6_bestGain F σ a0 a1 = some r) : MI l yX6_bestGain (wB yX6_bestGain cX6_bestGain 5 (some .int)) 4 95 (gC D cI ad) [.ref (ad 81), .int a0, .int a1] σ r σ := mk_MI had (by decide +kernel) (Nat.le_of_ble_eq_true rfl) (fun X hX C hr => wfX6_bestGain C hr h)

def fX6_play (F : Nat) (σ : St) (a0 : Int32) (a1 : Int32) (a2 : Int32) : Option St := bd1 (fX6_bestGain F σ a0 a2) fun r1 => bd1 (fX6_bestGain F σ a1 a2) fun r2 => nm (up σ 81 4 0) fun u4 => nm (up u4 81 5 ((-1))) fun u6 => lp (fun (K8 : (St × Int32) → Option St) (v7 : St × Int32) => if (100 : Int32) ≤ v7.2 then (some v7.1) else bd1 (fX6_gain F v7.1 a0 a2 (v7.2 / 10)) fun r10 => if r10 = r1 then (bd1 (fX6_gain F v7.1 a1 a2 (v7.2 - v7.2 / 10 * 10)) fun r11 => if r11 = r2 then (nm (up v7.1 81 4 ((v7.1 81 4) + 1)) fun u13 => if (u13 81 5) = (-1 : Int32) then (nm (up u13 81 5 v7.2) fun u17 => K8 ((u17, v7.2 + 1))) else nm (up u13 81 5 (u13 81 5)) fun u15 => K8 ((u15, v7.2 + 1))) else K8 ((v7.1, v7.2 + 1))) else K8 ((v7.1, v7.2 + 1))) F ((u6, 0))
set_option maxRecDepth 20000 in
theorem wfX6_play {X : XT} {D : va_G} {cI : ClassId} {ad : Nat → Nat} {F : Nat} {σ : St} {a0 : Int32} {a1 : Int32} {a2 : Int32} {σ' : St} (C : Cx X (gC D cI ad) cX6_play 7 RX6 5 119 0) (hr : RetV X (gC D cI ad) cX6_play 7 0 σ') (h : fX6_play F σ a0 a1 a2 = some σ') : WP X (gC D cI ad) 7 0 0 σ [(0, .ref (ad 81)), (1, .int a0), (2, .int a1), (3, .int a2)] [] := by
  unfold fX6_play at h
  refine w_aload_n C dX6_play_0 rfl 0 rfl ?_
  refine w_iload_n C dX6_play_1 rfl 1 rfl ?_
  refine w_iload_n C dX6_play_2 rfl 3 rfl ?_
  refine bd1_w h (fun r1 hc h => ?_)
  refine w_callVi C (n := 2) (As := [.int a0, .int a2]) (st := []) 81 (Nat.le_of_ble_eq_true rfl) rfl rfl (cfX6_bestGain D cI ad (l := X.2.1) C.2.2.1 hc) tw6_110 cy_X6_bestGain (by decide +kernel) ⟨Nat.le_of_ble_eq_true rfl, Nat.le_of_ble_eq_true rfl⟩ (by decide) rfl rfl (Nat.le_of_ble_eq_true rfl) dX6_play_3 rfl ?_
  refine w_istore C [(4, .int r1), (0, .ref (ad 81)), (1, .int a0), (2, .int a1), (3, .int a2)] dX6_play_6 rfl (by decide) rfl ?_
  refine w_aload_n C dX6_play_8 rfl 1 rfl ?_
  refine w_iload_n C dX6_play_9 rfl 3 rfl ?_
  refine w_iload_n C dX6_play_10 rfl 4 rfl ?_
  refine bd1_w h (fun r2 hc h => ?_)
  refine w_callVi C (n := 2) (As := [.int a1, .int a2]) (st := []) 81 (Nat.le_of_ble_eq_true rfl) rfl rfl (cfX6_bestGain D cI ad (l := X.2.1) C.2.2.1 hc) tw6_110 cy_X6_bestGain (by decide +kernel) ⟨Nat.le_of_ble_eq_true rfl, Nat.le_of_ble_eq_true rfl⟩ (by decide) rfl rfl (Nat.le_of_ble_eq_true rfl) dX6_play_11 rfl ?_
  refine w_istore C [(5, .int r2), (4, .int r1), (0, .ref (ad 81)), (1, .int a0), (2, .int a1), (3, .int a2)] dX6_play_14 rfl (by decide) rfl ?_
  refine w_aload_n C dX6_play_16 rfl 2 rfl ?_
  refine w_iconst C 0 dX6_play_17 rfl (by decide) ?_
  refine w_put C 81 4 0 (Nat.le_of_ble_eq_true rfl) rfl rfl inB_X6 tyX6_ok nmX6 (by decide) tw2_105 rfl rfl rfl (Nat.le_of_ble_eq_true rfl) rfl dX6_play_18 rfl ?_
  refine w_nst h (fun u4 h => ?_)
  refine w_aload_n C dX6_play_21 rfl 2 rfl ?_
  refine w_iconst C (-1) dX6_play_22 rfl (by decide) ?_
  refine w_put C 81 5 ((-1)) (Nat.le_of_ble_eq_true rfl) rfl rfl inB_X6 tyX6_ok nmX6 (by decide) tw2_107 rfl rfl rfl (Nat.le_of_ble_eq_true rfl) rfl dX6_play_23 rfl ?_
  refine w_nst h (fun u6 h => ?_)
  refine w_iconst C 0 dX6_play_26 rfl (by decide) ?_
  refine w_istore C [(6, .int 0), (5, .int r2), (4, .int r1), (0, .ref (ad 81)), (1, .int a0), (2, .int a1), (3, .int a2)] dX6_play_27 rfl (by decide) rfl ?_
  refine w_sub (lv' := [(6, .int 0), (5, .int r2), (4, .int r1), (0, .ref (ad 81)), (1, .int a0), (2, .int a1), (3, .int a2)]) [0, 1, 2, 3, 4, 5, 6] rfl ?_
  refine lp_w (fun v7 : St × Int32 => WP X (gC D cI ad) 7 0 29 v7.1 [(6, .int v7.2), (5, .int r2), (4, .int r1), (0, .ref (ad 81)), (1, .int a0), (2, .int a1), (3, .int a2)] []) (fun K8 hK9 v7 h => ?_) F _ h
  refine w_iload C dX6_play_29 rfl 0 rfl ?_
  refine w_bipush C 100 dX6_play_31 rfl (by decide) ?_
  refine w_icmp_ge C (qt := 105) dX6_play_33 (by decide) rfl h (fun _ h => ?_) (fun _ h => ?_)
  · exact w_rv hr h (by decide) dX6_play_105
  · refine w_aload_n C dX6_play_36 rfl 3 rfl ?_
    refine w_iload_n C dX6_play_37 rfl 4 rfl ?_
    refine w_iload_n C dX6_play_38 rfl 6 rfl ?_
    refine w_iload C dX6_play_39 rfl 0 rfl ?_
    refine w_bipush C 10 dX6_play_41 rfl (by decide) ?_
    refine w_idiv C (by decide) dX6_play_43 rfl ?_
    refine bd1_w h (fun r10 hc h => ?_)
    refine w_callVi C (n := 3) (As := [.int a0, .int a2, .int (v7.2 / 10)]) (st := []) 81 (Nat.le_of_ble_eq_true rfl) rfl rfl (cfX6_gain D cI ad (l := X.2.1) C.2.2.1 hc) tw6_114 cy_X6_gain (by decide +kernel) ⟨Nat.le_of_ble_eq_true rfl, Nat.le_of_ble_eq_true rfl⟩ (by decide) rfl rfl (Nat.le_of_ble_eq_true rfl) dX6_play_44 rfl ?_
    refine w_iload C dX6_play_47 rfl 2 rfl ?_
    refine w_icmp_ne C (qt := 99) dX6_play_49 (by decide) rfl h (fun _ h => ?_) (fun _ h => ?_)
    · refine w_iinc (j := 0) C (v7.2 + 1) [(6, .int (v7.2 + 1)), (5, .int r2), (4, .int r1), (0, .ref (ad 81)), (1, .int a0), (2, .int a1), (3, .int a2)] dX6_play_99 rfl rfl rfl (by decide) rfl ?_
      refine w_goto (q := 29) C dX6_play_102 (by decide) ?_
      exact w_sub (lv' := [(6, .int (v7.2 + 1)), (5, .int r2), (4, .int r1), (0, .ref (ad 81)), (1, .int a0), (2, .int a1), (3, .int a2)]) [0, 1, 2, 3, 4, 5, 6] rfl (hK9 ((v7.1, v7.2 + 1)) h)
    · refine w_aload_n C dX6_play_52 rfl 3 rfl ?_
      refine w_iload_n C dX6_play_53 rfl 5 rfl ?_
      refine w_iload_n C dX6_play_54 rfl 6 rfl ?_
      refine w_iload C dX6_play_55 rfl 0 rfl ?_
      refine w_bipush C 10 dX6_play_57 rfl (by decide) ?_
      refine w_irem C (by decide) dX6_play_59 rfl ?_
      refine bd1_w h (fun r11 hc h => ?_)
      refine w_callVi C (n := 3) (As := [.int a1, .int a2, .int (v7.2 - v7.2 / 10 * 10)]) (st := []) 81 (Nat.le_of_ble_eq_true rfl) rfl rfl (cfX6_gain D cI ad (l := X.2.1) C.2.2.1 hc) tw6_114 cy_X6_gain (by decide +kernel) ⟨Nat.le_of_ble_eq_true rfl, Nat.le_of_ble_eq_true rfl⟩ (by decide) rfl rfl (Nat.le_of_ble_eq_true rfl) dX6_play_60 rfl ?_
      refine w_iload C dX6_play_63 rfl 1 rfl ?_
      refine w_icmp_ne C (qt := 99) dX6_play_65 (by decide) rfl h (fun _ h => ?_) (fun _ h => ?_)
      · refine w_iinc (j := 0) C (v7.2 + 1) [(6, .int (v7.2 + 1)), (5, .int r2), (4, .int r1), (0, .ref (ad 81)), (1, .int a0), (2, .int a1), (3, .int a2)] dX6_play_99 rfl rfl rfl (by decide) rfl ?_
        refine w_goto (q := 29) C dX6_play_102 (by decide) ?_
        exact w_sub (lv' := [(6, .int (v7.2 + 1)), (5, .int r2), (4, .int r1), (0, .ref (ad 81)), (1, .int a0), (2, .int a1), (3, .int a2)]) [0, 1, 2, 3, 4, 5, 6] rfl (hK9 ((v7.1, v7.2 + 1)) h)
      · refine w_aload_n C dX6_play_68 rfl 3 rfl ?_
        refine w_dup C rfl dX6_play_69 rfl ?_
        refine w_get C 81 4 (Nat.le_of_ble_eq_true rfl) rfl rfl inB_X6 (by decide) tw2_105 rfl dX6_play_70 rfl ?_
        refine w_iconst C 1 dX6_play_73 rfl (by decide) ?_
        refine w_iadd C dX6_play_74 rfl ?_
        refine w_put C 81 4 ((v7.1 81 4) + 1) (Nat.le_of_ble_eq_true rfl) rfl rfl inB_X6 tyX6_ok nmX6 (by decide) tw2_105 rfl rfl rfl (Nat.le_of_ble_eq_true rfl) rfl dX6_play_75 rfl ?_
        refine w_nst h (fun u13 h => ?_)
        refine w_aload_n C dX6_play_78 rfl 3 rfl ?_
        refine w_aload_n C dX6_play_79 rfl 3 rfl ?_
        refine w_get C 81 5 (Nat.le_of_ble_eq_true rfl) rfl rfl inB_X6 (by decide) tw2_107 rfl dX6_play_80 rfl ?_
        refine w_iconst C (-1) dX6_play_83 rfl (by decide) ?_
        refine w_icmp_ne C (qt := 92) dX6_play_84 (by decide) rfl h (fun _ h => ?_) (fun _ h => ?_)
        · refine w_aload_n C dX6_play_92 rfl 3 rfl ?_
          refine w_get C 81 5 (Nat.le_of_ble_eq_true rfl) rfl rfl inB_X6 (by decide) tw2_107 rfl dX6_play_93 rfl ?_
          refine w_put C 81 5 (u13 81 5) (Nat.le_of_ble_eq_true rfl) rfl rfl inB_X6 tyX6_ok nmX6 (by decide) tw2_107 rfl rfl rfl (Nat.le_of_ble_eq_true rfl) rfl dX6_play_96 rfl ?_
          refine w_nst h (fun u15 h => ?_)
          refine w_iinc (j := 0) C (v7.2 + 1) [(6, .int (v7.2 + 1)), (5, .int r2), (4, .int r1), (0, .ref (ad 81)), (1, .int a0), (2, .int a1), (3, .int a2)] dX6_play_99 rfl rfl rfl (by decide) rfl ?_
          refine w_goto (q := 29) C dX6_play_102 (by decide) ?_
          exact w_sub (lv' := [(6, .int (v7.2 + 1)), (5, .int r2), (4, .int r1), (0, .ref (ad 81)), (1, .int a0), (2, .int a1), (3, .int a2)]) [0, 1, 2, 3, 4, 5, 6] rfl (hK9 ((u15, v7.2 + 1)) h)
        · refine w_iload C dX6_play_87 rfl 0 rfl ?_
          refine w_goto (q := 96) C dX6_play_89 (by decide) ?_
          refine w_put C 81 5 v7.2 (Nat.le_of_ble_eq_true rfl) rfl rfl inB_X6 tyX6_ok nmX6 (by decide) tw2_107 rfl rfl rfl (Nat.le_of_ble_eq_true rfl) rfl dX6_play_96 rfl ?_
          refine w_nst h (fun u17 h => ?_)
          refine w_iinc (j := 0) C (v7.2 + 1) [(6, .int (v7.2 + 1)), (5, .int r2), (4, .int r1), (0, .ref (ad 81)), (1, .int a0), (2, .int a1), (3, .int a2)] dX6_play_99 rfl rfl rfl (by decide) rfl ?_
          refine w_goto (q := 29) C dX6_play_102 (by decide) ?_
          exact w_sub (lv' := [(6, .int (v7.2 + 1)), (5, .int r2), (4, .int r1), (0, .ref (ad 81)), (1, .int a0), (2, .int a1), (3, .int a2)]) [0, 1, 2, 3, 4, 5, 6] rfl (hK9 ((u17, v7.2 + 1)) h)
theorem cfX6_play (D : va_G) (cI : ClassId) (ad : Nat → Nat) {l : Launch} (had : gAp (gC D cI ad)) {F : Nat} {σ : St} {a0 : Int32} {a1 : Int32} {a2 : Int32} {σ' : St} (h : fX6_play F σ a0 a1 a2 = some σ') : MV l yX6_play (wB yX6_play cX6_play 7 none) 5 119 (gC D cI ad) [.ref (ad 81), .int a0, .int a1, .int a2] σ σ' := mk_MV had (by decide +kernel) (Nat.le_of_ble_eq_true rfl) (fun X hX C hr => wfX6_play C hr h)

def fX10_game (F : Nat) (σ : St) (a0 : Int32) (a1 : Int32) (a2 : Int32) (a3 : Int32) : Option (Nat × Int32 × St) := bd1 (fX10_checkValley F σ a0) fun t1 => if t1 = 0 then (bd1 (fX10_checkValley F σ a1) fun t2 => if t2 = 0 then (bd1 (fX10_checkBelow F σ a2 8) fun t3 => if t3 = 0 then (bd1 (fX10_checkBelow F σ a3 2) fun t4 => if t4 = 0 then (if a0 = a1 then (some (2, 0, σ)) else bd2 (fX2_bindingBits F σ 0) fun r5 u6 => bd1 (fX6_weighAll F u6 r5) fun u7 => bd1 (fX6_play F u7 a0 a1 a2) fun u8 => if a3 = 0 then (some (0, u8 81 4, u8)) else some (0, u8 81 5, u8)) else some (t4, 0, σ)) else some (t3, 0, σ)) else some (t2, 0, σ)) else some (t1, 0, σ)
set_option maxRecDepth 20000 in
theorem wfX10_game {X : XT} {D : va_G} {cI : ClassId} {ad : Nat → Nat} {F : Nat} {σ : St} {a0 : Int32} {a1 : Int32} {a2 : Int32} {a3 : Int32} {res : Nat × Int32 × St} (C : Cx X (gC D cI ad) cX10_game 5 RX10 8 145 5) (hr : RetXi X (gC D cI ad) cX10_game 5 5 res) (hx : ThrX X (gC D cI ad) cX10_game 5 5 res) (h : fX10_game F σ a0 a1 a2 a3 = some res) : WP X (gC D cI ad) 5 0 0 σ [(0, .ref (ad 0)), (1, .int a0), (2, .int a1), (3, .int a2), (4, .int a3)] [] := by
  unfold fX10_game at h
  refine w_aload_n C dX10_game_0 rfl 0 rfl ?_
  refine w_iload_n C dX10_game_1 rfl 1 rfl ?_
  refine bd1_w h (fun t1 hc h => ?_)
  refine w_callX C hx (n := 1) (As := [.int a0]) (st := []) 0 (Nat.le_of_ble_eq_true rfl) rfl rfl (cfX10_checkValley D cI ad (l := X.2.1) C.2.2.1 hx.1 hc) tw5_0 cy_X10_checkValley (by decide +kernel) ⟨by decide, by decide⟩ (by decide) rfl rfl (Nat.le_of_ble_eq_true rfl) dX10_game_2 rfl h (fun h => ?_)
  refine w_aload_n C dX10_game_5 rfl 0 rfl ?_
  refine w_iload_n C dX10_game_6 rfl 2 rfl ?_
  refine bd1_w h (fun t2 hc h => ?_)
  refine w_callX C hx (n := 1) (As := [.int a1]) (st := []) 0 (Nat.le_of_ble_eq_true rfl) rfl rfl (cfX10_checkValley D cI ad (l := X.2.1) C.2.2.1 hx.1 hc) tw5_0 cy_X10_checkValley (by decide +kernel) ⟨by decide, by decide⟩ (by decide) rfl rfl (Nat.le_of_ble_eq_true rfl) dX10_game_7 rfl h (fun h => ?_)
  refine w_aload_n C dX10_game_10 rfl 0 rfl ?_
  refine w_iload_n C dX10_game_11 rfl 3 rfl ?_
  refine w_bipush C 8 dX10_game_12 rfl (by decide) ?_
  refine bd1_w h (fun t3 hc h => ?_)
  refine w_callX C hx (n := 2) (As := [.int a2, .int 8]) (st := []) 0 (Nat.le_of_ble_eq_true rfl) rfl rfl (cfX10_checkBelow D cI ad (l := X.2.1) C.2.2.1 hx.1 hc) tw5_51 cy_X10_checkBelow (by decide +kernel) ⟨by decide, by decide⟩ (by decide) rfl rfl (Nat.le_of_ble_eq_true rfl) dX10_game_14 rfl h (fun h => ?_)
  refine w_aload_n C dX10_game_17 rfl 0 rfl ?_
  refine w_iload C dX10_game_18 rfl 4 rfl ?_
  refine w_iconst C 2 dX10_game_20 rfl (by decide) ?_
  refine bd1_w h (fun t4 hc h => ?_)
  refine w_callX C hx (n := 2) (As := [.int a3, .int 2]) (st := []) 0 (Nat.le_of_ble_eq_true rfl) rfl rfl (cfX10_checkBelow D cI ad (l := X.2.1) C.2.2.1 hx.1 hc) tw5_51 cy_X10_checkBelow (by decide +kernel) ⟨by decide, by decide⟩ (by decide) rfl rfl (Nat.le_of_ble_eq_true rfl) dX10_game_21 rfl h (fun h => ?_)
  refine w_iload_n C dX10_game_24 rfl 1 rfl ?_
  refine w_iload_n C dX10_game_25 rfl 2 rfl ?_
  refine w_icmp_ne C (qt := 40) dX10_game_26 (by decide) rfl h (fun _ h => ?_) (fun _ h => ?_)
  · refine w_aload_n C dX10_game_40 rfl 0 rfl ?_
    refine w_get C 0 12 (Nat.le_of_ble_eq_true rfl) rfl rfl inB_X10 (by decide) tw2_184 rfl dX10_game_41 rfl ?_
    refine w_aload_n C dX10_game_44 rfl 0 rfl ?_
    refine w_get C 0 10 (Nat.le_of_ble_eq_true rfl) rfl rfl inB_X10 (by decide) tw2_182 rfl dX10_game_45 rfl ?_
    refine w_aload_n C dX10_game_48 rfl 0 rfl ?_
    refine w_get C 0 7 (Nat.le_of_ble_eq_true rfl) rfl rfl inB_X10 (by decide) tw2_179 rfl dX10_game_49 rfl ?_
    refine w_iconst C 0 dX10_game_52 rfl (by decide) ?_
    refine bd2_w h (fun r5 u6 hc h => ?_)
    refine w_callVi C (n := 2) (As := [.ref (ad 30), .int 0]) (st := [.ref (ad 81)]) 66 (Nat.le_of_ble_eq_true rfl) rfl rfl (cfX2_bindingBits D cI ad (l := X.2.1) C.2.2.1 hc) tw4_88 cy_X2_bindingBits (by decide +kernel) ⟨Nat.le_of_ble_eq_true rfl, Nat.le_of_ble_eq_true rfl⟩ (by decide) rfl rfl (Nat.le_of_ble_eq_true rfl) dX10_game_53 rfl ?_
    refine bd1_w h (fun u7 hc h => ?_)
    refine w_callVv C (n := 1) (As := [.int r5]) (st := []) 81 (Nat.le_of_ble_eq_true rfl) rfl rfl (cfX6_weighAll D cI ad (l := X.2.1) C.2.2.1 hc) tw4_149 cy_X6_weighAll (by decide +kernel) ⟨Nat.le_of_ble_eq_true rfl, Nat.le_of_ble_eq_true rfl⟩ (by decide) rfl rfl (Nat.le_of_ble_eq_true rfl) dX10_game_56 rfl ?_
    refine w_aload_n C dX10_game_59 rfl 0 rfl ?_
    refine w_get C 0 12 (Nat.le_of_ble_eq_true rfl) rfl rfl inB_X10 (by decide) tw2_184 rfl dX10_game_60 rfl ?_
    refine w_iload_n C dX10_game_63 rfl 1 rfl ?_
    refine w_iload_n C dX10_game_64 rfl 2 rfl ?_
    refine w_iload_n C dX10_game_65 rfl 3 rfl ?_
    refine bd1_w h (fun u8 hc h => ?_)
    refine w_callVv C (n := 3) (As := [.int a0, .int a1, .int a2]) (st := []) 81 (Nat.le_of_ble_eq_true rfl) rfl rfl (cfX6_play D cI ad (l := X.2.1) C.2.2.1 hc) tw6_106 cy_X6_play (by decide +kernel) ⟨Nat.le_of_ble_eq_true rfl, Nat.le_of_ble_eq_true rfl⟩ (by decide) rfl rfl (Nat.le_of_ble_eq_true rfl) dX10_game_66 rfl ?_
    refine w_iload C dX10_game_69 rfl 4 rfl ?_
    refine w_if_ne C (qt := 84) dX10_game_71 (by decide) rfl h (fun _ h => ?_) (fun _ h => ?_)
    · refine w_aload_n C dX10_game_84 rfl 0 rfl ?_
      refine w_get C 0 12 (Nat.le_of_ble_eq_true rfl) rfl rfl inB_X10 (by decide) tw2_184 rfl dX10_game_85 rfl ?_
      refine w_get C 81 5 (Nat.le_of_ble_eq_true rfl) rfl rfl inB_X6 (by decide) tw2_108 rfl dX10_game_88 rfl ?_
      exact w_rxi hr h (by decide) dX10_game_91
    · refine w_aload_n C dX10_game_74 rfl 0 rfl ?_
      refine w_get C 0 12 (Nat.le_of_ble_eq_true rfl) rfl rfl inB_X10 (by decide) tw2_184 rfl dX10_game_75 rfl ?_
      refine w_get C 81 4 (Nat.le_of_ble_eq_true rfl) rfl rfl inB_X6 (by decide) tw2_106 rfl dX10_game_78 rfl ?_
      refine w_goto (q := 91) C dX10_game_81 (by decide) ?_
      exact w_rxi hr h (by decide) dX10_game_91
  · exact w_thrW2 hx (tx := "both are one valley") 107 (by decide) h (by decide) dX10_game_29 dX10_game_32 dX10_game_33 dX10_game_36 dX10_game_39
theorem cfX10_game (D : va_G) (cI : ClassId) (ad : Nat → Nat) {l : Launch} (had : gAp (gC D cI ad)) (hst : l.stackTraces = false) {F : Nat} {σ : St} {a0 : Int32} {a1 : Int32} {a2 : Int32} {a3 : Int32} {res : Nat × Int32 × St} (h : fX10_game F σ a0 a1 a2 a3 = some res) : MX l yX10_game (wB yX10_game cX10_game 5 (some .int)) 8 145 5 (gC D cI ad) [.ref (ad 0), .int a0, .int a1, .int a2, .int a3] σ res := mk_MX had (by decide +kernel) (Nat.le_of_ble_eq_true rfl) hst rfl (by decide) (by decide) (fun X hX C hr hx => wfX10_game C hr hx h)

def fX9_become (F : Nat) (σ : St) : Option St := nm (up σ 54 0 (σ 30 0)) fun u2 => nm (up u2 54 1 (u2 30 1)) fun u4 => nm (up u4 54 2 (u4 30 2)) fun u6 => nm (acp u6 31 0 55 0 8) fun u7 => nm (acp u7 32 0 56 0 8) fun u8 => nm (acp u8 33 0 57 0 80) fun u9 => nm (acp u9 34 0 58 0 48) fun u10 => nm (acp u10 35 0 59 0 160) fun u11 => nm (acp u11 36 0 60 0 8) fun u12 => nm (acp u12 37 0 61 0 8) fun u13 => nm (acp u13 38 0 62 0 8) fun u14 => nm (acp u14 39 0 63 0 8) fun u15 => nm (acp u15 40 0 64 0 8) fun u16 => nm (acp u16 41 0 65 0 3) fun u17 => some u17
set_option maxRecDepth 20000 in
theorem wfX9_become {X : XT} {D : va_G} {cI : ClassId} {ad : Nat → Nat} {F : Nat} {σ : St}  {σ' : St} (C : Cx X (gC D cI ad) cX9_become 2 RX9 1 40 0) (hr : RetV X (gC D cI ad) cX9_become 2 0 σ') (h : fX9_become F σ = some σ') : WP X (gC D cI ad) 2 0 0 σ [(0, .ref (ad 54)), (1, .ref (ad 30))] [] := by
  unfold fX9_become at h
  refine w_aload_n C dX9_become_0 rfl 0 rfl ?_
  refine w_aload_n C dX9_become_1 rfl 1 rfl ?_
  refine w_get C 30 0 (Nat.le_of_ble_eq_true rfl) rfl rfl inB_X9 (by decide) tw1_189 rfl dX9_become_2 rfl ?_
  refine w_put C 54 0 (σ 30 0) (Nat.le_of_ble_eq_true rfl) rfl rfl inB_X9 tyX9_ok nmX9 (by decide) tw1_189 rfl rfl rfl (Nat.le_of_ble_eq_true rfl) rfl dX9_become_5 rfl ?_
  refine w_nst h (fun u2 h => ?_)
  refine w_aload_n C dX9_become_8 rfl 0 rfl ?_
  refine w_aload_n C dX9_become_9 rfl 1 rfl ?_
  refine w_get C 30 1 (Nat.le_of_ble_eq_true rfl) rfl rfl inB_X9 (by decide) tw1_192 rfl dX9_become_10 rfl ?_
  refine w_put C 54 1 (u2 30 1) (Nat.le_of_ble_eq_true rfl) rfl rfl inB_X9 tyX9_ok nmX9 (by decide) tw1_192 rfl rfl rfl (Nat.le_of_ble_eq_true rfl) rfl dX9_become_13 rfl ?_
  refine w_nst h (fun u4 h => ?_)
  refine w_aload_n C dX9_become_16 rfl 0 rfl ?_
  refine w_aload_n C dX9_become_17 rfl 1 rfl ?_
  refine w_get C 30 2 (Nat.le_of_ble_eq_true rfl) rfl rfl inB_X9 (by decide) tw1_194 rfl dX9_become_18 rfl ?_
  refine w_put C 54 2 (u4 30 2) (Nat.le_of_ble_eq_true rfl) rfl rfl inB_X9 tyX9_ok nmX9 (by decide) tw1_194 rfl rfl rfl (Nat.le_of_ble_eq_true rfl) rfl dX9_become_21 rfl ?_
  refine w_nst h (fun u6 h => ?_)
  refine w_aload_n C dX9_become_24 rfl 1 rfl ?_
  refine w_get C 30 3 (Nat.le_of_ble_eq_true rfl) rfl rfl inB_X9 (by decide) tw1_197 rfl dX9_become_25 rfl ?_
  refine w_iconst C 0 dX9_become_28 rfl (by decide) ?_
  refine w_aload_n C dX9_become_29 rfl 0 rfl ?_
  refine w_get C 54 3 (Nat.le_of_ble_eq_true rfl) rfl rfl inB_X9 (by decide) tw1_197 rfl dX9_become_30 rfl ?_
  refine w_iconst C 0 dX9_become_33 rfl (by decide) ?_
  refine w_bipush C 8 dX9_become_34 rfl (by decide) ?_
  refine w_acopy C 31 55 8 8 0 0 0 8 (all4 tw3_2 tw3_4 tw3_3 tw1_22) (Nat.le_of_ble_eq_true rfl) (Nat.le_of_ble_eq_true rfl) (fun _ => rfl) (fun _ => rfl) rfl ⟨by decide, by decide⟩ ⟨by decide, by decide⟩ ⟨by decide, by decide⟩ (by decide) (by decide) ⟨Nat.le_of_ble_eq_true rfl, Nat.le_of_ble_eq_true rfl⟩ dX9_become_36 rfl ?_
  refine w_nst h (fun u7 h => ?_)
  refine w_aload_n C dX9_become_39 rfl 1 rfl ?_
  refine w_get C 30 4 (Nat.le_of_ble_eq_true rfl) rfl rfl inB_X9 (by decide) tw1_199 rfl dX9_become_40 rfl ?_
  refine w_iconst C 0 dX9_become_43 rfl (by decide) ?_
  refine w_aload_n C dX9_become_44 rfl 0 rfl ?_
  refine w_get C 54 4 (Nat.le_of_ble_eq_true rfl) rfl rfl inB_X9 (by decide) tw1_199 rfl dX9_become_45 rfl ?_
  refine w_iconst C 0 dX9_become_48 rfl (by decide) ?_
  refine w_bipush C 8 dX9_become_49 rfl (by decide) ?_
  refine w_acopy C 32 56 8 8 0 0 0 8 (all4 tw3_2 tw3_4 tw3_3 tw1_22) (Nat.le_of_ble_eq_true rfl) (Nat.le_of_ble_eq_true rfl) (fun _ => rfl) (fun _ => rfl) rfl ⟨by decide, by decide⟩ ⟨by decide, by decide⟩ ⟨by decide, by decide⟩ (by decide) (by decide) ⟨Nat.le_of_ble_eq_true rfl, Nat.le_of_ble_eq_true rfl⟩ dX9_become_51 rfl ?_
  refine w_nst h (fun u8 h => ?_)
  refine w_aload_n C dX9_become_54 rfl 1 rfl ?_
  refine w_get C 30 5 (Nat.le_of_ble_eq_true rfl) rfl rfl inB_X9 (by decide) tw1_203 rfl dX9_become_55 rfl ?_
  refine w_iconst C 0 dX9_become_58 rfl (by decide) ?_
  refine w_aload_n C dX9_become_59 rfl 0 rfl ?_
  refine w_get C 54 5 (Nat.le_of_ble_eq_true rfl) rfl rfl inB_X9 (by decide) tw1_203 rfl dX9_become_60 rfl ?_
  refine w_iconst C 0 dX9_become_63 rfl (by decide) ?_
  refine w_bipush C 80 dX9_become_64 rfl (by decide) ?_
  refine w_acopy C 33 57 80 80 0 0 0 80 (all4 tw3_2 tw3_4 tw3_3 tw1_22) (Nat.le_of_ble_eq_true rfl) (Nat.le_of_ble_eq_true rfl) (fun _ => rfl) (fun _ => rfl) rfl ⟨by decide, by decide⟩ ⟨by decide, by decide⟩ ⟨by decide, by decide⟩ (by decide) (by decide) ⟨Nat.le_of_ble_eq_true rfl, Nat.le_of_ble_eq_true rfl⟩ dX9_become_66 rfl ?_
  refine w_nst h (fun u9 h => ?_)
  refine w_aload_n C dX9_become_69 rfl 1 rfl ?_
  refine w_get C 30 6 (Nat.le_of_ble_eq_true rfl) rfl rfl inB_X9 (by decide) tw1_207 rfl dX9_become_70 rfl ?_
  refine w_iconst C 0 dX9_become_73 rfl (by decide) ?_
  refine w_aload_n C dX9_become_74 rfl 0 rfl ?_
  refine w_get C 54 6 (Nat.le_of_ble_eq_true rfl) rfl rfl inB_X9 (by decide) tw1_207 rfl dX9_become_75 rfl ?_
  refine w_iconst C 0 dX9_become_78 rfl (by decide) ?_
  refine w_bipush C 48 dX9_become_79 rfl (by decide) ?_
  refine w_acopy C 34 58 48 48 0 0 0 48 (all4 tw3_2 tw3_4 tw3_3 tw1_22) (Nat.le_of_ble_eq_true rfl) (Nat.le_of_ble_eq_true rfl) (fun _ => rfl) (fun _ => rfl) rfl ⟨by decide, by decide⟩ ⟨by decide, by decide⟩ ⟨by decide, by decide⟩ (by decide) (by decide) ⟨Nat.le_of_ble_eq_true rfl, Nat.le_of_ble_eq_true rfl⟩ dX9_become_81 rfl ?_
  refine w_nst h (fun u10 h => ?_)
  refine w_aload_n C dX9_become_84 rfl 1 rfl ?_
  refine w_get C 30 7 (Nat.le_of_ble_eq_true rfl) rfl rfl inB_X9 (by decide) tw1_210 rfl dX9_become_85 rfl ?_
  refine w_iconst C 0 dX9_become_88 rfl (by decide) ?_
  refine w_aload_n C dX9_become_89 rfl 0 rfl ?_
  refine w_get C 54 7 (Nat.le_of_ble_eq_true rfl) rfl rfl inB_X9 (by decide) tw1_210 rfl dX9_become_90 rfl ?_
  refine w_iconst C 0 dX9_become_93 rfl (by decide) ?_
  refine w_sipush C 160 dX9_become_94 rfl (by decide) ?_
  refine w_acopy C 35 59 160 160 0 0 0 160 (all4 tw3_2 tw3_4 tw3_3 tw1_22) (Nat.le_of_ble_eq_true rfl) (Nat.le_of_ble_eq_true rfl) (fun _ => rfl) (fun _ => rfl) rfl ⟨by decide, by decide⟩ ⟨by decide, by decide⟩ ⟨by decide, by decide⟩ (by decide) (by decide) ⟨Nat.le_of_ble_eq_true rfl, Nat.le_of_ble_eq_true rfl⟩ dX9_become_97 rfl ?_
  refine w_nst h (fun u11 h => ?_)
  refine w_aload_n C dX9_become_100 rfl 1 rfl ?_
  refine w_get C 30 8 (Nat.le_of_ble_eq_true rfl) rfl rfl inB_X9 (by decide) tw1_211 rfl dX9_become_101 rfl ?_
  refine w_iconst C 0 dX9_become_104 rfl (by decide) ?_
  refine w_aload_n C dX9_become_105 rfl 0 rfl ?_
  refine w_get C 54 8 (Nat.le_of_ble_eq_true rfl) rfl rfl inB_X9 (by decide) tw1_211 rfl dX9_become_106 rfl ?_
  refine w_iconst C 0 dX9_become_109 rfl (by decide) ?_
  refine w_bipush C 8 dX9_become_110 rfl (by decide) ?_
  refine w_acopy C 36 60 8 8 0 0 0 8 (all4 tw3_2 tw3_4 tw3_3 tw1_22) (Nat.le_of_ble_eq_true rfl) (Nat.le_of_ble_eq_true rfl) (fun _ => rfl) (fun _ => rfl) rfl ⟨by decide, by decide⟩ ⟨by decide, by decide⟩ ⟨by decide, by decide⟩ (by decide) (by decide) ⟨Nat.le_of_ble_eq_true rfl, Nat.le_of_ble_eq_true rfl⟩ dX9_become_112 rfl ?_
  refine w_nst h (fun u12 h => ?_)
  refine w_aload_n C dX9_become_115 rfl 1 rfl ?_
  refine w_get C 30 9 (Nat.le_of_ble_eq_true rfl) rfl rfl inB_X9 (by decide) tw1_213 rfl dX9_become_116 rfl ?_
  refine w_iconst C 0 dX9_become_119 rfl (by decide) ?_
  refine w_aload_n C dX9_become_120 rfl 0 rfl ?_
  refine w_get C 54 9 (Nat.le_of_ble_eq_true rfl) rfl rfl inB_X9 (by decide) tw1_213 rfl dX9_become_121 rfl ?_
  refine w_iconst C 0 dX9_become_124 rfl (by decide) ?_
  refine w_bipush C 8 dX9_become_125 rfl (by decide) ?_
  refine w_acopy C 37 61 8 8 0 0 0 8 (all4 tw3_2 tw3_4 tw3_3 tw1_22) (Nat.le_of_ble_eq_true rfl) (Nat.le_of_ble_eq_true rfl) (fun _ => rfl) (fun _ => rfl) rfl ⟨by decide, by decide⟩ ⟨by decide, by decide⟩ ⟨by decide, by decide⟩ (by decide) (by decide) ⟨Nat.le_of_ble_eq_true rfl, Nat.le_of_ble_eq_true rfl⟩ dX9_become_127 rfl ?_
  refine w_nst h (fun u13 h => ?_)
  refine w_aload_n C dX9_become_130 rfl 1 rfl ?_
  refine w_get C 30 10 (Nat.le_of_ble_eq_true rfl) rfl rfl inB_X9 (by decide) tw1_215 rfl dX9_become_131 rfl ?_
  refine w_iconst C 0 dX9_become_134 rfl (by decide) ?_
  refine w_aload_n C dX9_become_135 rfl 0 rfl ?_
  refine w_get C 54 10 (Nat.le_of_ble_eq_true rfl) rfl rfl inB_X9 (by decide) tw1_215 rfl dX9_become_136 rfl ?_
  refine w_iconst C 0 dX9_become_139 rfl (by decide) ?_
  refine w_bipush C 8 dX9_become_140 rfl (by decide) ?_
  refine w_acopy C 38 62 8 8 0 0 0 8 (all4 tw3_2 tw3_4 tw3_3 tw1_22) (Nat.le_of_ble_eq_true rfl) (Nat.le_of_ble_eq_true rfl) (fun _ => rfl) (fun _ => rfl) rfl ⟨by decide, by decide⟩ ⟨by decide, by decide⟩ ⟨by decide, by decide⟩ (by decide) (by decide) ⟨Nat.le_of_ble_eq_true rfl, Nat.le_of_ble_eq_true rfl⟩ dX9_become_142 rfl ?_
  refine w_nst h (fun u14 h => ?_)
  refine w_aload_n C dX9_become_145 rfl 1 rfl ?_
  refine w_get C 30 11 (Nat.le_of_ble_eq_true rfl) rfl rfl inB_X9 (by decide) tw1_217 rfl dX9_become_146 rfl ?_
  refine w_iconst C 0 dX9_become_149 rfl (by decide) ?_
  refine w_aload_n C dX9_become_150 rfl 0 rfl ?_
  refine w_get C 54 11 (Nat.le_of_ble_eq_true rfl) rfl rfl inB_X9 (by decide) tw1_217 rfl dX9_become_151 rfl ?_
  refine w_iconst C 0 dX9_become_154 rfl (by decide) ?_
  refine w_bipush C 8 dX9_become_155 rfl (by decide) ?_
  refine w_acopy C 39 63 8 8 0 0 0 8 (all4 tw3_2 tw3_4 tw3_3 tw1_22) (Nat.le_of_ble_eq_true rfl) (Nat.le_of_ble_eq_true rfl) (fun _ => rfl) (fun _ => rfl) rfl ⟨by decide, by decide⟩ ⟨by decide, by decide⟩ ⟨by decide, by decide⟩ (by decide) (by decide) ⟨Nat.le_of_ble_eq_true rfl, Nat.le_of_ble_eq_true rfl⟩ dX9_become_157 rfl ?_
  refine w_nst h (fun u15 h => ?_)
  refine w_aload_n C dX9_become_160 rfl 1 rfl ?_
  refine w_get C 30 12 (Nat.le_of_ble_eq_true rfl) rfl rfl inB_X9 (by decide) tw1_219 rfl dX9_become_161 rfl ?_
  refine w_iconst C 0 dX9_become_164 rfl (by decide) ?_
  refine w_aload_n C dX9_become_165 rfl 0 rfl ?_
  refine w_get C 54 12 (Nat.le_of_ble_eq_true rfl) rfl rfl inB_X9 (by decide) tw1_219 rfl dX9_become_166 rfl ?_
  refine w_iconst C 0 dX9_become_169 rfl (by decide) ?_
  refine w_bipush C 8 dX9_become_170 rfl (by decide) ?_
  refine w_acopy C 40 64 8 8 0 0 0 8 (all4 tw3_2 tw3_4 tw3_3 tw1_22) (Nat.le_of_ble_eq_true rfl) (Nat.le_of_ble_eq_true rfl) (fun _ => rfl) (fun _ => rfl) rfl ⟨by decide, by decide⟩ ⟨by decide, by decide⟩ ⟨by decide, by decide⟩ (by decide) (by decide) ⟨Nat.le_of_ble_eq_true rfl, Nat.le_of_ble_eq_true rfl⟩ dX9_become_172 rfl ?_
  refine w_nst h (fun u16 h => ?_)
  refine w_aload_n C dX9_become_175 rfl 1 rfl ?_
  refine w_get C 30 13 (Nat.le_of_ble_eq_true rfl) rfl rfl inB_X9 (by decide) tw1_221 rfl dX9_become_176 rfl ?_
  refine w_iconst C 0 dX9_become_179 rfl (by decide) ?_
  refine w_aload_n C dX9_become_180 rfl 0 rfl ?_
  refine w_get C 54 13 (Nat.le_of_ble_eq_true rfl) rfl rfl inB_X9 (by decide) tw1_221 rfl dX9_become_181 rfl ?_
  refine w_iconst C 0 dX9_become_184 rfl (by decide) ?_
  refine w_iconst C 3 dX9_become_185 rfl (by decide) ?_
  refine w_acopy C 41 65 3 3 0 0 0 3 (all4 tw3_2 tw3_4 tw3_3 tw1_22) (Nat.le_of_ble_eq_true rfl) (Nat.le_of_ble_eq_true rfl) (fun _ => rfl) (fun _ => rfl) rfl ⟨by decide, by decide⟩ ⟨by decide, by decide⟩ ⟨by decide, by decide⟩ (by decide) (by decide) ⟨Nat.le_of_ble_eq_true rfl, Nat.le_of_ble_eq_true rfl⟩ dX9_become_186 rfl ?_
  refine w_nst h (fun u17 h => ?_)
  exact w_rv hr h (by decide) dX9_become_189
theorem cfX9_become (D : va_G) (cI : ClassId) (ad : Nat → Nat) {l : Launch} (had : gAp (gC D cI ad)) {F : Nat} {σ : St}  {σ' : St} (h : fX9_become F σ = some σ') : MV l yX9_become (wB yX9_become cX9_become 2 none) 1 40 (gC D cI ad) [.ref (ad 54), .ref (ad 30)] σ σ' := mk_MV had (by decide +kernel) (Nat.le_of_ble_eq_true rfl) (fun X hX C hr => wfX9_become C hr h)

def fX9_since_2 (F : Nat) (σ : St) (a0 : Int32) : Option Int32 := ckI (a0) 8 (some ((σ 54 0) - (σ 55 (Int32.toNatClampNeg a0))))
set_option maxRecDepth 20000 in
theorem wfX9_since_2 {X : XT} {D : va_G} {cI : ClassId} {ad : Nat → Nat} {F : Nat} {σ : St} {a0 : Int32} {r : Int32} (C : Cx X (gC D cI ad) cX9_since 2 RX9 0 0 0) (hr : RetI X (gC D cI ad) cX9_since 2 0 r σ) (h : fX9_since_2 F σ a0 = some r) : WP X (gC D cI ad) 2 0 0 σ [(0, .ref (ad 54)), (1, .int a0)] [] := by
  unfold fX9_since_2 at h
  refine w_aload_n C dX9_since_0 rfl 0 rfl ?_
  refine w_get C 54 0 (Nat.le_of_ble_eq_true rfl) rfl rfl inB_X9 (by decide) tw1_189 rfl dX9_since_1 rfl ?_
  refine w_aload_n C dX9_since_4 rfl 0 rfl ?_
  refine w_get C 54 3 (Nat.le_of_ble_eq_true rfl) rfl rfl inB_X9 (by decide) tw1_197 rfl dX9_since_5 rfl ?_
  refine w_iload_n C dX9_since_8 rfl 1 rfl ?_
  refine w_iald C 55 8 0 (Nat.le_of_ble_eq_true rfl) (fun _ => rfl) rfl h dX9_since_9 rfl (fun h => ?_)
  refine w_isub C dX9_since_10 rfl ?_
  exact w_ri1 hr h (by decide) dX9_since_11
theorem cfX9_since_2 (D : va_G) (cI : ClassId) (ad : Nat → Nat) {l : Launch} (had : gAp (gC D cI ad)) {F : Nat} {σ : St} {a0 : Int32} {r : Int32} (h : fX9_since_2 F σ a0 = some r) : MI l yX9_since (wB yX9_since cX9_since 2 (some .int)) 0 0 (gC D cI ad) [.ref (ad 54), .int a0] σ r σ := mk_MI had (by decide +kernel) (Nat.le_of_ble_eq_true rfl) (fun X hX C hr => wfX9_since_2 C hr h)

def fX2_prepare_2 (F : Nat) (σ : St) (a1 : Int32) (a2 : Int32) : Option St := nm (up σ 66 3 a1) fun u2 => ckI (a1) 8 (nm (up u2 66 4 (u2 7 (Int32.toNatClampNeg a1))) fun u4 => bd1 (fX9_since_2 F u4 a1) fun r5 => nm (r5 + a2) fun x6 => bd1 (fX0_kneesOf F u4 a1 0) fun r7 => nm (up u4 66 5 ((r7 + x6) / 10)) fun u9 => bd1 (fX0_kneesOf F u9 a1 1) fun r10 => nm (up u9 66 6 ((r10 + x6) / 10)) fun u12 => lp (fun (K14 : (St × Int32) → Option St) (v13 : St × Int32) => if (v13.1 66 4) ≤ v13.2 then (some v13.1) else bd1 (fX10_placeOf F v13.1 a1 v13.2) fun r16 => ckI (r16) 80 (ckI (v13.2) 10 (nm (up v13.1 71 (Int32.toNatClampNeg v13.2) (v13.1 57 (Int32.toNatClampNeg r16))) fun u17 => K14 ((u17, v13.2 + 1))))) F ((u12, 0)))
set_option maxRecDepth 20000 in
theorem wfX2_prepare_2 {X : XT} {D : va_G} {cI : ClassId} {ad : Nat → Nat} {F : Nat} {σ : St} {a1 : Int32} {a2 : Int32} {σ' : St} (C : Cx X (gC D cI ad) cX2_prepare 6 RX2 2 44 0) (hr : RetV X (gC D cI ad) cX2_prepare 6 0 σ') (h : fX2_prepare_2 F σ a1 a2 = some σ') : WP X (gC D cI ad) 6 0 0 σ [(0, .ref (ad 66)), (1, .ref (ad 54)), (2, .int a1), (3, .int a2)] [] := by
  unfold fX2_prepare_2 at h
  refine w_aload_n C dX2_prepare_0 rfl 0 rfl ?_
  refine w_iload_n C dX2_prepare_1 rfl 2 rfl ?_
  refine w_put C 66 3 a1 (Nat.le_of_ble_eq_true rfl) rfl rfl inB_X2 tyX2_ok nmX2 (by decide) tw2_45 rfl rfl rfl (Nat.le_of_ble_eq_true rfl) rfl dX2_prepare_2 rfl ?_
  refine w_nst h (fun u2 h => ?_)
  refine w_aload_n C dX2_prepare_5 rfl 0 rfl ?_
  refine w_aload_n C dX2_prepare_6 rfl 0 rfl ?_
  refine w_get C 66 0 (Nat.le_of_ble_eq_true rfl) rfl rfl inB_X2 (by decide) tw2_39 rfl dX2_prepare_7 rfl ?_
  refine w_get C 2 9 (Nat.le_of_ble_eq_true rfl) rfl rfl inB_X0 (by decide) tw1_96 rfl dX2_prepare_10 rfl ?_
  refine w_iload_n C dX2_prepare_13 rfl 2 rfl ?_
  refine w_iald C 7 8 0 (Nat.le_of_ble_eq_true rfl) (fun _ => rfl) rfl h dX2_prepare_14 rfl (fun h => ?_)
  refine w_put C 66 4 (u2 7 (Int32.toNatClampNeg a1)) (Nat.le_of_ble_eq_true rfl) rfl rfl inB_X2 tyX2_ok nmX2 (by decide) tw2_47 rfl rfl rfl (Nat.le_of_ble_eq_true rfl) rfl dX2_prepare_15 rfl ?_
  refine w_nst h (fun u4 h => ?_)
  refine w_aload_n C dX2_prepare_18 rfl 1 rfl ?_
  refine w_iload_n C dX2_prepare_19 rfl 2 rfl ?_
  refine bd1_w h (fun r5 hc h => ?_)
  refine w_callVi C (n := 1) (As := [.int a1]) (st := []) 54 (Nat.le_of_ble_eq_true rfl) rfl rfl (cfX9_since_2 D cI ad (l := X.2.1) C.2.2.1 hc) tw4_96 cy_X9_since (by decide +kernel) ⟨Nat.le_of_ble_eq_true rfl, Nat.le_of_ble_eq_true rfl⟩ (by decide) rfl rfl (Nat.le_of_ble_eq_true rfl) dX2_prepare_20 rfl ?_
  refine w_iload_n C dX2_prepare_23 rfl 3 rfl ?_
  refine w_iadd C dX2_prepare_24 rfl ?_
  refine w_nm h (fun x6 h => ?_)
  refine w_istore C [(4, .int x6), (0, .ref (ad 66)), (1, .ref (ad 54)), (2, .int a1), (3, .int a2)] dX2_prepare_25 rfl (by decide) rfl ?_
  refine w_aload_n C dX2_prepare_27 rfl 1 rfl ?_
  refine w_aload_n C dX2_prepare_28 rfl 1 rfl ?_
  refine w_get C 66 0 (Nat.le_of_ble_eq_true rfl) rfl rfl inB_X2 (by decide) tw2_39 rfl dX2_prepare_29 rfl ?_
  refine w_iload_n C dX2_prepare_32 rfl 3 rfl ?_
  refine w_iconst C 0 dX2_prepare_33 rfl (by decide) ?_
  refine bd1_w h (fun r7 hc h => ?_)
  refine w_callVi C (n := 2) (As := [.int a1, .int 0]) (st := [.ref (ad 66)]) 2 (Nat.le_of_ble_eq_true rfl) rfl rfl (cfX0_kneesOf D cI ad (l := X.2.1) C.2.2.1 hc) tw4_100 cy_X0_kneesOf (by decide +kernel) ⟨Nat.le_of_ble_eq_true rfl, Nat.le_of_ble_eq_true rfl⟩ (by decide) rfl rfl (Nat.le_of_ble_eq_true rfl) dX2_prepare_34 rfl ?_
  refine w_iload C dX2_prepare_37 rfl 0 rfl ?_
  refine w_iadd C dX2_prepare_39 rfl ?_
  refine w_bipush C 10 dX2_prepare_40 rfl (by decide) ?_
  refine w_idiv C (by decide) dX2_prepare_42 rfl ?_
  refine w_put C 66 5 ((r7 + x6) / 10) (Nat.le_of_ble_eq_true rfl) rfl rfl inB_X2 tyX2_ok nmX2 (by decide) tw2_49 rfl rfl rfl (Nat.le_of_ble_eq_true rfl) rfl dX2_prepare_43 rfl ?_
  refine w_nst h (fun u9 h => ?_)
  refine w_aload_n C dX2_prepare_46 rfl 1 rfl ?_
  refine w_aload_n C dX2_prepare_47 rfl 1 rfl ?_
  refine w_get C 66 0 (Nat.le_of_ble_eq_true rfl) rfl rfl inB_X2 (by decide) tw2_39 rfl dX2_prepare_48 rfl ?_
  refine w_iload_n C dX2_prepare_51 rfl 3 rfl ?_
  refine w_iconst C 1 dX2_prepare_52 rfl (by decide) ?_
  refine bd1_w h (fun r10 hc h => ?_)
  refine w_callVi C (n := 2) (As := [.int a1, .int 1]) (st := [.ref (ad 66)]) 2 (Nat.le_of_ble_eq_true rfl) rfl rfl (cfX0_kneesOf D cI ad (l := X.2.1) C.2.2.1 hc) tw4_100 cy_X0_kneesOf (by decide +kernel) ⟨Nat.le_of_ble_eq_true rfl, Nat.le_of_ble_eq_true rfl⟩ (by decide) rfl rfl (Nat.le_of_ble_eq_true rfl) dX2_prepare_53 rfl ?_
  refine w_iload C dX2_prepare_56 rfl 0 rfl ?_
  refine w_iadd C dX2_prepare_58 rfl ?_
  refine w_bipush C 10 dX2_prepare_59 rfl (by decide) ?_
  refine w_idiv C (by decide) dX2_prepare_61 rfl ?_
  refine w_put C 66 6 ((r10 + x6) / 10) (Nat.le_of_ble_eq_true rfl) rfl rfl inB_X2 tyX2_ok nmX2 (by decide) tw2_50 rfl rfl rfl (Nat.le_of_ble_eq_true rfl) rfl dX2_prepare_62 rfl ?_
  refine w_nst h (fun u12 h => ?_)
  refine w_iconst C 0 dX2_prepare_65 rfl (by decide) ?_
  refine w_istore C [(5, .int 0), (4, .int x6), (0, .ref (ad 66)), (1, .ref (ad 54)), (2, .int a1), (3, .int a2)] dX2_prepare_66 rfl (by decide) rfl ?_
  refine w_sub (lv' := [(5, .int 0), (0, .ref (ad 66)), (1, .ref (ad 54)), (2, .int a1)]) [0, 2, 3, 4] rfl ?_
  refine lp_w (fun v13 : St × Int32 => WP X (gC D cI ad) 6 0 68 v13.1 [(5, .int v13.2), (0, .ref (ad 66)), (1, .ref (ad 54)), (2, .int a1)] []) (fun K14 hK15 v13 h => ?_) F _ h
  refine w_iload C dX2_prepare_68 rfl 0 rfl ?_
  refine w_aload_n C dX2_prepare_70 rfl 1 rfl ?_
  refine w_get C 66 4 (Nat.le_of_ble_eq_true rfl) rfl rfl inB_X2 (by decide) tw2_47 rfl dX2_prepare_71 rfl ?_
  refine w_icmp_ge C (qt := 101) dX2_prepare_74 (by decide) rfl h (fun _ h => ?_) (fun _ h => ?_)
  · exact w_rv hr h (by decide) dX2_prepare_101
  · refine w_aload_n C dX2_prepare_77 rfl 1 rfl ?_
    refine w_get C 66 2 (Nat.le_of_ble_eq_true rfl) rfl rfl inB_X2 (by decide) tw2_43 rfl dX2_prepare_78 rfl ?_
    refine w_iload C dX2_prepare_81 rfl 0 rfl ?_
    refine w_aload_n C dX2_prepare_83 rfl 2 rfl ?_
    refine w_get C 54 5 (Nat.le_of_ble_eq_true rfl) rfl rfl inB_X9 (by decide) tw1_204 rfl dX2_prepare_84 rfl ?_
    refine w_iload_n C dX2_prepare_87 rfl 3 rfl ?_
    refine w_iload C dX2_prepare_88 rfl 0 rfl ?_
    refine bd1_w h (fun r16 hc h => ?_)
    refine w_callNi C (n := 2) (As := [.int a1, .int v13.2]) (st := [.ref (ad 57), .int v13.2, .ref (ad 71)]) (host := RX10) (cfX10_placeOf D cI ad (l := X.2.1) C.2.2.1 hc) (by decide +kernel) cs_X10_placeOf (by decide +kernel) ⟨Nat.le_of_ble_eq_true rfl, Nat.le_of_ble_eq_true rfl⟩ (by decide) rfl rfl (Nat.le_of_ble_eq_true rfl) dX2_prepare_90 rfl ?_
    refine w_iald C 57 80 0 (Nat.le_of_ble_eq_true rfl) (fun _ => rfl) rfl h dX2_prepare_93 rfl (fun h => ?_)
    refine w_iast C 71 10 0 (Nat.le_of_ble_eq_true rfl) (fun _ => rfl) rfl h dX2_prepare_94 rfl (fun h => ?_)
    refine w_nst h (fun u17 h => ?_)
    refine w_iinc (j := 0) C (v13.2 + 1) [(5, .int (v13.2 + 1)), (0, .ref (ad 66)), (1, .ref (ad 54)), (2, .int a1)] dX2_prepare_95 rfl rfl rfl (by decide) rfl ?_
    refine w_goto (q := 68) C dX2_prepare_98 (by decide) ?_
    exact w_sub (lv' := [(5, .int (v13.2 + 1)), (0, .ref (ad 66)), (1, .ref (ad 54)), (2, .int a1)]) [0, 1, 2, 3] rfl (hK15 ((u17, v13.2 + 1)) h)
theorem cfX2_prepare_2 (D : va_G) (cI : ClassId) (ad : Nat → Nat) {l : Launch} (had : gAp (gC D cI ad)) {F : Nat} {σ : St} {a1 : Int32} {a2 : Int32} {σ' : St} (h : fX2_prepare_2 F σ a1 a2 = some σ') : MV l yX2_prepare (wB yX2_prepare cX2_prepare 6 none) 2 44 (gC D cI ad) [.ref (ad 66), .ref (ad 54), .int a1, .int a2] σ σ' := mk_MV had (by decide +kernel) (Nat.le_of_ble_eq_true rfl) (fun X hX C hr => wfX2_prepare_2 C hr h)

def fX2_bindingBits_2 (F : Nat) (σ : St) (a1 : Int32) : Option (Int32 × St) := lp (fun (K2 : (St × Int32 × Int32) → Option (Int32 × St)) (v1 : St × Int32 × Int32) => if (v1.1 2 1) ≤ v1.2.1 then (some (v1.2.2, v1.1)) else bd1 (fX2_prepare_2 F v1.1 v1.2.1 a1) fun u4 => ckI (v1.2.1) 8 (if (u4 56 (Int32.toNatClampNeg v1.2.1)) = 0 then (bd2 (fX2_endsFacing F u4) fun r5 u6 => if r5 = 0 then (K2 ((u6, v1.2.1 + 1, v1.2.2))) else nm (v1.2.2 ||| ((1 : Int32) <<< (v1.2.1 &&& 31))) fun x7 => K2 ((u6, v1.2.1 + 1, x7))) else K2 ((u4, v1.2.1 + 1, v1.2.2)))) F ((σ, 0, 0))
set_option maxRecDepth 20000 in
theorem wfX2_bindingBits_2 {X : XT} {D : va_G} {cI : ClassId} {ad : Nat → Nat} {F : Nat} {σ : St} {a1 : Int32} {r : Int32} {σ' : St} (C : Cx X (gC D cI ad) cX2_bindingBits 5 RX2 4 98 0) (hr : RetI X (gC D cI ad) cX2_bindingBits 5 0 r σ') (h : fX2_bindingBits_2 F σ a1 = some (r, σ')) : WP X (gC D cI ad) 5 0 0 σ [(0, .ref (ad 66)), (1, .ref (ad 54)), (2, .int a1)] [] := by
  unfold fX2_bindingBits_2 at h
  refine w_iconst C 0 dX2_bindingBits_0 rfl (by decide) ?_
  refine w_istore_n C [(3, .int 0), (0, .ref (ad 66)), (1, .ref (ad 54)), (2, .int a1)] dX2_bindingBits_1 rfl (by decide) rfl ?_
  refine w_iconst C 0 dX2_bindingBits_2 rfl (by decide) ?_
  refine w_istore C [(4, .int 0), (3, .int 0), (0, .ref (ad 66)), (1, .ref (ad 54)), (2, .int a1)] dX2_bindingBits_3 rfl (by decide) rfl ?_
  refine w_sub (lv' := [(4, .int 0), (3, .int 0), (0, .ref (ad 66)), (1, .ref (ad 54)), (2, .int a1)]) [0, 1, 2, 3, 4] rfl ?_
  refine lp_w (fun v1 : St × Int32 × Int32 => WP X (gC D cI ad) 5 0 5 v1.1 [(4, .int v1.2.1), (3, .int v1.2.2), (0, .ref (ad 66)), (1, .ref (ad 54)), (2, .int a1)] []) (fun K2 hK3 v1 h => ?_) F _ h
  refine w_iload C dX2_bindingBits_5 rfl 0 rfl ?_
  refine w_aload_n C dX2_bindingBits_7 rfl 2 rfl ?_
  refine w_get C 66 0 (Nat.le_of_ble_eq_true rfl) rfl rfl inB_X2 (by decide) tw2_39 rfl dX2_bindingBits_8 rfl ?_
  refine w_get C 2 1 (Nat.le_of_ble_eq_true rfl) rfl rfl inB_X0 (by decide) tw1_68 rfl dX2_bindingBits_11 rfl ?_
  refine w_icmp_ge C (qt := 55) dX2_bindingBits_14 (by decide) rfl h (fun _ h => ?_) (fun _ h => ?_)
  · refine w_iload_n C dX2_bindingBits_55 rfl 1 rfl ?_
    exact w_ri2 hr h (by decide) dX2_bindingBits_56
  · refine w_aload_n C dX2_bindingBits_17 rfl 2 rfl ?_
    refine w_aload_n C dX2_bindingBits_18 rfl 3 rfl ?_
    refine w_iload C dX2_bindingBits_19 rfl 0 rfl ?_
    refine w_iload_n C dX2_bindingBits_21 rfl 4 rfl ?_
    refine bd1_w h (fun u4 hc h => ?_)
    refine w_callVv C (n := 3) (As := [.ref (ad 54), .int v1.2.1, .int a1]) (st := []) 66 (Nat.le_of_ble_eq_true rfl) rfl rfl (cfX2_prepare_2 D cI ad (l := X.2.1) C.2.2.1 hc) tw4_92 cy_X2_prepare (by decide +kernel) ⟨Nat.le_of_ble_eq_true rfl, Nat.le_of_ble_eq_true rfl⟩ (by decide) rfl rfl (Nat.le_of_ble_eq_true rfl) dX2_bindingBits_22 rfl ?_
    refine w_aload_n C dX2_bindingBits_25 rfl 3 rfl ?_
    refine w_get C 54 4 (Nat.le_of_ble_eq_true rfl) rfl rfl inB_X9 (by decide) tw1_201 rfl dX2_bindingBits_26 rfl ?_
    refine w_iload C dX2_bindingBits_29 rfl 0 rfl ?_
    refine w_iald C 56 8 0 (Nat.le_of_ble_eq_true rfl) (fun _ => rfl) rfl h dX2_bindingBits_31 rfl (fun h => ?_)
    refine w_if_ne C (qt := 49) dX2_bindingBits_32 (by decide) rfl h (fun _ h => ?_) (fun _ h => ?_)
    · refine w_iinc (j := 0) C (v1.2.1 + 1) [(4, .int (v1.2.1 + 1)), (3, .int v1.2.2), (0, .ref (ad 66)), (1, .ref (ad 54)), (2, .int a1)] dX2_bindingBits_49 rfl rfl rfl (by decide) rfl ?_
      refine w_goto (q := 5) C dX2_bindingBits_52 (by decide) ?_
      exact w_sub (lv' := [(4, .int (v1.2.1 + 1)), (3, .int v1.2.2), (0, .ref (ad 66)), (1, .ref (ad 54)), (2, .int a1)]) [0, 1, 2, 3, 4] rfl (hK3 ((u4, v1.2.1 + 1, v1.2.2)) h)
    · refine w_aload_n C dX2_bindingBits_35 rfl 2 rfl ?_
      refine bd2_w h (fun r5 u6 hc h => ?_)
      refine w_callVi C (n := 0) (As := []) (st := []) 66 (Nat.le_of_ble_eq_true rfl) rfl rfl (cfX2_endsFacing D cI ad (l := X.2.1) C.2.2.1 hc) tw4_109 cy_X2_endsFacing (by decide +kernel) ⟨Nat.le_of_ble_eq_true rfl, Nat.le_of_ble_eq_true rfl⟩ (by decide) rfl rfl (Nat.le_of_ble_eq_true rfl) dX2_bindingBits_36 rfl ?_
      refine w_if_eq C (qt := 49) dX2_bindingBits_39 (by decide) rfl h (fun _ h => ?_) (fun _ h => ?_)
      · refine w_iinc (j := 0) C (v1.2.1 + 1) [(4, .int (v1.2.1 + 1)), (3, .int v1.2.2), (0, .ref (ad 66)), (1, .ref (ad 54)), (2, .int a1)] dX2_bindingBits_49 rfl rfl rfl (by decide) rfl ?_
        refine w_goto (q := 5) C dX2_bindingBits_52 (by decide) ?_
        exact w_sub (lv' := [(4, .int (v1.2.1 + 1)), (3, .int v1.2.2), (0, .ref (ad 66)), (1, .ref (ad 54)), (2, .int a1)]) [0, 1, 2, 3, 4] rfl (hK3 ((u6, v1.2.1 + 1, v1.2.2)) h)
      · refine w_iload_n C dX2_bindingBits_42 rfl 1 rfl ?_
        refine w_iconst C 1 dX2_bindingBits_43 rfl (by decide) ?_
        refine w_iload C dX2_bindingBits_44 rfl 0 rfl ?_
        refine w_ishl C dX2_bindingBits_46 rfl ?_
        refine w_ior C dX2_bindingBits_47 rfl ?_
        refine w_nm h (fun x7 h => ?_)
        refine w_istore_n C [(3, .int x7), (4, .int v1.2.1), (0, .ref (ad 66)), (1, .ref (ad 54)), (2, .int a1)] dX2_bindingBits_48 rfl (by decide) rfl ?_
        refine w_iinc (j := 1) C (v1.2.1 + 1) [(4, .int (v1.2.1 + 1)), (3, .int x7), (0, .ref (ad 66)), (1, .ref (ad 54)), (2, .int a1)] dX2_bindingBits_49 rfl rfl rfl (by decide) rfl ?_
        refine w_goto (q := 5) C dX2_bindingBits_52 (by decide) ?_
        exact w_sub (lv' := [(4, .int (v1.2.1 + 1)), (3, .int x7), (0, .ref (ad 66)), (1, .ref (ad 54)), (2, .int a1)]) [0, 1, 2, 3, 4] rfl (hK3 ((u6, v1.2.1 + 1, x7)) h)
theorem cfX2_bindingBits_2 (D : va_G) (cI : ClassId) (ad : Nat → Nat) {l : Launch} (had : gAp (gC D cI ad)) {F : Nat} {σ : St} {a1 : Int32} {r : Int32} {σ' : St} (h : fX2_bindingBits_2 F σ a1 = some (r, σ')) : MI l yX2_bindingBits (wB yX2_bindingBits cX2_bindingBits 5 (some .int)) 4 98 (gC D cI ad) [.ref (ad 66), .ref (ad 54), .int a1] σ r σ' := mk_MI had (by decide +kernel) (Nat.le_of_ble_eq_true rfl) (fun X hX C hr => wfX2_bindingBits_2 C hr h)

def fX4_draw (F : Nat) (σ : St) (a0 : Int32) : Option (Int32 × St) := nm (up σ 87 3 (((σ 87 3) * 1103515245) + 12345)) fun u2 => if (1 : Int32) ≤ a0 then (ckZ (a0) (some (((ushr (u2 87 3) 16) &&& 32767) - ((ushr (u2 87 3) 16) &&& 32767) / a0 * a0, u2))) else some (0, u2)
set_option maxRecDepth 20000 in
theorem wfX4_draw {X : XT} {D : va_G} {cI : ClassId} {ad : Nat → Nat} {F : Nat} {σ : St} {a0 : Int32} {r : Int32} {σ' : St} (C : Cx X (gC D cI ad) cX4_draw 2 RX4 0 0 0) (hr : RetI X (gC D cI ad) cX4_draw 2 0 r σ') (h : fX4_draw F σ a0 = some (r, σ')) : WP X (gC D cI ad) 2 0 0 σ [(0, .ref (ad 87)), (1, .int a0)] [] := by
  unfold fX4_draw at h
  refine w_aload_n C dX4_draw_0 rfl 0 rfl ?_
  refine w_aload_n C dX4_draw_1 rfl 0 rfl ?_
  refine w_get C 87 3 (Nat.le_of_ble_eq_true rfl) rfl rfl inB_X4 (by decide) tw2_150 rfl dX4_draw_2 rfl ?_
  refine w_ldc C 1103515245 dX4_draw_5 rfl tw6_140 ?_
  refine w_imul C dX4_draw_7 rfl ?_
  refine w_sipush C 12345 dX4_draw_8 rfl (by decide) ?_
  refine w_iadd C dX4_draw_11 rfl ?_
  refine w_put C 87 3 (((σ 87 3) * 1103515245) + 12345) (Nat.le_of_ble_eq_true rfl) rfl rfl inB_X4 tyX4_ok nmX4 (by decide) tw2_150 rfl rfl rfl (Nat.le_of_ble_eq_true rfl) rfl dX4_draw_12 rfl ?_
  refine w_nst h (fun u2 h => ?_)
  refine w_iload_n C dX4_draw_15 rfl 1 rfl ?_
  refine w_iconst C 1 dX4_draw_16 rfl (by decide) ?_
  refine w_icmp_ge C (qt := 24) dX4_draw_17 (by decide) rfl h (fun _ h => ?_) (fun _ h => ?_)
  · refine w_aload_n C dX4_draw_24 rfl 0 rfl ?_
    refine w_get C 87 3 (Nat.le_of_ble_eq_true rfl) rfl rfl inB_X4 (by decide) tw2_150 rfl dX4_draw_25 rfl ?_
    refine w_bipush C 16 dX4_draw_28 rfl (by decide) ?_
    refine w_iushr C dX4_draw_30 rfl ?_
    refine w_sipush C 32767 dX4_draw_31 rfl (by decide) ?_
    refine w_iand C dX4_draw_34 rfl ?_
    refine w_iload_n C dX4_draw_35 rfl 1 rfl ?_
    obtain ⟨hz, h⟩ := ckZ_w h
    refine w_irem C hz dX4_draw_36 rfl ?_
    exact w_ri2 hr h (by decide) dX4_draw_37
  · refine w_iconst C 0 dX4_draw_20 rfl (by decide) ?_
    refine w_goto (q := 37) C dX4_draw_21 (by decide) ?_
    exact w_ri2 hr h (by decide) dX4_draw_37
theorem cfX4_draw (D : va_G) (cI : ClassId) (ad : Nat → Nat) {l : Launch} (had : gAp (gC D cI ad)) {F : Nat} {σ : St} {a0 : Int32} {r : Int32} {σ' : St} (h : fX4_draw F σ a0 = some (r, σ')) : MI l yX4_draw (wB yX4_draw cX4_draw 2 (some .int)) 0 0 (gC D cI ad) [.ref (ad 87), .int a0] σ r σ' := mk_MI had (by decide +kernel) (Nat.le_of_ble_eq_true rfl) (fun X hX C hr => wfX4_draw C hr h)

def fX9_renew_2 (F : Nat) (σ : St) (a0 : Int32) : Option St := ckI (a0) 8 (nm (up σ 55 (Int32.toNatClampNeg a0) (σ 54 0)) fun u1 => ckI (a0) 8 (nm (up u1 56 (Int32.toNatClampNeg a0) 0) fun u2 => some u2))
set_option maxRecDepth 20000 in
theorem wfX9_renew_2 {X : XT} {D : va_G} {cI : ClassId} {ad : Nat → Nat} {F : Nat} {σ : St} {a0 : Int32} {σ' : St} (C : Cx X (gC D cI ad) cX9_renew 2 RX9 0 0 0) (hr : RetV X (gC D cI ad) cX9_renew 2 0 σ') (h : fX9_renew_2 F σ a0 = some σ') : WP X (gC D cI ad) 2 0 0 σ [(0, .ref (ad 54)), (1, .int a0)] [] := by
  unfold fX9_renew_2 at h
  refine w_aload_n C dX9_renew_0 rfl 0 rfl ?_
  refine w_get C 54 3 (Nat.le_of_ble_eq_true rfl) rfl rfl inB_X9 (by decide) tw1_197 rfl dX9_renew_1 rfl ?_
  refine w_iload_n C dX9_renew_4 rfl 1 rfl ?_
  refine w_aload_n C dX9_renew_5 rfl 0 rfl ?_
  refine w_get C 54 0 (Nat.le_of_ble_eq_true rfl) rfl rfl inB_X9 (by decide) tw1_189 rfl dX9_renew_6 rfl ?_
  refine w_iast C 55 8 0 (Nat.le_of_ble_eq_true rfl) (fun _ => rfl) rfl h dX9_renew_9 rfl (fun h => ?_)
  refine w_nst h (fun u1 h => ?_)
  refine w_aload_n C dX9_renew_10 rfl 0 rfl ?_
  refine w_get C 54 4 (Nat.le_of_ble_eq_true rfl) rfl rfl inB_X9 (by decide) tw1_199 rfl dX9_renew_11 rfl ?_
  refine w_iload_n C dX9_renew_14 rfl 1 rfl ?_
  refine w_iconst C 0 dX9_renew_15 rfl (by decide) ?_
  refine w_iast C 56 8 0 (Nat.le_of_ble_eq_true rfl) (fun _ => rfl) rfl h dX9_renew_16 rfl (fun h => ?_)
  refine w_nst h (fun u2 h => ?_)
  exact w_rv hr h (by decide) dX9_renew_17
theorem cfX9_renew_2 (D : va_G) (cI : ClassId) (ad : Nat → Nat) {l : Launch} (had : gAp (gC D cI ad)) {F : Nat} {σ : St} {a0 : Int32} {σ' : St} (h : fX9_renew_2 F σ a0 = some σ') : MV l yX9_renew (wB yX9_renew cX9_renew 2 none) 0 0 (gC D cI ad) [.ref (ad 54), .int a0] σ σ' := mk_MV had (by decide +kernel) (Nat.le_of_ble_eq_true rfl) (fun X hX C hr => wfX9_renew_2 C hr h)

def fX4_drawOne (F : Nat) (σ : St) : Option St := if (σ 2 1) = 0 then (some σ) else bd2 (fX4_draw F σ (σ 2 1)) fun r1 u2 => bd2 (fX4_draw F u2 3) fun r3 u4 => if r3 = 0 then (bd1 (fX9_renew_2 F u4 r1) fun u6 => some u6) else if r3 = (1 : Int32) then (ckI (r1) 8 (nm (up u4 56 (Int32.toNatClampNeg r1) 1) fun u5 => some u5)) else some u4
set_option maxRecDepth 20000 in
theorem wfX4_drawOne {X : XT} {D : va_G} {cI : ClassId} {ad : Nat → Nat} {F : Nat} {σ : St}  {σ' : St} (C : Cx X (gC D cI ad) cX4_drawOne 3 RX4 1 21 0) (hr : RetV X (gC D cI ad) cX4_drawOne 3 0 σ') (h : fX4_drawOne F σ = some σ') : WP X (gC D cI ad) 3 0 0 σ [(0, .ref (ad 87))] [] := by
  unfold fX4_drawOne at h
  refine w_aload_n C dX4_drawOne_0 rfl 0 rfl ?_
  refine w_get C 87 0 (Nat.le_of_ble_eq_true rfl) rfl rfl inB_X4 (by decide) tw2_147 rfl dX4_drawOne_1 rfl ?_
  refine w_get C 2 1 (Nat.le_of_ble_eq_true rfl) rfl rfl inB_X0 (by decide) tw1_64 rfl dX4_drawOne_4 rfl ?_
  refine w_if_ne C (qt := 11) dX4_drawOne_7 (by decide) rfl h (fun _ h => ?_) (fun _ h => ?_)
  · refine w_aload_n C dX4_drawOne_11 rfl 0 rfl ?_
    refine w_aload_n C dX4_drawOne_12 rfl 0 rfl ?_
    refine w_get C 87 0 (Nat.le_of_ble_eq_true rfl) rfl rfl inB_X4 (by decide) tw2_147 rfl dX4_drawOne_13 rfl ?_
    refine w_get C 2 1 (Nat.le_of_ble_eq_true rfl) rfl rfl inB_X0 (by decide) tw1_64 rfl dX4_drawOne_16 rfl ?_
    refine bd2_w h (fun r1 u2 hc h => ?_)
    refine w_callVi C (n := 1) (As := [.int (σ 2 1)]) (st := []) 87 (Nat.le_of_ble_eq_true rfl) rfl rfl (cfX4_draw D cI ad (l := X.2.1) C.2.2.1 hc) tw6_136 cy_X4_draw (by decide +kernel) ⟨Nat.le_of_ble_eq_true rfl, Nat.le_of_ble_eq_true rfl⟩ (by decide) rfl rfl (Nat.le_of_ble_eq_true rfl) dX4_drawOne_19 rfl ?_
    refine w_istore_n C [(1, .int r1), (0, .ref (ad 87))] dX4_drawOne_22 rfl (by decide) rfl ?_
    refine w_aload_n C dX4_drawOne_23 rfl 1 rfl ?_
    refine w_iconst C 3 dX4_drawOne_24 rfl (by decide) ?_
    refine bd2_w h (fun r3 u4 hc h => ?_)
    refine w_callVi C (n := 1) (As := [.int 3]) (st := []) 87 (Nat.le_of_ble_eq_true rfl) rfl rfl (cfX4_draw D cI ad (l := X.2.1) C.2.2.1 hc) tw6_136 cy_X4_draw (by decide +kernel) ⟨Nat.le_of_ble_eq_true rfl, Nat.le_of_ble_eq_true rfl⟩ (by decide) rfl rfl (Nat.le_of_ble_eq_true rfl) dX4_drawOne_25 rfl ?_
    refine w_istore_n C [(2, .int r3), (1, .int r1), (0, .ref (ad 87))] dX4_drawOne_28 rfl (by decide) rfl ?_
    refine w_iload_n C dX4_drawOne_29 rfl 0 rfl ?_
    refine w_if_ne C (qt := 44) dX4_drawOne_30 (by decide) rfl h (fun _ h => ?_) (fun _ h => ?_)
    · refine w_iload_n C dX4_drawOne_44 rfl 0 rfl ?_
      refine w_iconst C 1 dX4_drawOne_45 rfl (by decide) ?_
      refine w_icmp_ne C (qt := 59) dX4_drawOne_46 (by decide) rfl h (fun _ h => ?_) (fun _ h => ?_)
      · exact w_rv hr h (by decide) dX4_drawOne_59
      · refine w_aload_n C dX4_drawOne_49 rfl 2 rfl ?_
        refine w_get C 87 1 (Nat.le_of_ble_eq_true rfl) rfl rfl inB_X4 (by decide) tw2_148 rfl dX4_drawOne_50 rfl ?_
        refine w_get C 54 4 (Nat.le_of_ble_eq_true rfl) rfl rfl inB_X9 (by decide) tw1_200 rfl dX4_drawOne_53 rfl ?_
        refine w_iload_n C dX4_drawOne_56 rfl 1 rfl ?_
        refine w_iconst C 1 dX4_drawOne_57 rfl (by decide) ?_
        refine w_iast C 56 8 0 (Nat.le_of_ble_eq_true rfl) (fun _ => rfl) rfl h dX4_drawOne_58 rfl (fun h => ?_)
        refine w_nst h (fun u5 h => ?_)
        exact w_rv hr h (by decide) dX4_drawOne_59
    · refine w_aload_n C dX4_drawOne_33 rfl 2 rfl ?_
      refine w_get C 87 1 (Nat.le_of_ble_eq_true rfl) rfl rfl inB_X4 (by decide) tw2_148 rfl dX4_drawOne_34 rfl ?_
      refine w_iload_n C dX4_drawOne_37 rfl 1 rfl ?_
      refine bd1_w h (fun u6 hc h => ?_)
      refine w_callVv C (n := 1) (As := [.int r1]) (st := []) 54 (Nat.le_of_ble_eq_true rfl) rfl rfl (cfX9_renew_2 D cI ad (l := X.2.1) C.2.2.1 hc) tw6_141 cy_X9_renew (by decide +kernel) ⟨Nat.le_of_ble_eq_true rfl, Nat.le_of_ble_eq_true rfl⟩ (by decide) rfl rfl (Nat.le_of_ble_eq_true rfl) dX4_drawOne_38 rfl ?_
      refine w_goto (q := 59) C dX4_drawOne_41 (by decide) ?_
      exact w_rv hr h (by decide) dX4_drawOne_59
  · exact w_rv hr h (by decide) dX4_drawOne_10
theorem cfX4_drawOne (D : va_G) (cI : ClassId) (ad : Nat → Nat) {l : Launch} (had : gAp (gC D cI ad)) {F : Nat} {σ : St}  {σ' : St} (h : fX4_drawOne F σ = some σ') : MV l yX4_drawOne (wB yX4_drawOne cX4_drawOne 3 none) 1 21 (gC D cI ad) [.ref (ad 87)] σ σ' := mk_MV had (by decide +kernel) (Nat.le_of_ble_eq_true rfl) (fun X hX C hr => wfX4_drawOne C hr h)

def fX4_pass (F : Nat) (σ : St) (a0 : Int32) (a1 : Int32) : Option St := nm (up σ 87 3 a0) fun u2 => nm (up u2 87 6 0) fun u4 => bd2 (fX2_bindingBits_2 F u4 0) fun r5 u6 => bd1 (fJ6_bitCount_0f7a4 F u6 r5) fun r7 => nm (up u6 87 4 r7) fun u9 => nm (up u9 87 5 (u9 87 4)) fun u11 => lp (fun (K13 : (St × Int32) → Option St) (v12 : St × Int32) => if a1 ≤ v12.2 then (some v12.1) else nm (up v12.1 54 0 ((v12.1 54 0) + 1)) fun u16 => bd1 (fX4_drawOne F u16) fun u17 => bd2 (fX2_bindingBits_2 F u17 0) fun r18 u19 => bd1 (fJ6_bitCount_0f7a4 F u19 r18) fun r20 => nm (up u19 87 4 r20) fun u22 => jn (fun v23 : Int32 => nm (up u22 87 5 v23) fun u27 => if (u27 87 4) = (u27 2 1) then (nm (up u27 87 6 ((u27 87 6) + 1)) fun u31 => K13 ((u31, v12.2 + 1))) else nm (up u27 87 6 ((u27 87 6) + 0)) fun u29 => K13 ((u29, v12.2 + 1))) fun J24 => if v12.2 = 0 then (J24 (u22 87 4)) else J24 (if (u22 87 4) < (u22 87 5) then (u22 87 4) else (u22 87 5))) F ((u11, 0))
set_option maxRecDepth 20000 in
theorem wfX4_pass {X : XT} {D : va_G} {cI : ClassId} {ad : Nat → Nat} {F : Nat} {σ : St} {a0 : Int32} {a1 : Int32} {σ' : St} (C : Cx X (gC D cI ad) cX4_pass 4 RX4 5 122 0) (hr : RetV X (gC D cI ad) cX4_pass 4 0 σ') (h : fX4_pass F σ a0 a1 = some σ') : WP X (gC D cI ad) 4 0 0 σ [(0, .ref (ad 87)), (1, .int a0), (2, .int a1)] [] := by
  unfold fX4_pass at h
  refine w_aload_n C dX4_pass_0 rfl 0 rfl ?_
  refine w_iload_n C dX4_pass_1 rfl 1 rfl ?_
  refine w_put C 87 3 a0 (Nat.le_of_ble_eq_true rfl) rfl rfl inB_X4 tyX4_ok nmX4 (by decide) tw2_150 rfl rfl rfl (Nat.le_of_ble_eq_true rfl) rfl dX4_pass_2 rfl ?_
  refine w_nst h (fun u2 h => ?_)
  refine w_aload_n C dX4_pass_5 rfl 0 rfl ?_
  refine w_iconst C 0 dX4_pass_6 rfl (by decide) ?_
  refine w_put C 87 6 0 (Nat.le_of_ble_eq_true rfl) rfl rfl inB_X4 tyX4_ok nmX4 (by decide) tw2_155 rfl rfl rfl (Nat.le_of_ble_eq_true rfl) rfl dX4_pass_7 rfl ?_
  refine w_nst h (fun u4 h => ?_)
  refine w_aload_n C dX4_pass_10 rfl 0 rfl ?_
  refine w_aload_n C dX4_pass_11 rfl 0 rfl ?_
  refine w_get C 87 2 (Nat.le_of_ble_eq_true rfl) rfl rfl inB_X4 (by decide) tw2_149 rfl dX4_pass_12 rfl ?_
  refine w_aload_n C dX4_pass_15 rfl 0 rfl ?_
  refine w_get C 87 1 (Nat.le_of_ble_eq_true rfl) rfl rfl inB_X4 (by decide) tw2_148 rfl dX4_pass_16 rfl ?_
  refine w_iconst C 0 dX4_pass_19 rfl (by decide) ?_
  refine bd2_w h (fun r5 u6 hc h => ?_)
  refine w_callVi C (n := 2) (As := [.ref (ad 54), .int 0]) (st := [.ref (ad 87)]) 66 (Nat.le_of_ble_eq_true rfl) rfl rfl (cfX2_bindingBits_2 D cI ad (l := X.2.1) C.2.2.1 hc) tw6_130 cy_X2_bindingBits (by decide +kernel) ⟨Nat.le_of_ble_eq_true rfl, Nat.le_of_ble_eq_true rfl⟩ (by decide) rfl rfl (Nat.le_of_ble_eq_true rfl) dX4_pass_20 rfl ?_
  refine bd1_w h (fun r7 hc h => ?_)
  refine w_callSi C (n := 1) (As := [.int r5]) (st := [.ref (ad 87)]) (cfJ6_bitCount_0f7a4 D cI ad (l := X.2.1) C.2.2.1 hc) tw6_131 cs_J6_bitCount_0f7a4 (by decide +kernel) ⟨Nat.le_of_ble_eq_true rfl, Nat.le_of_ble_eq_true rfl⟩ (by decide) rfl rfl (Nat.le_of_ble_eq_true rfl) dX4_pass_23 rfl ?_
  refine w_put C 87 4 r7 (Nat.le_of_ble_eq_true rfl) rfl rfl inB_X4 tyX4_ok nmX4 (by decide) tw2_151 rfl rfl rfl (Nat.le_of_ble_eq_true rfl) rfl dX4_pass_26 rfl ?_
  refine w_nst h (fun u9 h => ?_)
  refine w_aload_n C dX4_pass_29 rfl 0 rfl ?_
  refine w_aload_n C dX4_pass_30 rfl 0 rfl ?_
  refine w_get C 87 4 (Nat.le_of_ble_eq_true rfl) rfl rfl inB_X4 (by decide) tw2_151 rfl dX4_pass_31 rfl ?_
  refine w_put C 87 5 (u9 87 4) (Nat.le_of_ble_eq_true rfl) rfl rfl inB_X4 tyX4_ok nmX4 (by decide) tw2_153 rfl rfl rfl (Nat.le_of_ble_eq_true rfl) rfl dX4_pass_34 rfl ?_
  refine w_nst h (fun u11 h => ?_)
  refine w_iconst C 0 dX4_pass_37 rfl (by decide) ?_
  refine w_istore_n C [(3, .int 0), (0, .ref (ad 87)), (1, .int a0), (2, .int a1)] dX4_pass_38 rfl (by decide) rfl ?_
  refine w_sub (lv' := [(3, .int 0), (0, .ref (ad 87)), (2, .int a1)]) [0, 1, 3] rfl ?_
  refine lp_w (fun v12 : St × Int32 => WP X (gC D cI ad) 4 0 39 v12.1 [(3, .int v12.2), (0, .ref (ad 87)), (2, .int a1)] []) (fun K13 hK14 v12 h => ?_) F _ h
  refine w_iload_n C dX4_pass_39 rfl 0 rfl ?_
  refine w_iload_n C dX4_pass_40 rfl 2 rfl ?_
  refine w_icmp_ge C (qt := 140) dX4_pass_41 (by decide) rfl h (fun _ h => ?_) (fun _ h => ?_)
  · exact w_rv hr h (by decide) dX4_pass_140
  · refine w_aload_n C dX4_pass_44 rfl 1 rfl ?_
    refine w_get C 87 1 (Nat.le_of_ble_eq_true rfl) rfl rfl inB_X4 (by decide) tw2_148 rfl dX4_pass_45 rfl ?_
    refine w_dup C rfl dX4_pass_48 rfl ?_
    refine w_get C 54 0 (Nat.le_of_ble_eq_true rfl) rfl rfl inB_X9 (by decide) tw1_190 rfl dX4_pass_49 rfl ?_
    refine w_iconst C 1 dX4_pass_52 rfl (by decide) ?_
    refine w_iadd C dX4_pass_53 rfl ?_
    refine w_put C 54 0 ((v12.1 54 0) + 1) (Nat.le_of_ble_eq_true rfl) rfl rfl inB_X9 tyX9_ok nmX9 (by decide) tw1_190 rfl rfl rfl (Nat.le_of_ble_eq_true rfl) rfl dX4_pass_54 rfl ?_
    refine w_nst h (fun u16 h => ?_)
    refine w_aload_n C dX4_pass_57 rfl 1 rfl ?_
    refine bd1_w h (fun u17 hc h => ?_)
    refine w_callVv C (n := 0) (As := []) (st := []) 87 (Nat.le_of_ble_eq_true rfl) rfl rfl (cfX4_drawOne D cI ad (l := X.2.1) C.2.2.1 hc) tw6_132 cy_X4_drawOne (by decide +kernel) ⟨Nat.le_of_ble_eq_true rfl, Nat.le_of_ble_eq_true rfl⟩ (by decide) rfl rfl (Nat.le_of_ble_eq_true rfl) dX4_pass_58 rfl ?_
    refine w_aload_n C dX4_pass_61 rfl 1 rfl ?_
    refine w_aload_n C dX4_pass_62 rfl 1 rfl ?_
    refine w_get C 87 2 (Nat.le_of_ble_eq_true rfl) rfl rfl inB_X4 (by decide) tw2_149 rfl dX4_pass_63 rfl ?_
    refine w_aload_n C dX4_pass_66 rfl 1 rfl ?_
    refine w_get C 87 1 (Nat.le_of_ble_eq_true rfl) rfl rfl inB_X4 (by decide) tw2_148 rfl dX4_pass_67 rfl ?_
    refine w_iconst C 0 dX4_pass_70 rfl (by decide) ?_
    refine bd2_w h (fun r18 u19 hc h => ?_)
    refine w_callVi C (n := 2) (As := [.ref (ad 54), .int 0]) (st := [.ref (ad 87)]) 66 (Nat.le_of_ble_eq_true rfl) rfl rfl (cfX2_bindingBits_2 D cI ad (l := X.2.1) C.2.2.1 hc) tw6_130 cy_X2_bindingBits (by decide +kernel) ⟨Nat.le_of_ble_eq_true rfl, Nat.le_of_ble_eq_true rfl⟩ (by decide) rfl rfl (Nat.le_of_ble_eq_true rfl) dX4_pass_71 rfl ?_
    refine bd1_w h (fun r20 hc h => ?_)
    refine w_callSi C (n := 1) (As := [.int r18]) (st := [.ref (ad 87)]) (cfJ6_bitCount_0f7a4 D cI ad (l := X.2.1) C.2.2.1 hc) tw6_131 cs_J6_bitCount_0f7a4 (by decide +kernel) ⟨Nat.le_of_ble_eq_true rfl, Nat.le_of_ble_eq_true rfl⟩ (by decide) rfl rfl (Nat.le_of_ble_eq_true rfl) dX4_pass_74 rfl ?_
    refine w_put C 87 4 r20 (Nat.le_of_ble_eq_true rfl) rfl rfl inB_X4 tyX4_ok nmX4 (by decide) tw2_151 rfl rfl rfl (Nat.le_of_ble_eq_true rfl) rfl dX4_pass_77 rfl ?_
    refine w_nst h (fun u22 h => ?_)
    refine w_aload_n C dX4_pass_80 rfl 1 rfl ?_
    refine w_iload_n C dX4_pass_81 rfl 0 rfl ?_
    refine jn_w (fun v23 : Int32 => WP X (gC D cI ad) 4 0 103 u22 [(3, .int v12.2), (0, .ref (ad 87)), (2, .int a1)] [.int v23, .ref (ad 87)]) h (fun v23 h => ?_) (fun J24 hJ25 h => ?_)
    · refine w_put C 87 5 v23 (Nat.le_of_ble_eq_true rfl) rfl rfl inB_X4 tyX4_ok nmX4 (by decide) tw2_153 rfl rfl rfl (Nat.le_of_ble_eq_true rfl) rfl dX4_pass_103 rfl ?_
      refine w_nst h (fun u27 h => ?_)
      refine w_aload_n C dX4_pass_106 rfl 1 rfl ?_
      refine w_dup C rfl dX4_pass_107 rfl ?_
      refine w_get C 87 6 (Nat.le_of_ble_eq_true rfl) rfl rfl inB_X4 (by decide) tw2_155 rfl dX4_pass_108 rfl ?_
      refine w_aload_n C dX4_pass_111 rfl 1 rfl ?_
      refine w_get C 87 4 (Nat.le_of_ble_eq_true rfl) rfl rfl inB_X4 (by decide) tw2_151 rfl dX4_pass_112 rfl ?_
      refine w_aload_n C dX4_pass_115 rfl 1 rfl ?_
      refine w_get C 87 0 (Nat.le_of_ble_eq_true rfl) rfl rfl inB_X4 (by decide) tw2_147 rfl dX4_pass_116 rfl ?_
      refine w_get C 2 1 (Nat.le_of_ble_eq_true rfl) rfl rfl inB_X0 (by decide) tw1_64 rfl dX4_pass_119 rfl ?_
      refine w_icmp_ne C (qt := 129) dX4_pass_122 (by decide) rfl h (fun _ h => ?_) (fun _ h => ?_)
      · refine w_iconst C 0 dX4_pass_129 rfl (by decide) ?_
        refine w_iadd C dX4_pass_130 rfl ?_
        refine w_put C 87 6 ((u27 87 6) + 0) (Nat.le_of_ble_eq_true rfl) rfl rfl inB_X4 tyX4_ok nmX4 (by decide) tw2_155 rfl rfl rfl (Nat.le_of_ble_eq_true rfl) rfl dX4_pass_131 rfl ?_
        refine w_nst h (fun u29 h => ?_)
        refine w_iinc (j := 0) C (v12.2 + 1) [(3, .int (v12.2 + 1)), (0, .ref (ad 87)), (2, .int a1)] dX4_pass_134 rfl rfl rfl (by decide) rfl ?_
        refine w_goto (q := 39) C dX4_pass_137 (by decide) ?_
        exact w_sub (lv' := [(3, .int (v12.2 + 1)), (0, .ref (ad 87)), (2, .int a1)]) [0, 1, 2] rfl (hK14 ((u29, v12.2 + 1)) h)
      · refine w_iconst C 1 dX4_pass_125 rfl (by decide) ?_
        refine w_goto (q := 130) C dX4_pass_126 (by decide) ?_
        refine w_iadd C dX4_pass_130 rfl ?_
        refine w_put C 87 6 ((u27 87 6) + 1) (Nat.le_of_ble_eq_true rfl) rfl rfl inB_X4 tyX4_ok nmX4 (by decide) tw2_155 rfl rfl rfl (Nat.le_of_ble_eq_true rfl) rfl dX4_pass_131 rfl ?_
        refine w_nst h (fun u31 h => ?_)
        refine w_iinc (j := 0) C (v12.2 + 1) [(3, .int (v12.2 + 1)), (0, .ref (ad 87)), (2, .int a1)] dX4_pass_134 rfl rfl rfl (by decide) rfl ?_
        refine w_goto (q := 39) C dX4_pass_137 (by decide) ?_
        exact w_sub (lv' := [(3, .int (v12.2 + 1)), (0, .ref (ad 87)), (2, .int a1)]) [0, 1, 2] rfl (hK14 ((u31, v12.2 + 1)) h)
    · refine w_if_ne C (qt := 92) dX4_pass_82 (by decide) rfl h (fun _ h => ?_) (fun _ h => ?_)
      · refine w_aload_n C dX4_pass_92 rfl 1 rfl ?_
        refine w_get C 87 5 (Nat.le_of_ble_eq_true rfl) rfl rfl inB_X4 (by decide) tw2_153 rfl dX4_pass_93 rfl ?_
        refine w_aload_n C dX4_pass_96 rfl 1 rfl ?_
        refine w_get C 87 4 (Nat.le_of_ble_eq_true rfl) rfl rfl inB_X4 (by decide) tw2_151 rfl dX4_pass_97 rfl ?_
        refine w_mmin C (all4 tw6_142 tw3_112 tw1_17 tw3_113) ⟨Nat.le_of_ble_eq_true rfl, Nat.le_of_ble_eq_true rfl⟩ (by decide) dX4_pass_100 rfl ?_
        exact w_sub (lv' := [(3, .int v12.2), (0, .ref (ad 87)), (2, .int a1)]) [0, 1, 2] rfl (hJ25 (if (u22 87 4) < (u22 87 5) then (u22 87 4) else (u22 87 5)) h)
      · refine w_aload_n C dX4_pass_85 rfl 1 rfl ?_
        refine w_get C 87 4 (Nat.le_of_ble_eq_true rfl) rfl rfl inB_X4 (by decide) tw2_151 rfl dX4_pass_86 rfl ?_
        refine w_goto (q := 103) C dX4_pass_89 (by decide) ?_
        exact w_sub (lv' := [(3, .int v12.2), (0, .ref (ad 87)), (2, .int a1)]) [0, 1, 2] rfl (hJ25 (u22 87 4) h)
theorem cfX4_pass (D : va_G) (cI : ClassId) (ad : Nat → Nat) {l : Launch} (had : gAp (gC D cI ad)) {F : Nat} {σ : St} {a0 : Int32} {a1 : Int32} {σ' : St} (h : fX4_pass F σ a0 a1 = some σ') : MV l yX4_pass (wB yX4_pass cX4_pass 4 none) 5 122 (gC D cI ad) [.ref (ad 87), .int a0, .int a1] σ σ' := mk_MV had (by decide +kernel) (Nat.le_of_ble_eq_true rfl) (fun X hX C hr => wfX4_pass C hr h)

def fX10_century (F : Nat) (σ : St) (a0 : Int32) (a1 : Int32) (a2 : Int32) : Option (Nat × Int32 × St) := bd1 (fX10_checkBelow F σ a2 3) fun t1 => if t1 = 0 then (jn (fun v2 : Unit => some (2, 0, σ)) fun J3 => if a1 < 0 then (J3 (())) else if a1 ≤ (40 : Int32) then (bd1 (fX9_become F σ) fun u5 => bd1 (fX4_pass F u5 a0 a1) fun u6 => if a2 = 0 then (some (0, u6 87 4, u6)) else if a2 = (1 : Int32) then (some (0, u6 87 5, u6)) else some (0, u6 87 6, u6)) else J3 (())) else some (t1, 0, σ)
set_option maxRecDepth 20000 in
theorem wfX10_century {X : XT} {D : va_G} {cI : ClassId} {ad : Nat → Nat} {F : Nat} {σ : St} {a0 : Int32} {a1 : Int32} {a2 : Int32} {res : Nat × Int32 × St} (C : Cx X (gC D cI ad) cX10_century 4 RX10 8 145 2) (hr : RetXi X (gC D cI ad) cX10_century 4 2 res) (hx : ThrX X (gC D cI ad) cX10_century 4 2 res) (h : fX10_century F σ a0 a1 a2 = some res) : WP X (gC D cI ad) 4 0 0 σ [(0, .ref (ad 0)), (1, .int a0), (2, .int a1), (3, .int a2)] [] := by
  unfold fX10_century at h
  refine w_aload_n C dX10_century_0 rfl 0 rfl ?_
  refine w_iload_n C dX10_century_1 rfl 3 rfl ?_
  refine w_iconst C 3 dX10_century_2 rfl (by decide) ?_
  refine bd1_w h (fun t1 hc h => ?_)
  refine w_callX C hx (n := 2) (As := [.int a2, .int 3]) (st := []) 0 (Nat.le_of_ble_eq_true rfl) rfl rfl (cfX10_checkBelow D cI ad (l := X.2.1) C.2.2.1 hx.1 hc) tw5_51 cy_X10_checkBelow (by decide +kernel) ⟨by decide, by decide⟩ (by decide) rfl rfl (Nat.le_of_ble_eq_true rfl) dX10_century_3 rfl h (fun h => ?_)
  refine w_iload_n C dX10_century_6 rfl 2 rfl ?_
  refine jn_w (fun v2 : Unit => WP X (gC D cI ad) 4 1 16 σ [] []) h (fun v2 h => ?_) (fun J3 hJ4 h => ?_)
  · exact w_thrW2 hx (tx := "not 0 to 40 years") 108 (by decide) h (by decide) dX10_century_16 dX10_century_19 dX10_century_20 dX10_century_23 dX10_century_26
  · refine w_if_lt C (qt := 16) dX10_century_7 (by decide) rfl h (fun _ h => ?_) (fun _ h => ?_)
    · exact w_sub (lv' := []) [] rfl (hJ4 (()) h)
    · refine w_iload_n C dX10_century_10 rfl 2 rfl ?_
      refine w_bipush C 40 dX10_century_11 rfl (by decide) ?_
      refine w_icmp_le C (qt := 27) dX10_century_13 (by decide) rfl h (fun _ h => ?_) (fun _ h => ?_)
      · refine w_aload_n C dX10_century_27 rfl 0 rfl ?_
        refine w_get C 0 9 (Nat.le_of_ble_eq_true rfl) rfl rfl inB_X10 (by decide) tw2_181 rfl dX10_century_28 rfl ?_
        refine w_aload_n C dX10_century_31 rfl 0 rfl ?_
        refine w_get C 0 7 (Nat.le_of_ble_eq_true rfl) rfl rfl inB_X10 (by decide) tw2_179 rfl dX10_century_32 rfl ?_
        refine bd1_w h (fun u5 hc h => ?_)
        refine w_callVv C (n := 1) (As := [.ref (ad 30)]) (st := []) 54 (Nat.le_of_ble_eq_true rfl) rfl rfl (cfX9_become D cI ad (l := X.2.1) C.2.2.1 hc) tw3_24 cy_X9_become (by decide +kernel) ⟨Nat.le_of_ble_eq_true rfl, Nat.le_of_ble_eq_true rfl⟩ (by decide) rfl rfl (Nat.le_of_ble_eq_true rfl) dX10_century_35 rfl ?_
        refine w_aload_n C dX10_century_38 rfl 0 rfl ?_
        refine w_get C 0 14 (Nat.le_of_ble_eq_true rfl) rfl rfl inB_X10 (by decide) tw2_186 rfl dX10_century_39 rfl ?_
        refine w_iload_n C dX10_century_42 rfl 1 rfl ?_
        refine w_iload_n C dX10_century_43 rfl 2 rfl ?_
        refine bd1_w h (fun u6 hc h => ?_)
        refine w_callVv C (n := 2) (As := [.int a0, .int a1]) (st := []) 87 (Nat.le_of_ble_eq_true rfl) rfl rfl (cfX4_pass D cI ad (l := X.2.1) C.2.2.1 hc) tw6_126 cy_X4_pass (by decide +kernel) ⟨Nat.le_of_ble_eq_true rfl, Nat.le_of_ble_eq_true rfl⟩ (by decide) rfl rfl (Nat.le_of_ble_eq_true rfl) dX10_century_44 rfl ?_
        refine w_iload_n C dX10_century_47 rfl 3 rfl ?_
        refine w_if_ne C (qt := 59) dX10_century_48 (by decide) rfl h (fun _ h => ?_) (fun _ h => ?_)
        · refine w_iload_n C dX10_century_59 rfl 3 rfl ?_
          refine w_iconst C 1 dX10_century_60 rfl (by decide) ?_
          refine w_icmp_ne C (qt := 74) dX10_century_61 (by decide) rfl h (fun _ h => ?_) (fun _ h => ?_)
          · refine w_aload_n C dX10_century_74 rfl 0 rfl ?_
            refine w_get C 0 14 (Nat.le_of_ble_eq_true rfl) rfl rfl inB_X10 (by decide) tw2_186 rfl dX10_century_75 rfl ?_
            refine w_get C 87 6 (Nat.le_of_ble_eq_true rfl) rfl rfl inB_X4 (by decide) tw2_156 rfl dX10_century_78 rfl ?_
            exact w_rxi hr h (by decide) dX10_century_81
          · refine w_aload_n C dX10_century_64 rfl 0 rfl ?_
            refine w_get C 0 14 (Nat.le_of_ble_eq_true rfl) rfl rfl inB_X10 (by decide) tw2_186 rfl dX10_century_65 rfl ?_
            refine w_get C 87 5 (Nat.le_of_ble_eq_true rfl) rfl rfl inB_X4 (by decide) tw2_154 rfl dX10_century_68 rfl ?_
            refine w_goto (q := 81) C dX10_century_71 (by decide) ?_
            exact w_rxi hr h (by decide) dX10_century_81
        · refine w_aload_n C dX10_century_51 rfl 0 rfl ?_
          refine w_get C 0 14 (Nat.le_of_ble_eq_true rfl) rfl rfl inB_X10 (by decide) tw2_186 rfl dX10_century_52 rfl ?_
          refine w_get C 87 4 (Nat.le_of_ble_eq_true rfl) rfl rfl inB_X4 (by decide) tw2_152 rfl dX10_century_55 rfl ?_
          exact w_rxi hr h (by decide) dX10_century_58
      · exact w_sub (lv' := []) [] rfl (hJ4 (()) h)
theorem cfX10_century (D : va_G) (cI : ClassId) (ad : Nat → Nat) {l : Launch} (had : gAp (gC D cI ad)) (hst : l.stackTraces = false) {F : Nat} {σ : St} {a0 : Int32} {a1 : Int32} {a2 : Int32} {res : Nat × Int32 × St} (h : fX10_century F σ a0 a1 a2 = some res) : MX l yX10_century (wB yX10_century cX10_century 4 (some .int)) 8 145 2 (gC D cI ad) [.ref (ad 0), .int a0, .int a1, .int a2] σ res := mk_MX had (by decide +kernel) (Nat.le_of_ble_eq_true rfl) hst rfl (by decide) (by decide) (fun X hX C hr hx => wfX10_century C hr hx h)

def fX9_become_2 (F : Nat) (σ : St) : Option St := nm (up σ 42 0 (σ 30 0)) fun u2 => nm (up u2 42 1 (u2 30 1)) fun u4 => nm (up u4 42 2 (u4 30 2)) fun u6 => nm (acp u6 31 0 43 0 8) fun u7 => nm (acp u7 32 0 44 0 8) fun u8 => nm (acp u8 33 0 45 0 80) fun u9 => nm (acp u9 34 0 46 0 48) fun u10 => nm (acp u10 35 0 47 0 160) fun u11 => nm (acp u11 36 0 48 0 8) fun u12 => nm (acp u12 37 0 49 0 8) fun u13 => nm (acp u13 38 0 50 0 8) fun u14 => nm (acp u14 39 0 51 0 8) fun u15 => nm (acp u15 40 0 52 0 8) fun u16 => nm (acp u16 41 0 53 0 3) fun u17 => some u17
set_option maxRecDepth 20000 in
theorem wfX9_become_2 {X : XT} {D : va_G} {cI : ClassId} {ad : Nat → Nat} {F : Nat} {σ : St}  {σ' : St} (C : Cx X (gC D cI ad) cX9_become 2 RX9 1 40 0) (hr : RetV X (gC D cI ad) cX9_become 2 0 σ') (h : fX9_become_2 F σ = some σ') : WP X (gC D cI ad) 2 0 0 σ [(0, .ref (ad 42)), (1, .ref (ad 30))] [] := by
  unfold fX9_become_2 at h
  refine w_aload_n C dX9_become_0 rfl 0 rfl ?_
  refine w_aload_n C dX9_become_1 rfl 1 rfl ?_
  refine w_get C 30 0 (Nat.le_of_ble_eq_true rfl) rfl rfl inB_X9 (by decide) tw1_189 rfl dX9_become_2 rfl ?_
  refine w_put C 42 0 (σ 30 0) (Nat.le_of_ble_eq_true rfl) rfl rfl inB_X9 tyX9_ok nmX9 (by decide) tw1_189 rfl rfl rfl (Nat.le_of_ble_eq_true rfl) rfl dX9_become_5 rfl ?_
  refine w_nst h (fun u2 h => ?_)
  refine w_aload_n C dX9_become_8 rfl 0 rfl ?_
  refine w_aload_n C dX9_become_9 rfl 1 rfl ?_
  refine w_get C 30 1 (Nat.le_of_ble_eq_true rfl) rfl rfl inB_X9 (by decide) tw1_192 rfl dX9_become_10 rfl ?_
  refine w_put C 42 1 (u2 30 1) (Nat.le_of_ble_eq_true rfl) rfl rfl inB_X9 tyX9_ok nmX9 (by decide) tw1_192 rfl rfl rfl (Nat.le_of_ble_eq_true rfl) rfl dX9_become_13 rfl ?_
  refine w_nst h (fun u4 h => ?_)
  refine w_aload_n C dX9_become_16 rfl 0 rfl ?_
  refine w_aload_n C dX9_become_17 rfl 1 rfl ?_
  refine w_get C 30 2 (Nat.le_of_ble_eq_true rfl) rfl rfl inB_X9 (by decide) tw1_194 rfl dX9_become_18 rfl ?_
  refine w_put C 42 2 (u4 30 2) (Nat.le_of_ble_eq_true rfl) rfl rfl inB_X9 tyX9_ok nmX9 (by decide) tw1_194 rfl rfl rfl (Nat.le_of_ble_eq_true rfl) rfl dX9_become_21 rfl ?_
  refine w_nst h (fun u6 h => ?_)
  refine w_aload_n C dX9_become_24 rfl 1 rfl ?_
  refine w_get C 30 3 (Nat.le_of_ble_eq_true rfl) rfl rfl inB_X9 (by decide) tw1_197 rfl dX9_become_25 rfl ?_
  refine w_iconst C 0 dX9_become_28 rfl (by decide) ?_
  refine w_aload_n C dX9_become_29 rfl 0 rfl ?_
  refine w_get C 42 3 (Nat.le_of_ble_eq_true rfl) rfl rfl inB_X9 (by decide) tw1_197 rfl dX9_become_30 rfl ?_
  refine w_iconst C 0 dX9_become_33 rfl (by decide) ?_
  refine w_bipush C 8 dX9_become_34 rfl (by decide) ?_
  refine w_acopy C 31 43 8 8 0 0 0 8 (all4 tw3_2 tw3_4 tw3_3 tw1_22) (Nat.le_of_ble_eq_true rfl) (Nat.le_of_ble_eq_true rfl) (fun _ => rfl) (fun _ => rfl) rfl ⟨by decide, by decide⟩ ⟨by decide, by decide⟩ ⟨by decide, by decide⟩ (by decide) (by decide) ⟨Nat.le_of_ble_eq_true rfl, Nat.le_of_ble_eq_true rfl⟩ dX9_become_36 rfl ?_
  refine w_nst h (fun u7 h => ?_)
  refine w_aload_n C dX9_become_39 rfl 1 rfl ?_
  refine w_get C 30 4 (Nat.le_of_ble_eq_true rfl) rfl rfl inB_X9 (by decide) tw1_199 rfl dX9_become_40 rfl ?_
  refine w_iconst C 0 dX9_become_43 rfl (by decide) ?_
  refine w_aload_n C dX9_become_44 rfl 0 rfl ?_
  refine w_get C 42 4 (Nat.le_of_ble_eq_true rfl) rfl rfl inB_X9 (by decide) tw1_199 rfl dX9_become_45 rfl ?_
  refine w_iconst C 0 dX9_become_48 rfl (by decide) ?_
  refine w_bipush C 8 dX9_become_49 rfl (by decide) ?_
  refine w_acopy C 32 44 8 8 0 0 0 8 (all4 tw3_2 tw3_4 tw3_3 tw1_22) (Nat.le_of_ble_eq_true rfl) (Nat.le_of_ble_eq_true rfl) (fun _ => rfl) (fun _ => rfl) rfl ⟨by decide, by decide⟩ ⟨by decide, by decide⟩ ⟨by decide, by decide⟩ (by decide) (by decide) ⟨Nat.le_of_ble_eq_true rfl, Nat.le_of_ble_eq_true rfl⟩ dX9_become_51 rfl ?_
  refine w_nst h (fun u8 h => ?_)
  refine w_aload_n C dX9_become_54 rfl 1 rfl ?_
  refine w_get C 30 5 (Nat.le_of_ble_eq_true rfl) rfl rfl inB_X9 (by decide) tw1_203 rfl dX9_become_55 rfl ?_
  refine w_iconst C 0 dX9_become_58 rfl (by decide) ?_
  refine w_aload_n C dX9_become_59 rfl 0 rfl ?_
  refine w_get C 42 5 (Nat.le_of_ble_eq_true rfl) rfl rfl inB_X9 (by decide) tw1_203 rfl dX9_become_60 rfl ?_
  refine w_iconst C 0 dX9_become_63 rfl (by decide) ?_
  refine w_bipush C 80 dX9_become_64 rfl (by decide) ?_
  refine w_acopy C 33 45 80 80 0 0 0 80 (all4 tw3_2 tw3_4 tw3_3 tw1_22) (Nat.le_of_ble_eq_true rfl) (Nat.le_of_ble_eq_true rfl) (fun _ => rfl) (fun _ => rfl) rfl ⟨by decide, by decide⟩ ⟨by decide, by decide⟩ ⟨by decide, by decide⟩ (by decide) (by decide) ⟨Nat.le_of_ble_eq_true rfl, Nat.le_of_ble_eq_true rfl⟩ dX9_become_66 rfl ?_
  refine w_nst h (fun u9 h => ?_)
  refine w_aload_n C dX9_become_69 rfl 1 rfl ?_
  refine w_get C 30 6 (Nat.le_of_ble_eq_true rfl) rfl rfl inB_X9 (by decide) tw1_207 rfl dX9_become_70 rfl ?_
  refine w_iconst C 0 dX9_become_73 rfl (by decide) ?_
  refine w_aload_n C dX9_become_74 rfl 0 rfl ?_
  refine w_get C 42 6 (Nat.le_of_ble_eq_true rfl) rfl rfl inB_X9 (by decide) tw1_207 rfl dX9_become_75 rfl ?_
  refine w_iconst C 0 dX9_become_78 rfl (by decide) ?_
  refine w_bipush C 48 dX9_become_79 rfl (by decide) ?_
  refine w_acopy C 34 46 48 48 0 0 0 48 (all4 tw3_2 tw3_4 tw3_3 tw1_22) (Nat.le_of_ble_eq_true rfl) (Nat.le_of_ble_eq_true rfl) (fun _ => rfl) (fun _ => rfl) rfl ⟨by decide, by decide⟩ ⟨by decide, by decide⟩ ⟨by decide, by decide⟩ (by decide) (by decide) ⟨Nat.le_of_ble_eq_true rfl, Nat.le_of_ble_eq_true rfl⟩ dX9_become_81 rfl ?_
  refine w_nst h (fun u10 h => ?_)
  refine w_aload_n C dX9_become_84 rfl 1 rfl ?_
  refine w_get C 30 7 (Nat.le_of_ble_eq_true rfl) rfl rfl inB_X9 (by decide) tw1_210 rfl dX9_become_85 rfl ?_
  refine w_iconst C 0 dX9_become_88 rfl (by decide) ?_
  refine w_aload_n C dX9_become_89 rfl 0 rfl ?_
  refine w_get C 42 7 (Nat.le_of_ble_eq_true rfl) rfl rfl inB_X9 (by decide) tw1_210 rfl dX9_become_90 rfl ?_
  refine w_iconst C 0 dX9_become_93 rfl (by decide) ?_
  refine w_sipush C 160 dX9_become_94 rfl (by decide) ?_
  refine w_acopy C 35 47 160 160 0 0 0 160 (all4 tw3_2 tw3_4 tw3_3 tw1_22) (Nat.le_of_ble_eq_true rfl) (Nat.le_of_ble_eq_true rfl) (fun _ => rfl) (fun _ => rfl) rfl ⟨by decide, by decide⟩ ⟨by decide, by decide⟩ ⟨by decide, by decide⟩ (by decide) (by decide) ⟨Nat.le_of_ble_eq_true rfl, Nat.le_of_ble_eq_true rfl⟩ dX9_become_97 rfl ?_
  refine w_nst h (fun u11 h => ?_)
  refine w_aload_n C dX9_become_100 rfl 1 rfl ?_
  refine w_get C 30 8 (Nat.le_of_ble_eq_true rfl) rfl rfl inB_X9 (by decide) tw1_211 rfl dX9_become_101 rfl ?_
  refine w_iconst C 0 dX9_become_104 rfl (by decide) ?_
  refine w_aload_n C dX9_become_105 rfl 0 rfl ?_
  refine w_get C 42 8 (Nat.le_of_ble_eq_true rfl) rfl rfl inB_X9 (by decide) tw1_211 rfl dX9_become_106 rfl ?_
  refine w_iconst C 0 dX9_become_109 rfl (by decide) ?_
  refine w_bipush C 8 dX9_become_110 rfl (by decide) ?_
  refine w_acopy C 36 48 8 8 0 0 0 8 (all4 tw3_2 tw3_4 tw3_3 tw1_22) (Nat.le_of_ble_eq_true rfl) (Nat.le_of_ble_eq_true rfl) (fun _ => rfl) (fun _ => rfl) rfl ⟨by decide, by decide⟩ ⟨by decide, by decide⟩ ⟨by decide, by decide⟩ (by decide) (by decide) ⟨Nat.le_of_ble_eq_true rfl, Nat.le_of_ble_eq_true rfl⟩ dX9_become_112 rfl ?_
  refine w_nst h (fun u12 h => ?_)
  refine w_aload_n C dX9_become_115 rfl 1 rfl ?_
  refine w_get C 30 9 (Nat.le_of_ble_eq_true rfl) rfl rfl inB_X9 (by decide) tw1_213 rfl dX9_become_116 rfl ?_
  refine w_iconst C 0 dX9_become_119 rfl (by decide) ?_
  refine w_aload_n C dX9_become_120 rfl 0 rfl ?_
  refine w_get C 42 9 (Nat.le_of_ble_eq_true rfl) rfl rfl inB_X9 (by decide) tw1_213 rfl dX9_become_121 rfl ?_
  refine w_iconst C 0 dX9_become_124 rfl (by decide) ?_
  refine w_bipush C 8 dX9_become_125 rfl (by decide) ?_
  refine w_acopy C 37 49 8 8 0 0 0 8 (all4 tw3_2 tw3_4 tw3_3 tw1_22) (Nat.le_of_ble_eq_true rfl) (Nat.le_of_ble_eq_true rfl) (fun _ => rfl) (fun _ => rfl) rfl ⟨by decide, by decide⟩ ⟨by decide, by decide⟩ ⟨by decide, by decide⟩ (by decide) (by decide) ⟨Nat.le_of_ble_eq_true rfl, Nat.le_of_ble_eq_true rfl⟩ dX9_become_127 rfl ?_
  refine w_nst h (fun u13 h => ?_)
  refine w_aload_n C dX9_become_130 rfl 1 rfl ?_
  refine w_get C 30 10 (Nat.le_of_ble_eq_true rfl) rfl rfl inB_X9 (by decide) tw1_215 rfl dX9_become_131 rfl ?_
  refine w_iconst C 0 dX9_become_134 rfl (by decide) ?_
  refine w_aload_n C dX9_become_135 rfl 0 rfl ?_
  refine w_get C 42 10 (Nat.le_of_ble_eq_true rfl) rfl rfl inB_X9 (by decide) tw1_215 rfl dX9_become_136 rfl ?_
  refine w_iconst C 0 dX9_become_139 rfl (by decide) ?_
  refine w_bipush C 8 dX9_become_140 rfl (by decide) ?_
  refine w_acopy C 38 50 8 8 0 0 0 8 (all4 tw3_2 tw3_4 tw3_3 tw1_22) (Nat.le_of_ble_eq_true rfl) (Nat.le_of_ble_eq_true rfl) (fun _ => rfl) (fun _ => rfl) rfl ⟨by decide, by decide⟩ ⟨by decide, by decide⟩ ⟨by decide, by decide⟩ (by decide) (by decide) ⟨Nat.le_of_ble_eq_true rfl, Nat.le_of_ble_eq_true rfl⟩ dX9_become_142 rfl ?_
  refine w_nst h (fun u14 h => ?_)
  refine w_aload_n C dX9_become_145 rfl 1 rfl ?_
  refine w_get C 30 11 (Nat.le_of_ble_eq_true rfl) rfl rfl inB_X9 (by decide) tw1_217 rfl dX9_become_146 rfl ?_
  refine w_iconst C 0 dX9_become_149 rfl (by decide) ?_
  refine w_aload_n C dX9_become_150 rfl 0 rfl ?_
  refine w_get C 42 11 (Nat.le_of_ble_eq_true rfl) rfl rfl inB_X9 (by decide) tw1_217 rfl dX9_become_151 rfl ?_
  refine w_iconst C 0 dX9_become_154 rfl (by decide) ?_
  refine w_bipush C 8 dX9_become_155 rfl (by decide) ?_
  refine w_acopy C 39 51 8 8 0 0 0 8 (all4 tw3_2 tw3_4 tw3_3 tw1_22) (Nat.le_of_ble_eq_true rfl) (Nat.le_of_ble_eq_true rfl) (fun _ => rfl) (fun _ => rfl) rfl ⟨by decide, by decide⟩ ⟨by decide, by decide⟩ ⟨by decide, by decide⟩ (by decide) (by decide) ⟨Nat.le_of_ble_eq_true rfl, Nat.le_of_ble_eq_true rfl⟩ dX9_become_157 rfl ?_
  refine w_nst h (fun u15 h => ?_)
  refine w_aload_n C dX9_become_160 rfl 1 rfl ?_
  refine w_get C 30 12 (Nat.le_of_ble_eq_true rfl) rfl rfl inB_X9 (by decide) tw1_219 rfl dX9_become_161 rfl ?_
  refine w_iconst C 0 dX9_become_164 rfl (by decide) ?_
  refine w_aload_n C dX9_become_165 rfl 0 rfl ?_
  refine w_get C 42 12 (Nat.le_of_ble_eq_true rfl) rfl rfl inB_X9 (by decide) tw1_219 rfl dX9_become_166 rfl ?_
  refine w_iconst C 0 dX9_become_169 rfl (by decide) ?_
  refine w_bipush C 8 dX9_become_170 rfl (by decide) ?_
  refine w_acopy C 40 52 8 8 0 0 0 8 (all4 tw3_2 tw3_4 tw3_3 tw1_22) (Nat.le_of_ble_eq_true rfl) (Nat.le_of_ble_eq_true rfl) (fun _ => rfl) (fun _ => rfl) rfl ⟨by decide, by decide⟩ ⟨by decide, by decide⟩ ⟨by decide, by decide⟩ (by decide) (by decide) ⟨Nat.le_of_ble_eq_true rfl, Nat.le_of_ble_eq_true rfl⟩ dX9_become_172 rfl ?_
  refine w_nst h (fun u16 h => ?_)
  refine w_aload_n C dX9_become_175 rfl 1 rfl ?_
  refine w_get C 30 13 (Nat.le_of_ble_eq_true rfl) rfl rfl inB_X9 (by decide) tw1_221 rfl dX9_become_176 rfl ?_
  refine w_iconst C 0 dX9_become_179 rfl (by decide) ?_
  refine w_aload_n C dX9_become_180 rfl 0 rfl ?_
  refine w_get C 42 13 (Nat.le_of_ble_eq_true rfl) rfl rfl inB_X9 (by decide) tw1_221 rfl dX9_become_181 rfl ?_
  refine w_iconst C 0 dX9_become_184 rfl (by decide) ?_
  refine w_iconst C 3 dX9_become_185 rfl (by decide) ?_
  refine w_acopy C 41 53 3 3 0 0 0 3 (all4 tw3_2 tw3_4 tw3_3 tw1_22) (Nat.le_of_ble_eq_true rfl) (Nat.le_of_ble_eq_true rfl) (fun _ => rfl) (fun _ => rfl) rfl ⟨by decide, by decide⟩ ⟨by decide, by decide⟩ ⟨by decide, by decide⟩ (by decide) (by decide) ⟨Nat.le_of_ble_eq_true rfl, Nat.le_of_ble_eq_true rfl⟩ dX9_become_186 rfl ?_
  refine w_nst h (fun u17 h => ?_)
  exact w_rv hr h (by decide) dX9_become_189
theorem cfX9_become_2 (D : va_G) (cI : ClassId) (ad : Nat → Nat) {l : Launch} (had : gAp (gC D cI ad)) {F : Nat} {σ : St}  {σ' : St} (h : fX9_become_2 F σ = some σ') : MV l yX9_become (wB yX9_become cX9_become 2 none) 1 40 (gC D cI ad) [.ref (ad 42), .ref (ad 30)] σ σ' := mk_MV had (by decide +kernel) (Nat.le_of_ble_eq_true rfl) (fun X hX C hr => wfX9_become_2 C hr h)

def fX10_image (F : Nat) (σ : St) : Option St := bd1 (fX9_become_2 F σ) fun u1 => nm (up u1 0 3 1) fun u3 => some u3
set_option maxRecDepth 20000 in
theorem wfX10_image {X : XT} {D : va_G} {cI : ClassId} {ad : Nat → Nat} {F : Nat} {σ : St}  {σ' : St} (C : Cx X (gC D cI ad) cX10_image 1 RX10 2 61 0) (hr : RetV X (gC D cI ad) cX10_image 1 0 σ') (h : fX10_image F σ = some σ') : WP X (gC D cI ad) 1 0 0 σ [(0, .ref (ad 0))] [] := by
  unfold fX10_image at h
  refine w_aload_n C dX10_image_0 rfl 0 rfl ?_
  refine w_get C 0 8 (Nat.le_of_ble_eq_true rfl) rfl rfl inB_X10 (by decide) tw2_180 rfl dX10_image_1 rfl ?_
  refine w_aload_n C dX10_image_4 rfl 0 rfl ?_
  refine w_get C 0 7 (Nat.le_of_ble_eq_true rfl) rfl rfl inB_X10 (by decide) tw2_179 rfl dX10_image_5 rfl ?_
  refine bd1_w h (fun u1 hc h => ?_)
  refine w_callVv C (n := 1) (As := [.ref (ad 30)]) (st := []) 42 (Nat.le_of_ble_eq_true rfl) rfl rfl (cfX9_become_2 D cI ad (l := X.2.1) C.2.2.1 hc) tw3_24 cy_X9_become (by decide +kernel) ⟨Nat.le_of_ble_eq_true rfl, Nat.le_of_ble_eq_true rfl⟩ (by decide) rfl rfl (Nat.le_of_ble_eq_true rfl) dX10_image_8 rfl ?_
  refine w_aload_n C dX10_image_11 rfl 0 rfl ?_
  refine w_iconst C 1 dX10_image_12 rfl (by decide) ?_
  refine w_put C 0 3 1 (Nat.le_of_ble_eq_true rfl) rfl rfl inB_X10 tyX10_ok nmX10 (by decide) tw2_175 rfl rfl rfl (Nat.le_of_ble_eq_true rfl) rfl dX10_image_13 rfl ?_
  refine w_nst h (fun u3 h => ?_)
  exact w_rv hr h (by decide) dX10_image_16
theorem cfX10_image (D : va_G) (cI : ClassId) (ad : Nat → Nat) {l : Launch} (had : gAp (gC D cI ad)) {F : Nat} {σ : St}  {σ' : St} (h : fX10_image F σ = some σ') : MV l yX10_image (wB yX10_image cX10_image 1 none) 2 61 (gC D cI ad) [.ref (ad 0)] σ σ' := mk_MV had (by decide +kernel) (Nat.le_of_ble_eq_true rfl) (fun X hX C hr => wfX10_image C hr h)

def fX9_become_3 (F : Nat) (σ : St) : Option St := nm (up σ 30 0 (σ 42 0)) fun u2 => nm (up u2 30 1 (u2 42 1)) fun u4 => nm (up u4 30 2 (u4 42 2)) fun u6 => nm (acp u6 43 0 31 0 8) fun u7 => nm (acp u7 44 0 32 0 8) fun u8 => nm (acp u8 45 0 33 0 80) fun u9 => nm (acp u9 46 0 34 0 48) fun u10 => nm (acp u10 47 0 35 0 160) fun u11 => nm (acp u11 48 0 36 0 8) fun u12 => nm (acp u12 49 0 37 0 8) fun u13 => nm (acp u13 50 0 38 0 8) fun u14 => nm (acp u14 51 0 39 0 8) fun u15 => nm (acp u15 52 0 40 0 8) fun u16 => nm (acp u16 53 0 41 0 3) fun u17 => some u17
set_option maxRecDepth 20000 in
theorem wfX9_become_3 {X : XT} {D : va_G} {cI : ClassId} {ad : Nat → Nat} {F : Nat} {σ : St}  {σ' : St} (C : Cx X (gC D cI ad) cX9_become 2 RX9 1 40 0) (hr : RetV X (gC D cI ad) cX9_become 2 0 σ') (h : fX9_become_3 F σ = some σ') : WP X (gC D cI ad) 2 0 0 σ [(0, .ref (ad 30)), (1, .ref (ad 42))] [] := by
  unfold fX9_become_3 at h
  refine w_aload_n C dX9_become_0 rfl 0 rfl ?_
  refine w_aload_n C dX9_become_1 rfl 1 rfl ?_
  refine w_get C 42 0 (Nat.le_of_ble_eq_true rfl) rfl rfl inB_X9 (by decide) tw1_189 rfl dX9_become_2 rfl ?_
  refine w_put C 30 0 (σ 42 0) (Nat.le_of_ble_eq_true rfl) rfl rfl inB_X9 tyX9_ok nmX9 (by decide) tw1_189 rfl rfl rfl (Nat.le_of_ble_eq_true rfl) rfl dX9_become_5 rfl ?_
  refine w_nst h (fun u2 h => ?_)
  refine w_aload_n C dX9_become_8 rfl 0 rfl ?_
  refine w_aload_n C dX9_become_9 rfl 1 rfl ?_
  refine w_get C 42 1 (Nat.le_of_ble_eq_true rfl) rfl rfl inB_X9 (by decide) tw1_192 rfl dX9_become_10 rfl ?_
  refine w_put C 30 1 (u2 42 1) (Nat.le_of_ble_eq_true rfl) rfl rfl inB_X9 tyX9_ok nmX9 (by decide) tw1_192 rfl rfl rfl (Nat.le_of_ble_eq_true rfl) rfl dX9_become_13 rfl ?_
  refine w_nst h (fun u4 h => ?_)
  refine w_aload_n C dX9_become_16 rfl 0 rfl ?_
  refine w_aload_n C dX9_become_17 rfl 1 rfl ?_
  refine w_get C 42 2 (Nat.le_of_ble_eq_true rfl) rfl rfl inB_X9 (by decide) tw1_194 rfl dX9_become_18 rfl ?_
  refine w_put C 30 2 (u4 42 2) (Nat.le_of_ble_eq_true rfl) rfl rfl inB_X9 tyX9_ok nmX9 (by decide) tw1_194 rfl rfl rfl (Nat.le_of_ble_eq_true rfl) rfl dX9_become_21 rfl ?_
  refine w_nst h (fun u6 h => ?_)
  refine w_aload_n C dX9_become_24 rfl 1 rfl ?_
  refine w_get C 42 3 (Nat.le_of_ble_eq_true rfl) rfl rfl inB_X9 (by decide) tw1_197 rfl dX9_become_25 rfl ?_
  refine w_iconst C 0 dX9_become_28 rfl (by decide) ?_
  refine w_aload_n C dX9_become_29 rfl 0 rfl ?_
  refine w_get C 30 3 (Nat.le_of_ble_eq_true rfl) rfl rfl inB_X9 (by decide) tw1_197 rfl dX9_become_30 rfl ?_
  refine w_iconst C 0 dX9_become_33 rfl (by decide) ?_
  refine w_bipush C 8 dX9_become_34 rfl (by decide) ?_
  refine w_acopy C 43 31 8 8 0 0 0 8 (all4 tw3_2 tw3_4 tw3_3 tw1_22) (Nat.le_of_ble_eq_true rfl) (Nat.le_of_ble_eq_true rfl) (fun _ => rfl) (fun _ => rfl) rfl ⟨by decide, by decide⟩ ⟨by decide, by decide⟩ ⟨by decide, by decide⟩ (by decide) (by decide) ⟨Nat.le_of_ble_eq_true rfl, Nat.le_of_ble_eq_true rfl⟩ dX9_become_36 rfl ?_
  refine w_nst h (fun u7 h => ?_)
  refine w_aload_n C dX9_become_39 rfl 1 rfl ?_
  refine w_get C 42 4 (Nat.le_of_ble_eq_true rfl) rfl rfl inB_X9 (by decide) tw1_199 rfl dX9_become_40 rfl ?_
  refine w_iconst C 0 dX9_become_43 rfl (by decide) ?_
  refine w_aload_n C dX9_become_44 rfl 0 rfl ?_
  refine w_get C 30 4 (Nat.le_of_ble_eq_true rfl) rfl rfl inB_X9 (by decide) tw1_199 rfl dX9_become_45 rfl ?_
  refine w_iconst C 0 dX9_become_48 rfl (by decide) ?_
  refine w_bipush C 8 dX9_become_49 rfl (by decide) ?_
  refine w_acopy C 44 32 8 8 0 0 0 8 (all4 tw3_2 tw3_4 tw3_3 tw1_22) (Nat.le_of_ble_eq_true rfl) (Nat.le_of_ble_eq_true rfl) (fun _ => rfl) (fun _ => rfl) rfl ⟨by decide, by decide⟩ ⟨by decide, by decide⟩ ⟨by decide, by decide⟩ (by decide) (by decide) ⟨Nat.le_of_ble_eq_true rfl, Nat.le_of_ble_eq_true rfl⟩ dX9_become_51 rfl ?_
  refine w_nst h (fun u8 h => ?_)
  refine w_aload_n C dX9_become_54 rfl 1 rfl ?_
  refine w_get C 42 5 (Nat.le_of_ble_eq_true rfl) rfl rfl inB_X9 (by decide) tw1_203 rfl dX9_become_55 rfl ?_
  refine w_iconst C 0 dX9_become_58 rfl (by decide) ?_
  refine w_aload_n C dX9_become_59 rfl 0 rfl ?_
  refine w_get C 30 5 (Nat.le_of_ble_eq_true rfl) rfl rfl inB_X9 (by decide) tw1_203 rfl dX9_become_60 rfl ?_
  refine w_iconst C 0 dX9_become_63 rfl (by decide) ?_
  refine w_bipush C 80 dX9_become_64 rfl (by decide) ?_
  refine w_acopy C 45 33 80 80 0 0 0 80 (all4 tw3_2 tw3_4 tw3_3 tw1_22) (Nat.le_of_ble_eq_true rfl) (Nat.le_of_ble_eq_true rfl) (fun _ => rfl) (fun _ => rfl) rfl ⟨by decide, by decide⟩ ⟨by decide, by decide⟩ ⟨by decide, by decide⟩ (by decide) (by decide) ⟨Nat.le_of_ble_eq_true rfl, Nat.le_of_ble_eq_true rfl⟩ dX9_become_66 rfl ?_
  refine w_nst h (fun u9 h => ?_)
  refine w_aload_n C dX9_become_69 rfl 1 rfl ?_
  refine w_get C 42 6 (Nat.le_of_ble_eq_true rfl) rfl rfl inB_X9 (by decide) tw1_207 rfl dX9_become_70 rfl ?_
  refine w_iconst C 0 dX9_become_73 rfl (by decide) ?_
  refine w_aload_n C dX9_become_74 rfl 0 rfl ?_
  refine w_get C 30 6 (Nat.le_of_ble_eq_true rfl) rfl rfl inB_X9 (by decide) tw1_207 rfl dX9_become_75 rfl ?_
  refine w_iconst C 0 dX9_become_78 rfl (by decide) ?_
  refine w_bipush C 48 dX9_become_79 rfl (by decide) ?_
  refine w_acopy C 46 34 48 48 0 0 0 48 (all4 tw3_2 tw3_4 tw3_3 tw1_22) (Nat.le_of_ble_eq_true rfl) (Nat.le_of_ble_eq_true rfl) (fun _ => rfl) (fun _ => rfl) rfl ⟨by decide, by decide⟩ ⟨by decide, by decide⟩ ⟨by decide, by decide⟩ (by decide) (by decide) ⟨Nat.le_of_ble_eq_true rfl, Nat.le_of_ble_eq_true rfl⟩ dX9_become_81 rfl ?_
  refine w_nst h (fun u10 h => ?_)
  refine w_aload_n C dX9_become_84 rfl 1 rfl ?_
  refine w_get C 42 7 (Nat.le_of_ble_eq_true rfl) rfl rfl inB_X9 (by decide) tw1_210 rfl dX9_become_85 rfl ?_
  refine w_iconst C 0 dX9_become_88 rfl (by decide) ?_
  refine w_aload_n C dX9_become_89 rfl 0 rfl ?_
  refine w_get C 30 7 (Nat.le_of_ble_eq_true rfl) rfl rfl inB_X9 (by decide) tw1_210 rfl dX9_become_90 rfl ?_
  refine w_iconst C 0 dX9_become_93 rfl (by decide) ?_
  refine w_sipush C 160 dX9_become_94 rfl (by decide) ?_
  refine w_acopy C 47 35 160 160 0 0 0 160 (all4 tw3_2 tw3_4 tw3_3 tw1_22) (Nat.le_of_ble_eq_true rfl) (Nat.le_of_ble_eq_true rfl) (fun _ => rfl) (fun _ => rfl) rfl ⟨by decide, by decide⟩ ⟨by decide, by decide⟩ ⟨by decide, by decide⟩ (by decide) (by decide) ⟨Nat.le_of_ble_eq_true rfl, Nat.le_of_ble_eq_true rfl⟩ dX9_become_97 rfl ?_
  refine w_nst h (fun u11 h => ?_)
  refine w_aload_n C dX9_become_100 rfl 1 rfl ?_
  refine w_get C 42 8 (Nat.le_of_ble_eq_true rfl) rfl rfl inB_X9 (by decide) tw1_211 rfl dX9_become_101 rfl ?_
  refine w_iconst C 0 dX9_become_104 rfl (by decide) ?_
  refine w_aload_n C dX9_become_105 rfl 0 rfl ?_
  refine w_get C 30 8 (Nat.le_of_ble_eq_true rfl) rfl rfl inB_X9 (by decide) tw1_211 rfl dX9_become_106 rfl ?_
  refine w_iconst C 0 dX9_become_109 rfl (by decide) ?_
  refine w_bipush C 8 dX9_become_110 rfl (by decide) ?_
  refine w_acopy C 48 36 8 8 0 0 0 8 (all4 tw3_2 tw3_4 tw3_3 tw1_22) (Nat.le_of_ble_eq_true rfl) (Nat.le_of_ble_eq_true rfl) (fun _ => rfl) (fun _ => rfl) rfl ⟨by decide, by decide⟩ ⟨by decide, by decide⟩ ⟨by decide, by decide⟩ (by decide) (by decide) ⟨Nat.le_of_ble_eq_true rfl, Nat.le_of_ble_eq_true rfl⟩ dX9_become_112 rfl ?_
  refine w_nst h (fun u12 h => ?_)
  refine w_aload_n C dX9_become_115 rfl 1 rfl ?_
  refine w_get C 42 9 (Nat.le_of_ble_eq_true rfl) rfl rfl inB_X9 (by decide) tw1_213 rfl dX9_become_116 rfl ?_
  refine w_iconst C 0 dX9_become_119 rfl (by decide) ?_
  refine w_aload_n C dX9_become_120 rfl 0 rfl ?_
  refine w_get C 30 9 (Nat.le_of_ble_eq_true rfl) rfl rfl inB_X9 (by decide) tw1_213 rfl dX9_become_121 rfl ?_
  refine w_iconst C 0 dX9_become_124 rfl (by decide) ?_
  refine w_bipush C 8 dX9_become_125 rfl (by decide) ?_
  refine w_acopy C 49 37 8 8 0 0 0 8 (all4 tw3_2 tw3_4 tw3_3 tw1_22) (Nat.le_of_ble_eq_true rfl) (Nat.le_of_ble_eq_true rfl) (fun _ => rfl) (fun _ => rfl) rfl ⟨by decide, by decide⟩ ⟨by decide, by decide⟩ ⟨by decide, by decide⟩ (by decide) (by decide) ⟨Nat.le_of_ble_eq_true rfl, Nat.le_of_ble_eq_true rfl⟩ dX9_become_127 rfl ?_
  refine w_nst h (fun u13 h => ?_)
  refine w_aload_n C dX9_become_130 rfl 1 rfl ?_
  refine w_get C 42 10 (Nat.le_of_ble_eq_true rfl) rfl rfl inB_X9 (by decide) tw1_215 rfl dX9_become_131 rfl ?_
  refine w_iconst C 0 dX9_become_134 rfl (by decide) ?_
  refine w_aload_n C dX9_become_135 rfl 0 rfl ?_
  refine w_get C 30 10 (Nat.le_of_ble_eq_true rfl) rfl rfl inB_X9 (by decide) tw1_215 rfl dX9_become_136 rfl ?_
  refine w_iconst C 0 dX9_become_139 rfl (by decide) ?_
  refine w_bipush C 8 dX9_become_140 rfl (by decide) ?_
  refine w_acopy C 50 38 8 8 0 0 0 8 (all4 tw3_2 tw3_4 tw3_3 tw1_22) (Nat.le_of_ble_eq_true rfl) (Nat.le_of_ble_eq_true rfl) (fun _ => rfl) (fun _ => rfl) rfl ⟨by decide, by decide⟩ ⟨by decide, by decide⟩ ⟨by decide, by decide⟩ (by decide) (by decide) ⟨Nat.le_of_ble_eq_true rfl, Nat.le_of_ble_eq_true rfl⟩ dX9_become_142 rfl ?_
  refine w_nst h (fun u14 h => ?_)
  refine w_aload_n C dX9_become_145 rfl 1 rfl ?_
  refine w_get C 42 11 (Nat.le_of_ble_eq_true rfl) rfl rfl inB_X9 (by decide) tw1_217 rfl dX9_become_146 rfl ?_
  refine w_iconst C 0 dX9_become_149 rfl (by decide) ?_
  refine w_aload_n C dX9_become_150 rfl 0 rfl ?_
  refine w_get C 30 11 (Nat.le_of_ble_eq_true rfl) rfl rfl inB_X9 (by decide) tw1_217 rfl dX9_become_151 rfl ?_
  refine w_iconst C 0 dX9_become_154 rfl (by decide) ?_
  refine w_bipush C 8 dX9_become_155 rfl (by decide) ?_
  refine w_acopy C 51 39 8 8 0 0 0 8 (all4 tw3_2 tw3_4 tw3_3 tw1_22) (Nat.le_of_ble_eq_true rfl) (Nat.le_of_ble_eq_true rfl) (fun _ => rfl) (fun _ => rfl) rfl ⟨by decide, by decide⟩ ⟨by decide, by decide⟩ ⟨by decide, by decide⟩ (by decide) (by decide) ⟨Nat.le_of_ble_eq_true rfl, Nat.le_of_ble_eq_true rfl⟩ dX9_become_157 rfl ?_
  refine w_nst h (fun u15 h => ?_)
  refine w_aload_n C dX9_become_160 rfl 1 rfl ?_
  refine w_get C 42 12 (Nat.le_of_ble_eq_true rfl) rfl rfl inB_X9 (by decide) tw1_219 rfl dX9_become_161 rfl ?_
  refine w_iconst C 0 dX9_become_164 rfl (by decide) ?_
  refine w_aload_n C dX9_become_165 rfl 0 rfl ?_
  refine w_get C 30 12 (Nat.le_of_ble_eq_true rfl) rfl rfl inB_X9 (by decide) tw1_219 rfl dX9_become_166 rfl ?_
  refine w_iconst C 0 dX9_become_169 rfl (by decide) ?_
  refine w_bipush C 8 dX9_become_170 rfl (by decide) ?_
  refine w_acopy C 52 40 8 8 0 0 0 8 (all4 tw3_2 tw3_4 tw3_3 tw1_22) (Nat.le_of_ble_eq_true rfl) (Nat.le_of_ble_eq_true rfl) (fun _ => rfl) (fun _ => rfl) rfl ⟨by decide, by decide⟩ ⟨by decide, by decide⟩ ⟨by decide, by decide⟩ (by decide) (by decide) ⟨Nat.le_of_ble_eq_true rfl, Nat.le_of_ble_eq_true rfl⟩ dX9_become_172 rfl ?_
  refine w_nst h (fun u16 h => ?_)
  refine w_aload_n C dX9_become_175 rfl 1 rfl ?_
  refine w_get C 42 13 (Nat.le_of_ble_eq_true rfl) rfl rfl inB_X9 (by decide) tw1_221 rfl dX9_become_176 rfl ?_
  refine w_iconst C 0 dX9_become_179 rfl (by decide) ?_
  refine w_aload_n C dX9_become_180 rfl 0 rfl ?_
  refine w_get C 30 13 (Nat.le_of_ble_eq_true rfl) rfl rfl inB_X9 (by decide) tw1_221 rfl dX9_become_181 rfl ?_
  refine w_iconst C 0 dX9_become_184 rfl (by decide) ?_
  refine w_iconst C 3 dX9_become_185 rfl (by decide) ?_
  refine w_acopy C 53 41 3 3 0 0 0 3 (all4 tw3_2 tw3_4 tw3_3 tw1_22) (Nat.le_of_ble_eq_true rfl) (Nat.le_of_ble_eq_true rfl) (fun _ => rfl) (fun _ => rfl) rfl ⟨by decide, by decide⟩ ⟨by decide, by decide⟩ ⟨by decide, by decide⟩ (by decide) (by decide) ⟨Nat.le_of_ble_eq_true rfl, Nat.le_of_ble_eq_true rfl⟩ dX9_become_186 rfl ?_
  refine w_nst h (fun u17 h => ?_)
  exact w_rv hr h (by decide) dX9_become_189
theorem cfX9_become_3 (D : va_G) (cI : ClassId) (ad : Nat → Nat) {l : Launch} (had : gAp (gC D cI ad)) {F : Nat} {σ : St}  {σ' : St} (h : fX9_become_3 F σ = some σ') : MV l yX9_become (wB yX9_become cX9_become 2 none) 1 40 (gC D cI ad) [.ref (ad 30), .ref (ad 42)] σ σ' := mk_MV had (by decide +kernel) (Nat.le_of_ble_eq_true rfl) (fun X hX C hr => wfX9_become_3 C hr h)

def fX10_restore (F : Nat) (σ : St) : Option (Int32 × St) := if (σ 0 3) = 0 then (some (0, σ)) else bd1 (fX9_become_3 F σ) fun u1 => some (1, u1)
set_option maxRecDepth 20000 in
theorem wfX10_restore {X : XT} {D : va_G} {cI : ClassId} {ad : Nat → Nat} {F : Nat} {σ : St}  {r : Int32} {σ' : St} (C : Cx X (gC D cI ad) cX10_restore 1 RX10 2 61 0) (hr : RetZ X (gC D cI ad) cX10_restore 1 0 r σ') (h : fX10_restore F σ = some (r, σ')) : WP X (gC D cI ad) 1 0 0 σ [(0, .ref (ad 0))] [] := by
  unfold fX10_restore at h
  refine w_aload_n C dX10_restore_0 rfl 0 rfl ?_
  refine w_get C 0 3 (Nat.le_of_ble_eq_true rfl) rfl rfl inB_X10 (by decide) tw2_175 rfl dX10_restore_1 rfl ?_
  refine w_if_ne C (qt := 9) dX10_restore_4 (by decide) rfl h (fun _ h => ?_) (fun _ h => ?_)
  · refine w_aload_n C dX10_restore_9 rfl 0 rfl ?_
    refine w_get C 0 7 (Nat.le_of_ble_eq_true rfl) rfl rfl inB_X10 (by decide) tw2_179 rfl dX10_restore_10 rfl ?_
    refine w_aload_n C dX10_restore_13 rfl 0 rfl ?_
    refine w_get C 0 8 (Nat.le_of_ble_eq_true rfl) rfl rfl inB_X10 (by decide) tw2_180 rfl dX10_restore_14 rfl ?_
    refine bd1_w h (fun u1 hc h => ?_)
    refine w_callVv C (n := 1) (As := [.ref (ad 42)]) (st := []) 30 (Nat.le_of_ble_eq_true rfl) rfl rfl (cfX9_become_3 D cI ad (l := X.2.1) C.2.2.1 hc) tw3_24 cy_X9_become (by decide +kernel) ⟨Nat.le_of_ble_eq_true rfl, Nat.le_of_ble_eq_true rfl⟩ (by decide) rfl rfl (Nat.le_of_ble_eq_true rfl) dX10_restore_17 rfl ?_
    refine w_iconst C 1 dX10_restore_20 rfl (by decide) ?_
    exact w_rz2 hr (by decide) h (by decide) dX10_restore_21
  · refine w_iconst C 0 dX10_restore_7 rfl (by decide) ?_
    exact w_rz2 hr (by decide) h (by decide) dX10_restore_8
theorem cfX10_restore (D : va_G) (cI : ClassId) (ad : Nat → Nat) {l : Launch} (had : gAp (gC D cI ad)) {F : Nat} {σ : St}  {r : Int32} {σ' : St} (h : fX10_restore F σ = some (r, σ')) : MI l yX10_restore (wB yX10_restore cX10_restore 1 (some .boolean)) 2 61 (gC D cI ad) [.ref (ad 0)] σ r σ' := mk_MZ had (by decide +kernel) (Nat.le_of_ble_eq_true rfl) (fun X hX C hr => wfX10_restore C hr h)

