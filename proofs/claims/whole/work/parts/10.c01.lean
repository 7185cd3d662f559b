def fX10_fault (F : Nat) (σ : St) : Option Int32 := some (σ 0 2)
set_option maxRecDepth 20000 in
theorem wfX10_fault {X : XT} {D : va_G} {cI : ClassId} {ad : Nat → Nat} {F : Nat} {σ : St}  {r : Int32} (C : Cx X (gC D cI ad) cX10_fault 1 RX10 0 0 0) (hr : RetI X (gC D cI ad) cX10_fault 1 0 r σ) (h : fX10_fault F σ = some r) : WP X (gC D cI ad) 1 0 0 σ [(0, .ref (ad 0))] [] := by
  unfold fX10_fault at h
  refine w_aload_n C dX10_fault_0 rfl 0 rfl ?_
  refine w_get C 0 2 (Nat.le_of_ble_eq_true rfl) rfl rfl inB_X10 (by decide) tw2_174 rfl dX10_fault_1 rfl ?_
  exact w_ri1 hr h (by decide) dX10_fault_4
theorem cfX10_fault (D : va_G) (cI : ClassId) (ad : Nat → Nat) {l : Launch} (had : gAp (gC D cI ad)) {F : Nat} {σ : St}  {r : Int32} (h : fX10_fault F σ = some r) : MI l yX10_fault (wB yX10_fault cX10_fault 1 (some .int)) 0 0 (gC D cI ad) [.ref (ad 0)] σ r σ := mk_MI had (by decide +kernel) (Nat.le_of_ble_eq_true rfl) (fun X hX C hr => wfX10_fault C hr h)

def fX9_since (F : Nat) (σ : St) (a0 : Int32) : Option Int32 := ckI (a0) 8 (some ((σ 30 0) - (σ 31 (Int32.toNatClampNeg a0))))
set_option maxRecDepth 20000 in
theorem wfX9_since {X : XT} {D : va_G} {cI : ClassId} {ad : Nat → Nat} {F : Nat} {σ : St} {a0 : Int32} {r : Int32} (C : Cx X (gC D cI ad) cX9_since 2 RX9 0 0 0) (hr : RetI X (gC D cI ad) cX9_since 2 0 r σ) (h : fX9_since F σ a0 = some r) : WP X (gC D cI ad) 2 0 0 σ [(0, .ref (ad 30)), (1, .int a0)] [] := by
  unfold fX9_since at h
  refine w_aload_n C dX9_since_0 rfl 0 rfl ?_
  refine w_get C 30 0 (Nat.le_of_ble_eq_true rfl) rfl rfl inB_X9 (by decide) tw1_189 rfl dX9_since_1 rfl ?_
  refine w_aload_n C dX9_since_4 rfl 0 rfl ?_
  refine w_get C 30 3 (Nat.le_of_ble_eq_true rfl) rfl rfl inB_X9 (by decide) tw1_197 rfl dX9_since_5 rfl ?_
  refine w_iload_n C dX9_since_8 rfl 1 rfl ?_
  refine w_iald C 31 8 0 (Nat.le_of_ble_eq_true rfl) (fun _ => rfl) rfl h dX9_since_9 rfl (fun h => ?_)
  refine w_isub C dX9_since_10 rfl ?_
  exact w_ri1 hr h (by decide) dX9_since_11
theorem cfX9_since (D : va_G) (cI : ClassId) (ad : Nat → Nat) {l : Launch} (had : gAp (gC D cI ad)) {F : Nat} {σ : St} {a0 : Int32} {r : Int32} (h : fX9_since F σ a0 = some r) : MI l yX9_since (wB yX9_since cX9_since 2 (some .int)) 0 0 (gC D cI ad) [.ref (ad 30), .int a0] σ r σ := mk_MI had (by decide +kernel) (Nat.le_of_ble_eq_true rfl) (fun X hX C hr => wfX9_since C hr h)

def fX0_envoy (F : Nat) (σ : St) (a0 : Int32) (a1 : Int32) : Option Int32 := if a1 = 0 then (ckI (a0) 8 (some (σ 4 (Int32.toNatClampNeg a0)))) else ckI (a0) 8 (some (σ 5 (Int32.toNatClampNeg a0)))
set_option maxRecDepth 20000 in
theorem wfX0_envoy {X : XT} {D : va_G} {cI : ClassId} {ad : Nat → Nat} {F : Nat} {σ : St} {a0 : Int32} {a1 : Int32} {r : Int32} (C : Cx X (gC D cI ad) cX0_envoy 3 RX0 0 0 0) (hr : RetI X (gC D cI ad) cX0_envoy 3 0 r σ) (h : fX0_envoy F σ a0 a1 = some r) : WP X (gC D cI ad) 3 0 0 σ [(0, .ref (ad 2)), (1, .int a0), (2, .int a1)] [] := by
  unfold fX0_envoy at h
  refine w_iload_n C dX0_envoy_0 rfl 2 rfl ?_
  refine w_if_ne C (qt := 13) dX0_envoy_1 (by decide) rfl h (fun _ h => ?_) (fun _ h => ?_)
  · refine w_aload_n C dX0_envoy_13 rfl 0 rfl ?_
    refine w_get C 2 7 (Nat.le_of_ble_eq_true rfl) rfl rfl inB_X0 (by decide) tw1_86 rfl dX0_envoy_14 rfl ?_
    refine w_iload_n C dX0_envoy_17 rfl 1 rfl ?_
    refine w_iald C 5 8 0 (Nat.le_of_ble_eq_true rfl) (fun _ => rfl) rfl h dX0_envoy_18 rfl (fun h => ?_)
    exact w_ri1 hr h (by decide) dX0_envoy_19
  · refine w_aload_n C dX0_envoy_4 rfl 0 rfl ?_
    refine w_get C 2 6 (Nat.le_of_ble_eq_true rfl) rfl rfl inB_X0 (by decide) tw1_82 rfl dX0_envoy_5 rfl ?_
    refine w_iload_n C dX0_envoy_8 rfl 1 rfl ?_
    refine w_iald C 4 8 0 (Nat.le_of_ble_eq_true rfl) (fun _ => rfl) rfl h dX0_envoy_9 rfl (fun h => ?_)
    refine w_goto (q := 19) C dX0_envoy_10 (by decide) ?_
    exact w_ri1 hr h (by decide) dX0_envoy_19
theorem cfX0_envoy (D : va_G) (cI : ClassId) (ad : Nat → Nat) {l : Launch} (had : gAp (gC D cI ad)) {F : Nat} {σ : St} {a0 : Int32} {a1 : Int32} {r : Int32} (h : fX0_envoy F σ a0 a1 = some r) : MI l yX0_envoy (wB yX0_envoy cX0_envoy 3 (some .int)) 0 0 (gC D cI ad) [.ref (ad 2), .int a0, .int a1] σ r σ := mk_MI had (by decide +kernel) (Nat.le_of_ble_eq_true rfl) (fun X hX C hr => wfX0_envoy C hr h)

def fX0_kneesOf (F : Nat) (σ : St) (a0 : Int32) (a1 : Int32) : Option Int32 := bd1 (fX0_envoy F σ a0 a1) fun r1 => ckI (r1) 6 (some (σ 3 (Int32.toNatClampNeg r1)))
set_option maxRecDepth 20000 in
theorem wfX0_kneesOf {X : XT} {D : va_G} {cI : ClassId} {ad : Nat → Nat} {F : Nat} {σ : St} {a0 : Int32} {a1 : Int32} {r : Int32} (C : Cx X (gC D cI ad) cX0_kneesOf 3 RX0 1 22 0) (hr : RetI X (gC D cI ad) cX0_kneesOf 3 0 r σ) (h : fX0_kneesOf F σ a0 a1 = some r) : WP X (gC D cI ad) 3 0 0 σ [(0, .ref (ad 2)), (1, .int a0), (2, .int a1)] [] := by
  unfold fX0_kneesOf at h
  refine w_aload_n C dX0_kneesOf_0 rfl 0 rfl ?_
  refine w_get C 2 5 (Nat.le_of_ble_eq_true rfl) rfl rfl inB_X0 (by decide) tw1_79 rfl dX0_kneesOf_1 rfl ?_
  refine w_aload_n C dX0_kneesOf_4 rfl 0 rfl ?_
  refine w_iload_n C dX0_kneesOf_5 rfl 1 rfl ?_
  refine w_iload_n C dX0_kneesOf_6 rfl 2 rfl ?_
  refine bd1_w h (fun r1 hc h => ?_)
  refine w_callVi C (n := 2) (As := [.int a0, .int a1]) (st := [.ref (ad 3)]) 2 (Nat.le_of_ble_eq_true rfl) rfl rfl (cfX0_envoy D cI ad (l := X.2.1) C.2.2.1 hc) tw4_104 cy_X0_envoy (by decide +kernel) ⟨Nat.le_of_ble_eq_true rfl, Nat.le_of_ble_eq_true rfl⟩ (by decide) rfl rfl (Nat.le_of_ble_eq_true rfl) dX0_kneesOf_7 rfl ?_
  refine w_iald C 3 6 0 (Nat.le_of_ble_eq_true rfl) (fun _ => rfl) rfl h dX0_kneesOf_10 rfl (fun h => ?_)
  exact w_ri1 hr h (by decide) dX0_kneesOf_11
theorem cfX0_kneesOf (D : va_G) (cI : ClassId) (ad : Nat → Nat) {l : Launch} (had : gAp (gC D cI ad)) {F : Nat} {σ : St} {a0 : Int32} {a1 : Int32} {r : Int32} (h : fX0_kneesOf F σ a0 a1 = some r) : MI l yX0_kneesOf (wB yX0_kneesOf cX0_kneesOf 3 (some .int)) 1 22 (gC D cI ad) [.ref (ad 2), .int a0, .int a1] σ r σ := mk_MI had (by decide +kernel) (Nat.le_of_ble_eq_true rfl) (fun X hX C hr => wfX0_kneesOf C hr h)

def fX2_prepare (F : Nat) (σ : St) (a1 : Int32) (a2 : Int32) : Option St := nm (up σ 66 3 a1) fun u2 => ckI (a1) 8 (nm (up u2 66 4 (u2 7 (Int32.toNatClampNeg a1))) fun u4 => bd1 (fX9_since F u4 a1) fun r5 => nm (r5 + a2) fun x6 => bd1 (fX0_kneesOf F u4 a1 0) fun r7 => nm (up u4 66 5 ((r7 + x6) / 10)) fun u9 => bd1 (fX0_kneesOf F u9 a1 1) fun r10 => nm (up u9 66 6 ((r10 + x6) / 10)) fun u12 => lp (fun (K14 : (St × Int32) → Option St) (v13 : St × Int32) => if (v13.1 66 4) ≤ v13.2 then (some v13.1) else bd1 (fX10_placeOf F v13.1 a1 v13.2) fun r16 => ckI (r16) 80 (ckI (v13.2) 10 (nm (up v13.1 71 (Int32.toNatClampNeg v13.2) (v13.1 33 (Int32.toNatClampNeg r16))) fun u17 => K14 ((u17, v13.2 + 1))))) F ((u12, 0)))
set_option maxRecDepth 20000 in
theorem wfX2_prepare {X : XT} {D : va_G} {cI : ClassId} {ad : Nat → Nat} {F : Nat} {σ : St} {a1 : Int32} {a2 : Int32} {σ' : St} (C : Cx X (gC D cI ad) cX2_prepare 6 RX2 2 44 0) (hr : RetV X (gC D cI ad) cX2_prepare 6 0 σ') (h : fX2_prepare F σ a1 a2 = some σ') : WP X (gC D cI ad) 6 0 0 σ [(0, .ref (ad 66)), (1, .ref (ad 30)), (2, .int a1), (3, .int a2)] [] := by
  unfold fX2_prepare at h
  refine w_aload_n C dX2_prepare_0 rfl 0 rfl ?_
  refine w_iload_n C dX2_prepare_1 rfl 2 rfl ?_
  refine w_put C 66 3 a1 (Nat.le_of_ble_eq_true rfl) rfl rfl inB_X2 tyX2_ok nmX2 (by decide) tw2_45 rfl rfl rfl (Nat.le_of_ble_eq_true rfl) rfl dX2_prepare_2 rfl ?_
  refine w_nst h (fun u2 h => ?_)
  refine w_aload_n C dX2_prepare_5 rfl 0 rfl ?_
  refine w_aload_n C dX2_prepare_6 rfl 0 rfl ?_
  refine w_get C 66 0 (Nat.le_of_ble_eq_true rfl) rfl rfl inB_X2 (by decide) tw2_39 rfl dX2_prepare_7 rfl ?_
  refine w_get C 2 9 (Nat.le_of_ble_eq_true rfl) rfl rfl inB_X0 (by decide) tw1_96 rfl dX2_prepare_10 rfl ?_
  refine w_iload_n C dX2_prepare_13 rfl 2 rfl ?_
  refine w_iald C 7 8 0 (Nat.le_of_ble_eq_true rfl) (fun _ => rfl) rfl h dX2_prepare_14 rfl (fun h => ?_)
  refine w_put C 66 4 (u2 7 (Int32.toNatClampNeg a1)) (Nat.le_of_ble_eq_true rfl) rfl rfl inB_X2 tyX2_ok nmX2 (by decide) tw2_47 rfl rfl rfl (Nat.le_of_ble_eq_true rfl) rfl dX2_prepare_15 rfl ?_
  refine w_nst h (fun u4 h => ?_)
  refine w_aload_n C dX2_prepare_18 rfl 1 rfl ?_
  refine w_iload_n C dX2_prepare_19 rfl 2 rfl ?_
  refine bd1_w h (fun r5 hc h => ?_)
  refine w_callVi C (n := 1) (As := [.int a1]) (st := []) 30 (Nat.le_of_ble_eq_true rfl) rfl rfl (cfX9_since D cI ad (l := X.2.1) C.2.2.1 hc) tw4_96 cy_X9_since (by decide +kernel) ⟨Nat.le_of_ble_eq_true rfl, Nat.le_of_ble_eq_true rfl⟩ (by decide) rfl rfl (Nat.le_of_ble_eq_true rfl) dX2_prepare_20 rfl ?_
  refine w_iload_n C dX2_prepare_23 rfl 3 rfl ?_
  refine w_iadd C dX2_prepare_24 rfl ?_
  refine w_nm h (fun x6 h => ?_)
  refine w_istore C [(4, .int x6), (0, .ref (ad 66)), (1, .ref (ad 30)), (2, .int a1), (3, .int a2)] dX2_prepare_25 rfl (by decide) rfl ?_
  refine w_aload_n C dX2_prepare_27 rfl 1 rfl ?_
  refine w_aload_n C dX2_prepare_28 rfl 1 rfl ?_
  refine w_get C 66 0 (Nat.le_of_ble_eq_true rfl) rfl rfl inB_X2 (by decide) tw2_39 rfl dX2_prepare_29 rfl ?_
  refine w_iload_n C dX2_prepare_32 rfl 3 rfl ?_
  refine w_iconst C 0 dX2_prepare_33 rfl (by decide) ?_
  refine bd1_w h (fun r7 hc h => ?_)
  refine w_callVi C (n := 2) (As := [.int a1, .int 0]) (st := [.ref (ad 66)]) 2 (Nat.le_of_ble_eq_true rfl) rfl rfl (cfX0_kneesOf D cI ad (l := X.2.1) C.2.2.1 hc) tw4_100 cy_X0_kneesOf (by decide +kernel) ⟨Nat.le_of_ble_eq_true rfl, Nat.le_of_ble_eq_true rfl⟩ (by decide) rfl rfl (Nat.le_of_ble_eq_true rfl) dX2_prepare_34 rfl ?_
  refine w_iload C dX2_prepare_37 rfl 0 rfl ?_
  refine w_iadd C dX2_prepare_39 rfl ?_
  refine w_bipush C 10 dX2_prepare_40 rfl (by decide) ?_
  refine w_idiv C (by decide) dX2_prepare_42 rfl ?_
  refine w_put C 66 5 ((r7 + x6) / 10) (Nat.le_of_ble_eq_true rfl) rfl rfl inB_X2 tyX2_ok nmX2 (by decide) tw2_49 rfl rfl rfl (Nat.le_of_ble_eq_true rfl) rfl dX2_prepare_43 rfl ?_
  refine w_nst h (fun u9 h => ?_)
  refine w_aload_n C dX2_prepare_46 rfl 1 rfl ?_
  refine w_aload_n C dX2_prepare_47 rfl 1 rfl ?_
  refine w_get C 66 0 (Nat.le_of_ble_eq_true rfl) rfl rfl inB_X2 (by decide) tw2_39 rfl dX2_prepare_48 rfl ?_
  refine w_iload_n C dX2_prepare_51 rfl 3 rfl ?_
  refine w_iconst C 1 dX2_prepare_52 rfl (by decide) ?_
  refine bd1_w h (fun r10 hc h => ?_)
  refine w_callVi C (n := 2) (As := [.int a1, .int 1]) (st := [.ref (ad 66)]) 2 (Nat.le_of_ble_eq_true rfl) rfl rfl (cfX0_kneesOf D cI ad (l := X.2.1) C.2.2.1 hc) tw4_100 cy_X0_kneesOf (by decide +kernel) ⟨Nat.le_of_ble_eq_true rfl, Nat.le_of_ble_eq_true rfl⟩ (by decide) rfl rfl (Nat.le_of_ble_eq_true rfl) dX2_prepare_53 rfl ?_
  refine w_iload C dX2_prepare_56 rfl 0 rfl ?_
  refine w_iadd C dX2_prepare_58 rfl ?_
  refine w_bipush C 10 dX2_prepare_59 rfl (by decide) ?_
  refine w_idiv C (by decide) dX2_prepare_61 rfl ?_
  refine w_put C 66 6 ((r10 + x6) / 10) (Nat.le_of_ble_eq_true rfl) rfl rfl inB_X2 tyX2_ok nmX2 (by decide) tw2_50 rfl rfl rfl (Nat.le_of_ble_eq_true rfl) rfl dX2_prepare_62 rfl ?_
  refine w_nst h (fun u12 h => ?_)
  refine w_iconst C 0 dX2_prepare_65 rfl (by decide) ?_
  refine w_istore C [(5, .int 0), (4, .int x6), (0, .ref (ad 66)), (1, .ref (ad 30)), (2, .int a1), (3, .int a2)] dX2_prepare_66 rfl (by decide) rfl ?_
  refine w_sub (lv' := [(5, .int 0), (0, .ref (ad 66)), (1, .ref (ad 30)), (2, .int a1)]) [0, 2, 3, 4] rfl ?_
  refine lp_w (fun v13 : St × Int32 => WP X (gC D cI ad) 6 0 68 v13.1 [(5, .int v13.2), (0, .ref (ad 66)), (1, .ref (ad 30)), (2, .int a1)] []) (fun K14 hK15 v13 h => ?_) F _ h
  refine w_iload C dX2_prepare_68 rfl 0 rfl ?_
  refine w_aload_n C dX2_prepare_70 rfl 1 rfl ?_
  refine w_get C 66 4 (Nat.le_of_ble_eq_true rfl) rfl rfl inB_X2 (by decide) tw2_47 rfl dX2_prepare_71 rfl ?_
  refine w_icmp_ge C (qt := 101) dX2_prepare_74 (by decide) rfl h (fun _ h => ?_) (fun _ h => ?_)
  · exact w_rv hr h (by decide) dX2_prepare_101
  · refine w_aload_n C dX2_prepare_77 rfl 1 rfl ?_
    refine w_get C 66 2 (Nat.le_of_ble_eq_true rfl) rfl rfl inB_X2 (by decide) tw2_43 rfl dX2_prepare_78 rfl ?_
    refine w_iload C dX2_prepare_81 rfl 0 rfl ?_
    refine w_aload_n C dX2_prepare_83 rfl 2 rfl ?_
    refine w_get C 30 5 (Nat.le_of_ble_eq_true rfl) rfl rfl inB_X9 (by decide) tw1_204 rfl dX2_prepare_84 rfl ?_
    refine w_iload_n C dX2_prepare_87 rfl 3 rfl ?_
    refine w_iload C dX2_prepare_88 rfl 0 rfl ?_
    refine bd1_w h (fun r16 hc h => ?_)
    refine w_callNi C (n := 2) (As := [.int a1, .int v13.2]) (st := [.ref (ad 33), .int v13.2, .ref (ad 71)]) (host := RX10) (cfX10_placeOf D cI ad (l := X.2.1) C.2.2.1 hc) (by decide +kernel) cs_X10_placeOf (by decide +kernel) ⟨Nat.le_of_ble_eq_true rfl, Nat.le_of_ble_eq_true rfl⟩ (by decide) rfl rfl (Nat.le_of_ble_eq_true rfl) dX2_prepare_90 rfl ?_
    refine w_iald C 33 80 0 (Nat.le_of_ble_eq_true rfl) (fun _ => rfl) rfl h dX2_prepare_93 rfl (fun h => ?_)
    refine w_iast C 71 10 0 (Nat.le_of_ble_eq_true rfl) (fun _ => rfl) rfl h dX2_prepare_94 rfl (fun h => ?_)
    refine w_nst h (fun u17 h => ?_)
    refine w_iinc (j := 0) C (v13.2 + 1) [(5, .int (v13.2 + 1)), (0, .ref (ad 66)), (1, .ref (ad 30)), (2, .int a1)] dX2_prepare_95 rfl rfl rfl (by decide) rfl ?_
    refine w_goto (q := 68) C dX2_prepare_98 (by decide) ?_
    exact w_sub (lv' := [(5, .int (v13.2 + 1)), (0, .ref (ad 66)), (1, .ref (ad 30)), (2, .int a1)]) [0, 1, 2, 3] rfl (hK15 ((u17, v13.2 + 1)) h)
theorem cfX2_prepare (D : va_G) (cI : ClassId) (ad : Nat → Nat) {l : Launch} (had : gAp (gC D cI ad)) {F : Nat} {σ : St} {a1 : Int32} {a2 : Int32} {σ' : St} (h : fX2_prepare F σ a1 a2 = some σ') : MV l yX2_prepare (wB yX2_prepare cX2_prepare 6 none) 2 44 (gC D cI ad) [.ref (ad 66), .ref (ad 30), .int a1, .int a2] σ σ' := mk_MV had (by decide +kernel) (Nat.le_of_ble_eq_true rfl) (fun X hX C hr => wfX2_prepare C hr h)

def fX3_begin (F : Nat) (σ : St) (a0 : Int32) : Option St := nm (up σ 68 0 0) fun u1 => nm (up u1 68 1 (a0 - 1)) fun u2 => nm (up u2 69 0 (a0 / 2)) fun u3 => nm (up u3 69 1 (a0 / 2)) fun u4 => nm (up u4 70 0 0) fun u5 => nm (up u5 70 1 2) fun u6 => some u6
set_option maxRecDepth 20000 in
theorem wfX3_begin {X : XT} {D : va_G} {cI : ClassId} {ad : Nat → Nat} {F : Nat} {σ : St} {a0 : Int32} {σ' : St} (C : Cx X (gC D cI ad) cX3_begin 2 RX3 0 0 0) (hr : RetV X (gC D cI ad) cX3_begin 2 0 σ') (h : fX3_begin F σ a0 = some σ') : WP X (gC D cI ad) 2 0 0 σ [(0, .ref (ad 67)), (1, .int a0)] [] := by
  unfold fX3_begin at h
  refine w_aload_n C dX3_begin_0 rfl 0 rfl ?_
  refine w_get C 67 0 (Nat.le_of_ble_eq_true rfl) rfl rfl inB_X3 (by decide) tw2_24 rfl dX3_begin_1 rfl ?_
  refine w_iconst C 0 dX3_begin_4 rfl (by decide) ?_
  refine w_iconst C 0 dX3_begin_5 rfl (by decide) ?_
  refine w_iastc C 68 2 0 0 (Nat.le_of_ble_eq_true rfl) (fun _ => rfl) rfl (by decide) (by show ¬ (_ ∨ _); decide) dX3_begin_6 rfl ?_
  refine w_nst h (fun u1 h => ?_)
  refine w_aload_n C dX3_begin_7 rfl 0 rfl ?_
  refine w_get C 67 0 (Nat.le_of_ble_eq_true rfl) rfl rfl inB_X3 (by decide) tw2_24 rfl dX3_begin_8 rfl ?_
  refine w_iconst C 1 dX3_begin_11 rfl (by decide) ?_
  refine w_iload_n C dX3_begin_12 rfl 1 rfl ?_
  refine w_iconst C 1 dX3_begin_13 rfl (by decide) ?_
  refine w_isub C dX3_begin_14 rfl ?_
  refine w_iastc C 68 2 0 1 (Nat.le_of_ble_eq_true rfl) (fun _ => rfl) rfl (by decide) (by show ¬ (_ ∨ _); decide) dX3_begin_15 rfl ?_
  refine w_nst h (fun u2 h => ?_)
  refine w_aload_n C dX3_begin_16 rfl 0 rfl ?_
  refine w_get C 67 1 (Nat.le_of_ble_eq_true rfl) rfl rfl inB_X3 (by decide) tw2_27 rfl dX3_begin_17 rfl ?_
  refine w_iconst C 0 dX3_begin_20 rfl (by decide) ?_
  refine w_iload_n C dX3_begin_21 rfl 1 rfl ?_
  refine w_iconst C 2 dX3_begin_22 rfl (by decide) ?_
  refine w_idiv C (by decide) dX3_begin_23 rfl ?_
  refine w_iastc C 69 2 0 0 (Nat.le_of_ble_eq_true rfl) (fun _ => rfl) rfl (by decide) (by show ¬ (_ ∨ _); decide) dX3_begin_24 rfl ?_
  refine w_nst h (fun u3 h => ?_)
  refine w_aload_n C dX3_begin_25 rfl 0 rfl ?_
  refine w_get C 67 1 (Nat.le_of_ble_eq_true rfl) rfl rfl inB_X3 (by decide) tw2_27 rfl dX3_begin_26 rfl ?_
  refine w_iconst C 1 dX3_begin_29 rfl (by decide) ?_
  refine w_iload_n C dX3_begin_30 rfl 1 rfl ?_
  refine w_iconst C 2 dX3_begin_31 rfl (by decide) ?_
  refine w_idiv C (by decide) dX3_begin_32 rfl ?_
  refine w_iastc C 69 2 0 1 (Nat.le_of_ble_eq_true rfl) (fun _ => rfl) rfl (by decide) (by show ¬ (_ ∨ _); decide) dX3_begin_33 rfl ?_
  refine w_nst h (fun u4 h => ?_)
  refine w_aload_n C dX3_begin_34 rfl 0 rfl ?_
  refine w_get C 67 2 (Nat.le_of_ble_eq_true rfl) rfl rfl inB_X3 (by decide) tw2_30 rfl dX3_begin_35 rfl ?_
  refine w_iconst C 0 dX3_begin_38 rfl (by decide) ?_
  refine w_iconst C 0 dX3_begin_39 rfl (by decide) ?_
  refine w_iastc C 70 2 0 0 (Nat.le_of_ble_eq_true rfl) (fun _ => rfl) rfl (by decide) (by show ¬ (_ ∨ _); decide) dX3_begin_40 rfl ?_
  refine w_nst h (fun u5 h => ?_)
  refine w_aload_n C dX3_begin_41 rfl 0 rfl ?_
  refine w_get C 67 2 (Nat.le_of_ble_eq_true rfl) rfl rfl inB_X3 (by decide) tw2_30 rfl dX3_begin_42 rfl ?_
  refine w_iconst C 1 dX3_begin_45 rfl (by decide) ?_
  refine w_iconst C 2 dX3_begin_46 rfl (by decide) ?_
  refine w_iastc C 70 2 0 1 (Nat.le_of_ble_eq_true rfl) (fun _ => rfl) rfl (by decide) (by show ¬ (_ ∨ _); decide) dX3_begin_47 rfl ?_
  refine w_nst h (fun u6 h => ?_)
  exact w_rv hr h (by decide) dX3_begin_48
theorem cfX3_begin (D : va_G) (cI : ClassId) (ad : Nat → Nat) {l : Launch} (had : gAp (gC D cI ad)) {F : Nat} {σ : St} {a0 : Int32} {σ' : St} (h : fX3_begin F σ a0 = some σ') : MV l yX3_begin (wB yX3_begin cX3_begin 2 none) 0 0 (gC D cI ad) [.ref (ad 67), .int a0] σ σ' := mk_MV had (by decide +kernel) (Nat.le_of_ble_eq_true rfl) (fun X hX C hr => wfX3_begin C hr h)

def fX3_advance (F : Nat) (σ : St) (a0 : Int32) (a1 : Int32) (a2 : Int32) (a3 : Int32) : Option (Int32 × St) := nm (σ 68 0) fun x1 => nm (σ 69 0) fun x2 => nm (σ 68 1) fun x3 => nm (σ 69 1) fun x4 => lp (fun (K6 : (St × Int32 × Int32) → Option (Int32 × St)) (v5 : St × Int32 × Int32) => if (1 : Int32) < v5.2.1 then (if v5.2.2 = 0 then (nm (up v5.1 68 0 x1) fun u8 => nm (up u8 69 0 x2) fun u9 => nm (up u9 68 1 x3) fun u10 => nm (up u10 69 1 x4) fun u11 => ckB (v5.2.2) (some (v5.2.2, u11))) else ckB (v5.2.2) (some (v5.2.2, v5.1))) else jn (fun v12 : Int32 => lp (fun (K16 : (St × Int32 × Int32) → Option (Int32 × St)) (v15 : St × Int32 × Int32) => if v12 ≤ v15.2.1 then (K6 ((v15.1, v5.2.1 + 1, v15.2.2))) else if v15.2.2 = 0 then (K6 ((v15.1, v5.2.1 + 1, v15.2.2))) else jn (fun v18 : Unit => ckI (v5.2.1) 2 (ckI (v5.2.1) 2 (ckI (v15.1 70 (Int32.toNatClampNeg v5.2.1)) 4 (ckI (v5.2.1) 2 (nm (up v15.1 68 (Int32.toNatClampNeg v5.2.1) ((v15.1 68 (Int32.toNatClampNeg v5.2.1)) + (dAL (Int32.toNatClampNeg (v15.1 70 (Int32.toNatClampNeg v5.2.1)))))) fun u21 => ckI (v5.2.1) 2 (ckI (v5.2.1) 2 (ckI (u21 70 (Int32.toNatClampNeg v5.2.1)) 4 (ckI (v5.2.1) 2 (nm (up u21 69 (Int32.toNatClampNeg v5.2.1) ((u21 69 (Int32.toNatClampNeg v5.2.1)) + (dDN (Int32.toNatClampNeg (u21 70 (Int32.toNatClampNeg v5.2.1)))))) fun u22 => ckI (v5.2.1) 2 (if (u22 68 (Int32.toNatClampNeg v5.2.1)) < 0 then (K16 ((u22, v15.2.1 + 1, 0))) else ckI (v5.2.1) 2 (if a3 ≤ (u22 68 (Int32.toNatClampNeg v5.2.1)) then (K16 ((u22, v15.2.1 + 1, 0))) else ckI (v5.2.1) 2 (if (u22 69 (Int32.toNatClampNeg v5.2.1)) < 0 then (K16 ((u22, v15.2.1 + 1, 0))) else ckI (v5.2.1) 2 (if a3 ≤ (u22 69 (Int32.toNatClampNeg v5.2.1)) then (K16 ((u22, v15.2.1 + 1, 0))) else if (u22 68 0) = (u22 68 1) then (if (u22 69 0) = (u22 69 1) then (K16 ((u22, v15.2.1 + 1, 0))) else K16 ((u22, v15.2.1 + 1, 1))) else K16 ((u22, v15.2.1 + 1, 1))))))))))))))) fun J19 => if a0 = (2 : Int32) then (J19 (())) else if a0 = v5.2.1 then (J19 (())) else K6 ((v15.1, v5.2.1 + 1, v15.2.2))) F ((v5.1, 0, v5.2.2))) fun J13 => if v5.2.1 = 0 then (J13 a1) else J13 a2) F ((σ, 0, 1))
set_option maxRecDepth 20000 in
theorem wfX3_advance {X : XT} {D : va_G} {cI : ClassId} {ad : Nat → Nat} {F : Nat} {σ : St} {a0 : Int32} {a1 : Int32} {a2 : Int32} {a3 : Int32} {r : Int32} {σ' : St} (C : Cx X (gC D cI ad) cX3_advance 13 RX3 0 0 0) (hr : RetZ X (gC D cI ad) cX3_advance 13 0 r σ') (h : fX3_advance F σ a0 a1 a2 a3 = some (r, σ')) : WP X (gC D cI ad) 13 0 0 σ [(0, .ref (ad 67)), (1, .int a0), (2, .int a1), (3, .int a2), (4, .int a3)] [] := by
  unfold fX3_advance at h
  refine w_aload_n C dX3_advance_0 rfl 0 rfl ?_
  refine w_get C 67 0 (Nat.le_of_ble_eq_true rfl) rfl rfl inB_X3 (by decide) tw2_24 rfl dX3_advance_1 rfl ?_
  refine w_iconst C 0 dX3_advance_4 rfl (by decide) ?_
  refine w_ialdc C 68 2 0 0 (Nat.le_of_ble_eq_true rfl) (fun _ => rfl) rfl (by decide) (by show ¬ (_ ∨ _); decide) dX3_advance_5 rfl ?_
  refine w_nm h (fun x1 h => ?_)
  refine w_istore C [(5, .int x1), (0, .ref (ad 67)), (1, .int a0), (2, .int a1), (3, .int a2), (4, .int a3)] dX3_advance_6 rfl (by decide) rfl ?_
  refine w_aload_n C dX3_advance_8 rfl 1 rfl ?_
  refine w_get C 67 1 (Nat.le_of_ble_eq_true rfl) rfl rfl inB_X3 (by decide) tw2_27 rfl dX3_advance_9 rfl ?_
  refine w_iconst C 0 dX3_advance_12 rfl (by decide) ?_
  refine w_ialdc C 69 2 0 0 (Nat.le_of_ble_eq_true rfl) (fun _ => rfl) rfl (by decide) (by show ¬ (_ ∨ _); decide) dX3_advance_13 rfl ?_
  refine w_nm h (fun x2 h => ?_)
  refine w_istore C [(6, .int x2), (5, .int x1), (0, .ref (ad 67)), (1, .int a0), (2, .int a1), (3, .int a2), (4, .int a3)] dX3_advance_14 rfl (by decide) rfl ?_
  refine w_aload_n C dX3_advance_16 rfl 2 rfl ?_
  refine w_get C 67 0 (Nat.le_of_ble_eq_true rfl) rfl rfl inB_X3 (by decide) tw2_24 rfl dX3_advance_17 rfl ?_
  refine w_iconst C 1 dX3_advance_20 rfl (by decide) ?_
  refine w_ialdc C 68 2 0 1 (Nat.le_of_ble_eq_true rfl) (fun _ => rfl) rfl (by decide) (by show ¬ (_ ∨ _); decide) dX3_advance_21 rfl ?_
  refine w_nm h (fun x3 h => ?_)
  refine w_istore C [(7, .int x3), (6, .int x2), (5, .int x1), (0, .ref (ad 67)), (1, .int a0), (2, .int a1), (3, .int a2), (4, .int a3)] dX3_advance_22 rfl (by decide) rfl ?_
  refine w_aload_n C dX3_advance_24 rfl 3 rfl ?_
  refine w_get C 67 1 (Nat.le_of_ble_eq_true rfl) rfl rfl inB_X3 (by decide) tw2_27 rfl dX3_advance_25 rfl ?_
  refine w_iconst C 1 dX3_advance_28 rfl (by decide) ?_
  refine w_ialdc C 69 2 0 1 (Nat.le_of_ble_eq_true rfl) (fun _ => rfl) rfl (by decide) (by show ¬ (_ ∨ _); decide) dX3_advance_29 rfl ?_
  refine w_nm h (fun x4 h => ?_)
  refine w_istore C [(8, .int x4), (7, .int x3), (6, .int x2), (5, .int x1), (0, .ref (ad 67)), (1, .int a0), (2, .int a1), (3, .int a2), (4, .int a3)] dX3_advance_30 rfl (by decide) rfl ?_
  refine w_iconst C 1 dX3_advance_32 rfl (by decide) ?_
  refine w_istore C [(9, .int 1), (8, .int x4), (7, .int x3), (6, .int x2), (5, .int x1), (0, .ref (ad 67)), (1, .int a0), (2, .int a1), (3, .int a2), (4, .int a3)] dX3_advance_33 rfl (by decide) rfl ?_
  refine w_iconst C 0 dX3_advance_35 rfl (by decide) ?_
  refine w_istore C [(10, .int 0), (9, .int 1), (8, .int x4), (7, .int x3), (6, .int x2), (5, .int x1), (0, .ref (ad 67)), (1, .int a0), (2, .int a1), (3, .int a2), (4, .int a3)] dX3_advance_36 rfl (by decide) rfl ?_
  refine w_sub (lv' := [(10, .int 0), (9, .int 1), (8, .int x4), (7, .int x3), (6, .int x2), (5, .int x1), (0, .ref (ad 67)), (1, .int a0), (2, .int a1), (3, .int a2), (4, .int a3)]) [0, 1, 2, 3, 4, 5, 6, 7, 8, 9, 10] rfl ?_
  refine lp_w (fun v5 : St × Int32 × Int32 => WP X (gC D cI ad) 13 0 38 v5.1 [(10, .int v5.2.1), (9, .int v5.2.2), (8, .int x4), (7, .int x3), (6, .int x2), (5, .int x1), (0, .ref (ad 67)), (1, .int a0), (2, .int a1), (3, .int a2), (4, .int a3)] []) (fun K6 hK7 v5 h => ?_) F _ h
  refine w_iload C dX3_advance_38 rfl 0 rfl ?_
  refine w_iconst C 1 dX3_advance_40 rfl (by decide) ?_
  refine w_icmp_gt C (qt := 217) dX3_advance_41 (by decide) rfl h (fun _ h => ?_) (fun _ h => ?_)
  · refine w_iload C dX3_advance_217 rfl 1 rfl ?_
    refine w_if_ne C (qt := 254) dX3_advance_219 (by decide) rfl h (fun _ h => ?_) (fun _ h => ?_)
    · refine w_iload C dX3_advance_254 rfl 1 rfl ?_
      obtain ⟨hz, h⟩ := ckB_w h
      exact w_rz2 hr hz h (by decide) dX3_advance_256
    · refine w_aload_n C dX3_advance_222 rfl 6 rfl ?_
      refine w_get C 67 0 (Nat.le_of_ble_eq_true rfl) rfl rfl inB_X3 (by decide) tw2_24 rfl dX3_advance_223 rfl ?_
      refine w_iconst C 0 dX3_advance_226 rfl (by decide) ?_
      refine w_iload C dX3_advance_227 rfl 5 rfl ?_
      refine w_iastc C 68 2 0 0 (Nat.le_of_ble_eq_true rfl) (fun _ => rfl) rfl (by decide) (by show ¬ (_ ∨ _); decide) dX3_advance_229 rfl ?_
      refine w_nst h (fun u8 h => ?_)
      refine w_aload_n C dX3_advance_230 rfl 6 rfl ?_
      refine w_get C 67 1 (Nat.le_of_ble_eq_true rfl) rfl rfl inB_X3 (by decide) tw2_27 rfl dX3_advance_231 rfl ?_
      refine w_iconst C 0 dX3_advance_234 rfl (by decide) ?_
      refine w_iload C dX3_advance_235 rfl 4 rfl ?_
      refine w_iastc C 69 2 0 0 (Nat.le_of_ble_eq_true rfl) (fun _ => rfl) rfl (by decide) (by show ¬ (_ ∨ _); decide) dX3_advance_237 rfl ?_
      refine w_nst h (fun u9 h => ?_)
      refine w_aload_n C dX3_advance_238 rfl 6 rfl ?_
      refine w_get C 67 0 (Nat.le_of_ble_eq_true rfl) rfl rfl inB_X3 (by decide) tw2_24 rfl dX3_advance_239 rfl ?_
      refine w_iconst C 1 dX3_advance_242 rfl (by decide) ?_
      refine w_iload C dX3_advance_243 rfl 3 rfl ?_
      refine w_iastc C 68 2 0 1 (Nat.le_of_ble_eq_true rfl) (fun _ => rfl) rfl (by decide) (by show ¬ (_ ∨ _); decide) dX3_advance_245 rfl ?_
      refine w_nst h (fun u10 h => ?_)
      refine w_aload_n C dX3_advance_246 rfl 6 rfl ?_
      refine w_get C 67 1 (Nat.le_of_ble_eq_true rfl) rfl rfl inB_X3 (by decide) tw2_27 rfl dX3_advance_247 rfl ?_
      refine w_iconst C 1 dX3_advance_250 rfl (by decide) ?_
      refine w_iload C dX3_advance_251 rfl 2 rfl ?_
      refine w_iastc C 69 2 0 1 (Nat.le_of_ble_eq_true rfl) (fun _ => rfl) rfl (by decide) (by show ¬ (_ ∨ _); decide) dX3_advance_253 rfl ?_
      refine w_nst h (fun u11 h => ?_)
      refine w_iload C dX3_advance_254 rfl 1 rfl ?_
      obtain ⟨hz, h⟩ := ckB_w h
      exact w_rz2 hr hz h (by decide) dX3_advance_256
  · refine w_iload C dX3_advance_44 rfl 0 rfl ?_
    refine jn_w (fun v12 : Int32 => WP X (gC D cI ad) 13 0 54 v5.1 [(10, .int v5.2.1), (9, .int v5.2.2), (8, .int x4), (7, .int x3), (6, .int x2), (5, .int x1), (0, .ref (ad 67)), (1, .int a0), (2, .int a1), (3, .int a2), (4, .int a3)] [.int v12]) h (fun v12 h => ?_) (fun J13 hJ14 h => ?_)
    · refine w_istore C [(11, .int v12), (10, .int v5.2.1), (9, .int v5.2.2), (8, .int x4), (7, .int x3), (6, .int x2), (5, .int x1), (0, .ref (ad 67)), (1, .int a0), (2, .int a1), (3, .int a2), (4, .int a3)] dX3_advance_54 rfl (by decide) rfl ?_
      refine w_iconst C 0 dX3_advance_56 rfl (by decide) ?_
      refine w_istore C [(12, .int 0), (11, .int v12), (10, .int v5.2.1), (9, .int v5.2.2), (8, .int x4), (7, .int x3), (6, .int x2), (5, .int x1), (0, .ref (ad 67)), (1, .int a0), (2, .int a1), (3, .int a2), (4, .int a3)] dX3_advance_57 rfl (by decide) rfl ?_
      refine w_sub (lv' := [(12, .int 0), (11, .int v12), (10, .int v5.2.1), (9, .int v5.2.2), (8, .int x4), (7, .int x3), (6, .int x2), (5, .int x1), (0, .ref (ad 67)), (1, .int a0), (2, .int a1), (3, .int a2), (4, .int a3)]) [0, 1, 2, 3, 4, 5, 6, 7, 8, 9, 10, 11, 12] rfl ?_
      refine lp_w (fun v15 : St × Int32 × Int32 => WP X (gC D cI ad) 13 0 59 v15.1 [(12, .int v15.2.1), (11, .int v12), (10, .int v5.2.1), (9, .int v15.2.2), (8, .int x4), (7, .int x3), (6, .int x2), (5, .int x1), (0, .ref (ad 67)), (1, .int a0), (2, .int a1), (3, .int a2), (4, .int a3)] []) (fun K16 hK17 v15 h => ?_) F _ h
      refine w_iload C dX3_advance_59 rfl 0 rfl ?_
      refine w_iload C dX3_advance_61 rfl 1 rfl ?_
      refine w_icmp_ge C (qt := 211) dX3_advance_63 (by decide) rfl h (fun _ h => ?_) (fun _ h => ?_)
      · refine w_iinc (j := 2) C (v5.2.1 + 1) [(10, .int (v5.2.1 + 1)), (12, .int v15.2.1), (11, .int v12), (9, .int v15.2.2), (8, .int x4), (7, .int x3), (6, .int x2), (5, .int x1), (0, .ref (ad 67)), (1, .int a0), (2, .int a1), (3, .int a2), (4, .int a3)] dX3_advance_211 rfl rfl rfl (by decide) rfl ?_
        refine w_goto (q := 38) C dX3_advance_214 (by decide) ?_
        exact w_sub (lv' := [(10, .int (v5.2.1 + 1)), (9, .int v15.2.2), (8, .int x4), (7, .int x3), (6, .int x2), (5, .int x1), (0, .ref (ad 67)), (1, .int a0), (2, .int a1), (3, .int a2), (4, .int a3)]) [0, 3, 4, 5, 6, 7, 8, 9, 10, 11, 12] rfl (hK7 ((v15.1, v5.2.1 + 1, v15.2.2)) h)
      · refine w_iload C dX3_advance_66 rfl 3 rfl ?_
        refine w_if_eq C (qt := 211) dX3_advance_68 (by decide) rfl h (fun _ h => ?_) (fun _ h => ?_)
        · refine w_iinc (j := 2) C (v5.2.1 + 1) [(10, .int (v5.2.1 + 1)), (12, .int v15.2.1), (11, .int v12), (9, .int v15.2.2), (8, .int x4), (7, .int x3), (6, .int x2), (5, .int x1), (0, .ref (ad 67)), (1, .int a0), (2, .int a1), (3, .int a2), (4, .int a3)] dX3_advance_211 rfl rfl rfl (by decide) rfl ?_
          refine w_goto (q := 38) C dX3_advance_214 (by decide) ?_
          exact w_sub (lv' := [(10, .int (v5.2.1 + 1)), (9, .int v15.2.2), (8, .int x4), (7, .int x3), (6, .int x2), (5, .int x1), (0, .ref (ad 67)), (1, .int a0), (2, .int a1), (3, .int a2), (4, .int a3)]) [0, 3, 4, 5, 6, 7, 8, 9, 10, 11, 12] rfl (hK7 ((v15.1, v5.2.1 + 1, v15.2.2)) h)
        · refine w_iload_n C dX3_advance_71 rfl 9 rfl ?_
          refine w_iconst C 2 dX3_advance_72 rfl (by decide) ?_
          refine jn_w (fun v18 : Unit => WP X (gC D cI ad) 13 0 82 v15.1 [(12, .int v15.2.1), (11, .int v12), (10, .int v5.2.1), (8, .int x4), (7, .int x3), (6, .int x2), (5, .int x1), (0, .ref (ad 67)), (1, .int a0), (2, .int a1), (3, .int a2), (4, .int a3)] []) h (fun v18 h => ?_) (fun J19 hJ20 h => ?_)
          · refine w_aload_n C dX3_advance_82 rfl 7 rfl ?_
            refine w_get C 67 0 (Nat.le_of_ble_eq_true rfl) rfl rfl inB_X3 (by decide) tw2_24 rfl dX3_advance_83 rfl ?_
            refine w_iload C dX3_advance_86 rfl 2 rfl ?_
            refine w_dup2 C rfl rfl dX3_advance_88 rfl ?_
            refine w_iald C 68 2 0 (Nat.le_of_ble_eq_true rfl) (fun _ => rfl) rfl h dX3_advance_89 rfl (fun h => ?_)
            refine w_gets C C.2.2.2.1.2.1.1 tw4_129 dX3_advance_90 rfl ?_
            refine w_aload_n C dX3_advance_93 rfl 7 rfl ?_
            refine w_get C 67 2 (Nat.le_of_ble_eq_true rfl) rfl rfl inB_X3 (by decide) tw2_30 rfl dX3_advance_94 rfl ?_
            refine w_iload C dX3_advance_97 rfl 2 rfl ?_
            refine w_iald C 70 2 0 (Nat.le_of_ble_eq_true rfl) (fun _ => rfl) rfl h dX3_advance_99 rfl (fun h => ?_)
            refine w_tald C C.2.2.2.1.2.1.2 h dX3_advance_100 rfl (fun h => ?_)
            refine w_iadd C dX3_advance_101 rfl ?_
            refine w_iast C 68 2 0 (Nat.le_of_ble_eq_true rfl) (fun _ => rfl) rfl h dX3_advance_102 rfl (fun h => ?_)
            refine w_nst h (fun u21 h => ?_)
            refine w_aload_n C dX3_advance_103 rfl 7 rfl ?_
            refine w_get C 67 1 (Nat.le_of_ble_eq_true rfl) rfl rfl inB_X3 (by decide) tw2_27 rfl dX3_advance_104 rfl ?_
            refine w_iload C dX3_advance_107 rfl 2 rfl ?_
            refine w_dup2 C rfl rfl dX3_advance_109 rfl ?_
            refine w_iald C 69 2 0 (Nat.le_of_ble_eq_true rfl) (fun _ => rfl) rfl h dX3_advance_110 rfl (fun h => ?_)
            refine w_gets C C.2.2.2.1.2.2.1.1 tw4_131 dX3_advance_111 rfl ?_
            refine w_aload_n C dX3_advance_114 rfl 7 rfl ?_
            refine w_get C 67 2 (Nat.le_of_ble_eq_true rfl) rfl rfl inB_X3 (by decide) tw2_30 rfl dX3_advance_115 rfl ?_
            refine w_iload C dX3_advance_118 rfl 2 rfl ?_
            refine w_iald C 70 2 0 (Nat.le_of_ble_eq_true rfl) (fun _ => rfl) rfl h dX3_advance_120 rfl (fun h => ?_)
            refine w_tald C C.2.2.2.1.2.2.1.2 h dX3_advance_121 rfl (fun h => ?_)
            refine w_iadd C dX3_advance_122 rfl ?_
            refine w_iast C 69 2 0 (Nat.le_of_ble_eq_true rfl) (fun _ => rfl) rfl h dX3_advance_123 rfl (fun h => ?_)
            refine w_nst h (fun u22 h => ?_)
            refine w_aload_n C dX3_advance_124 rfl 7 rfl ?_
            refine w_get C 67 0 (Nat.le_of_ble_eq_true rfl) rfl rfl inB_X3 (by decide) tw2_24 rfl dX3_advance_125 rfl ?_
            refine w_iload C dX3_advance_128 rfl 2 rfl ?_
            refine w_iald C 68 2 0 (Nat.le_of_ble_eq_true rfl) (fun _ => rfl) rfl h dX3_advance_130 rfl (fun h => ?_)
            refine w_if_lt C (qt := 202) dX3_advance_131 (by decide) rfl h (fun _ h => ?_) (fun _ h => ?_)
            · refine w_iconst C 0 dX3_advance_202 rfl (by decide) ?_
              refine w_istore C [(9, .int 0), (12, .int v15.2.1), (11, .int v12), (10, .int v5.2.1), (8, .int x4), (7, .int x3), (6, .int x2), (5, .int x1), (0, .ref (ad 67)), (1, .int a0), (2, .int a1), (3, .int a2), (4, .int a3)] dX3_advance_203 rfl (by decide) rfl ?_
              refine w_iinc (j := 1) C (v15.2.1 + 1) [(12, .int (v15.2.1 + 1)), (9, .int 0), (11, .int v12), (10, .int v5.2.1), (8, .int x4), (7, .int x3), (6, .int x2), (5, .int x1), (0, .ref (ad 67)), (1, .int a0), (2, .int a1), (3, .int a2), (4, .int a3)] dX3_advance_205 rfl rfl rfl (by decide) rfl ?_
              refine w_goto (q := 59) C dX3_advance_208 (by decide) ?_
              exact w_sub (lv' := [(12, .int (v15.2.1 + 1)), (11, .int v12), (10, .int v5.2.1), (9, .int 0), (8, .int x4), (7, .int x3), (6, .int x2), (5, .int x1), (0, .ref (ad 67)), (1, .int a0), (2, .int a1), (3, .int a2), (4, .int a3)]) [0, 2, 3, 1, 4, 5, 6, 7, 8, 9, 10, 11, 12] rfl (hK17 ((u22, v15.2.1 + 1, 0)) h)
            · refine w_aload_n C dX3_advance_134 rfl 7 rfl ?_
              refine w_get C 67 0 (Nat.le_of_ble_eq_true rfl) rfl rfl inB_X3 (by decide) tw2_24 rfl dX3_advance_135 rfl ?_
              refine w_iload C dX3_advance_138 rfl 2 rfl ?_
              refine w_iald C 68 2 0 (Nat.le_of_ble_eq_true rfl) (fun _ => rfl) rfl h dX3_advance_140 rfl (fun h => ?_)
              refine w_iload C dX3_advance_141 rfl 11 rfl ?_
              refine w_icmp_ge C (qt := 202) dX3_advance_143 (by decide) rfl h (fun _ h => ?_) (fun _ h => ?_)
              · refine w_iconst C 0 dX3_advance_202 rfl (by decide) ?_
                refine w_istore C [(9, .int 0), (12, .int v15.2.1), (11, .int v12), (10, .int v5.2.1), (8, .int x4), (7, .int x3), (6, .int x2), (5, .int x1), (0, .ref (ad 67)), (1, .int a0), (2, .int a1), (3, .int a2), (4, .int a3)] dX3_advance_203 rfl (by decide) rfl ?_
                refine w_iinc (j := 1) C (v15.2.1 + 1) [(12, .int (v15.2.1 + 1)), (9, .int 0), (11, .int v12), (10, .int v5.2.1), (8, .int x4), (7, .int x3), (6, .int x2), (5, .int x1), (0, .ref (ad 67)), (1, .int a0), (2, .int a1), (3, .int a2), (4, .int a3)] dX3_advance_205 rfl rfl rfl (by decide) rfl ?_
                refine w_goto (q := 59) C dX3_advance_208 (by decide) ?_
                exact w_sub (lv' := [(12, .int (v15.2.1 + 1)), (11, .int v12), (10, .int v5.2.1), (9, .int 0), (8, .int x4), (7, .int x3), (6, .int x2), (5, .int x1), (0, .ref (ad 67)), (1, .int a0), (2, .int a1), (3, .int a2), (4, .int a3)]) [0, 2, 3, 1, 4, 5, 6, 7, 8, 9, 10, 11, 12] rfl (hK17 ((u22, v15.2.1 + 1, 0)) h)
              · refine w_aload_n C dX3_advance_146 rfl 7 rfl ?_
                refine w_get C 67 1 (Nat.le_of_ble_eq_true rfl) rfl rfl inB_X3 (by decide) tw2_27 rfl dX3_advance_147 rfl ?_
                refine w_iload C dX3_advance_150 rfl 2 rfl ?_
                refine w_iald C 69 2 0 (Nat.le_of_ble_eq_true rfl) (fun _ => rfl) rfl h dX3_advance_152 rfl (fun h => ?_)
                refine w_if_lt C (qt := 202) dX3_advance_153 (by decide) rfl h (fun _ h => ?_) (fun _ h => ?_)
                · refine w_iconst C 0 dX3_advance_202 rfl (by decide) ?_
                  refine w_istore C [(9, .int 0), (12, .int v15.2.1), (11, .int v12), (10, .int v5.2.1), (8, .int x4), (7, .int x3), (6, .int x2), (5, .int x1), (0, .ref (ad 67)), (1, .int a0), (2, .int a1), (3, .int a2), (4, .int a3)] dX3_advance_203 rfl (by decide) rfl ?_
                  refine w_iinc (j := 1) C (v15.2.1 + 1) [(12, .int (v15.2.1 + 1)), (9, .int 0), (11, .int v12), (10, .int v5.2.1), (8, .int x4), (7, .int x3), (6, .int x2), (5, .int x1), (0, .ref (ad 67)), (1, .int a0), (2, .int a1), (3, .int a2), (4, .int a3)] dX3_advance_205 rfl rfl rfl (by decide) rfl ?_
                  refine w_goto (q := 59) C dX3_advance_208 (by decide) ?_
                  exact w_sub (lv' := [(12, .int (v15.2.1 + 1)), (11, .int v12), (10, .int v5.2.1), (9, .int 0), (8, .int x4), (7, .int x3), (6, .int x2), (5, .int x1), (0, .ref (ad 67)), (1, .int a0), (2, .int a1), (3, .int a2), (4, .int a3)]) [0, 2, 3, 1, 4, 5, 6, 7, 8, 9, 10, 11, 12] rfl (hK17 ((u22, v15.2.1 + 1, 0)) h)
                · refine w_aload_n C dX3_advance_156 rfl 7 rfl ?_
                  refine w_get C 67 1 (Nat.le_of_ble_eq_true rfl) rfl rfl inB_X3 (by decide) tw2_27 rfl dX3_advance_157 rfl ?_
                  refine w_iload C dX3_advance_160 rfl 2 rfl ?_
                  refine w_iald C 69 2 0 (Nat.le_of_ble_eq_true rfl) (fun _ => rfl) rfl h dX3_advance_162 rfl (fun h => ?_)
                  refine w_iload C dX3_advance_163 rfl 11 rfl ?_
                  refine w_icmp_ge C (qt := 202) dX3_advance_165 (by decide) rfl h (fun _ h => ?_) (fun _ h => ?_)
                  · refine w_iconst C 0 dX3_advance_202 rfl (by decide) ?_
                    refine w_istore C [(9, .int 0), (12, .int v15.2.1), (11, .int v12), (10, .int v5.2.1), (8, .int x4), (7, .int x3), (6, .int x2), (5, .int x1), (0, .ref (ad 67)), (1, .int a0), (2, .int a1), (3, .int a2), (4, .int a3)] dX3_advance_203 rfl (by decide) rfl ?_
                    refine w_iinc (j := 1) C (v15.2.1 + 1) [(12, .int (v15.2.1 + 1)), (9, .int 0), (11, .int v12), (10, .int v5.2.1), (8, .int x4), (7, .int x3), (6, .int x2), (5, .int x1), (0, .ref (ad 67)), (1, .int a0), (2, .int a1), (3, .int a2), (4, .int a3)] dX3_advance_205 rfl rfl rfl (by decide) rfl ?_
                    refine w_goto (q := 59) C dX3_advance_208 (by decide) ?_
                    exact w_sub (lv' := [(12, .int (v15.2.1 + 1)), (11, .int v12), (10, .int v5.2.1), (9, .int 0), (8, .int x4), (7, .int x3), (6, .int x2), (5, .int x1), (0, .ref (ad 67)), (1, .int a0), (2, .int a1), (3, .int a2), (4, .int a3)]) [0, 2, 3, 1, 4, 5, 6, 7, 8, 9, 10, 11, 12] rfl (hK17 ((u22, v15.2.1 + 1, 0)) h)
                  · refine w_aload_n C dX3_advance_168 rfl 7 rfl ?_
                    refine w_get C 67 0 (Nat.le_of_ble_eq_true rfl) rfl rfl inB_X3 (by decide) tw2_24 rfl dX3_advance_169 rfl ?_
                    refine w_iconst C 0 dX3_advance_172 rfl (by decide) ?_
                    refine w_ialdc C 68 2 0 0 (Nat.le_of_ble_eq_true rfl) (fun _ => rfl) rfl (by decide) (by show ¬ (_ ∨ _); decide) dX3_advance_173 rfl ?_
                    refine w_aload_n C dX3_advance_174 rfl 7 rfl ?_
                    refine w_get C 67 0 (Nat.le_of_ble_eq_true rfl) rfl rfl inB_X3 (by decide) tw2_24 rfl dX3_advance_175 rfl ?_
                    refine w_iconst C 1 dX3_advance_178 rfl (by decide) ?_
                    refine w_ialdc C 68 2 0 1 (Nat.le_of_ble_eq_true rfl) (fun _ => rfl) rfl (by decide) (by show ¬ (_ ∨ _); decide) dX3_advance_179 rfl ?_
                    refine w_icmp_ne C (qt := 198) dX3_advance_180 (by decide) rfl h (fun _ h => ?_) (fun _ h => ?_)
                    · refine w_iconst C 1 dX3_advance_198 rfl (by decide) ?_
                      refine w_goto (q := 203) C dX3_advance_199 (by decide) ?_
                      refine w_istore C [(9, .int 1), (12, .int v15.2.1), (11, .int v12), (10, .int v5.2.1), (8, .int x4), (7, .int x3), (6, .int x2), (5, .int x1), (0, .ref (ad 67)), (1, .int a0), (2, .int a1), (3, .int a2), (4, .int a3)] dX3_advance_203 rfl (by decide) rfl ?_
                      refine w_iinc (j := 1) C (v15.2.1 + 1) [(12, .int (v15.2.1 + 1)), (9, .int 1), (11, .int v12), (10, .int v5.2.1), (8, .int x4), (7, .int x3), (6, .int x2), (5, .int x1), (0, .ref (ad 67)), (1, .int a0), (2, .int a1), (3, .int a2), (4, .int a3)] dX3_advance_205 rfl rfl rfl (by decide) rfl ?_
                      refine w_goto (q := 59) C dX3_advance_208 (by decide) ?_
                      exact w_sub (lv' := [(12, .int (v15.2.1 + 1)), (11, .int v12), (10, .int v5.2.1), (9, .int 1), (8, .int x4), (7, .int x3), (6, .int x2), (5, .int x1), (0, .ref (ad 67)), (1, .int a0), (2, .int a1), (3, .int a2), (4, .int a3)]) [0, 2, 3, 1, 4, 5, 6, 7, 8, 9, 10, 11, 12] rfl (hK17 ((u22, v15.2.1 + 1, 1)) h)
                    · refine w_aload_n C dX3_advance_183 rfl 7 rfl ?_
                      refine w_get C 67 1 (Nat.le_of_ble_eq_true rfl) rfl rfl inB_X3 (by decide) tw2_27 rfl dX3_advance_184 rfl ?_
                      refine w_iconst C 0 dX3_advance_187 rfl (by decide) ?_
                      refine w_ialdc C 69 2 0 0 (Nat.le_of_ble_eq_true rfl) (fun _ => rfl) rfl (by decide) (by show ¬ (_ ∨ _); decide) dX3_advance_188 rfl ?_
                      refine w_aload_n C dX3_advance_189 rfl 7 rfl ?_
                      refine w_get C 67 1 (Nat.le_of_ble_eq_true rfl) rfl rfl inB_X3 (by decide) tw2_27 rfl dX3_advance_190 rfl ?_
                      refine w_iconst C 1 dX3_advance_193 rfl (by decide) ?_
                      refine w_ialdc C 69 2 0 1 (Nat.le_of_ble_eq_true rfl) (fun _ => rfl) rfl (by decide) (by show ¬ (_ ∨ _); decide) dX3_advance_194 rfl ?_
                      refine w_icmp_eq C (qt := 202) dX3_advance_195 (by decide) rfl h (fun _ h => ?_) (fun _ h => ?_)
                      · refine w_iconst C 0 dX3_advance_202 rfl (by decide) ?_
                        refine w_istore C [(9, .int 0), (12, .int v15.2.1), (11, .int v12), (10, .int v5.2.1), (8, .int x4), (7, .int x3), (6, .int x2), (5, .int x1), (0, .ref (ad 67)), (1, .int a0), (2, .int a1), (3, .int a2), (4, .int a3)] dX3_advance_203 rfl (by decide) rfl ?_
                        refine w_iinc (j := 1) C (v15.2.1 + 1) [(12, .int (v15.2.1 + 1)), (9, .int 0), (11, .int v12), (10, .int v5.2.1), (8, .int x4), (7, .int x3), (6, .int x2), (5, .int x1), (0, .ref (ad 67)), (1, .int a0), (2, .int a1), (3, .int a2), (4, .int a3)] dX3_advance_205 rfl rfl rfl (by decide) rfl ?_
                        refine w_goto (q := 59) C dX3_advance_208 (by decide) ?_
                        exact w_sub (lv' := [(12, .int (v15.2.1 + 1)), (11, .int v12), (10, .int v5.2.1), (9, .int 0), (8, .int x4), (7, .int x3), (6, .int x2), (5, .int x1), (0, .ref (ad 67)), (1, .int a0), (2, .int a1), (3, .int a2), (4, .int a3)]) [0, 2, 3, 1, 4, 5, 6, 7, 8, 9, 10, 11, 12] rfl (hK17 ((u22, v15.2.1 + 1, 0)) h)
                      · refine w_iconst C 1 dX3_advance_198 rfl (by decide) ?_
                        refine w_goto (q := 203) C dX3_advance_199 (by decide) ?_
                        refine w_istore C [(9, .int 1), (12, .int v15.2.1), (11, .int v12), (10, .int v5.2.1), (8, .int x4), (7, .int x3), (6, .int x2), (5, .int x1), (0, .ref (ad 67)), (1, .int a0), (2, .int a1), (3, .int a2), (4, .int a3)] dX3_advance_203 rfl (by decide) rfl ?_
                        refine w_iinc (j := 1) C (v15.2.1 + 1) [(12, .int (v15.2.1 + 1)), (9, .int 1), (11, .int v12), (10, .int v5.2.1), (8, .int x4), (7, .int x3), (6, .int x2), (5, .int x1), (0, .ref (ad 67)), (1, .int a0), (2, .int a1), (3, .int a2), (4, .int a3)] dX3_advance_205 rfl rfl rfl (by decide) rfl ?_
                        refine w_goto (q := 59) C dX3_advance_208 (by decide) ?_
                        exact w_sub (lv' := [(12, .int (v15.2.1 + 1)), (11, .int v12), (10, .int v5.2.1), (9, .int 1), (8, .int x4), (7, .int x3), (6, .int x2), (5, .int x1), (0, .ref (ad 67)), (1, .int a0), (2, .int a1), (3, .int a2), (4, .int a3)]) [0, 2, 3, 1, 4, 5, 6, 7, 8, 9, 10, 11, 12] rfl (hK17 ((u22, v15.2.1 + 1, 1)) h)
          · refine w_icmp_eq C (qt := 82) dX3_advance_73 (by decide) rfl h (fun _ h => ?_) (fun _ h => ?_)
            · exact w_sub (lv' := [(12, .int v15.2.1), (11, .int v12), (10, .int v5.2.1), (8, .int x4), (7, .int x3), (6, .int x2), (5, .int x1), (0, .ref (ad 67)), (1, .int a0), (2, .int a1), (3, .int a2), (4, .int a3)]) [0, 1, 2, 4, 5, 6, 7, 8, 9, 10, 11, 12] rfl (hJ20 (()) h)
            · refine w_iload_n C dX3_advance_76 rfl 9 rfl ?_
              refine w_iload C dX3_advance_77 rfl 2 rfl ?_
              refine w_icmp_ne C (qt := 211) dX3_advance_79 (by decide) rfl h (fun _ h => ?_) (fun _ h => ?_)
              · refine w_iinc (j := 2) C (v5.2.1 + 1) [(10, .int (v5.2.1 + 1)), (12, .int v15.2.1), (11, .int v12), (9, .int v15.2.2), (8, .int x4), (7, .int x3), (6, .int x2), (5, .int x1), (0, .ref (ad 67)), (1, .int a0), (2, .int a1), (3, .int a2), (4, .int a3)] dX3_advance_211 rfl rfl rfl (by decide) rfl ?_
                refine w_goto (q := 38) C dX3_advance_214 (by decide) ?_
                exact w_sub (lv' := [(10, .int (v5.2.1 + 1)), (9, .int v15.2.2), (8, .int x4), (7, .int x3), (6, .int x2), (5, .int x1), (0, .ref (ad 67)), (1, .int a0), (2, .int a1), (3, .int a2), (4, .int a3)]) [0, 3, 4, 5, 6, 7, 8, 9, 10, 11, 12] rfl (hK7 ((v15.1, v5.2.1 + 1, v15.2.2)) h)
              · exact w_sub (lv' := [(12, .int v15.2.1), (11, .int v12), (10, .int v5.2.1), (8, .int x4), (7, .int x3), (6, .int x2), (5, .int x1), (0, .ref (ad 67)), (1, .int a0), (2, .int a1), (3, .int a2), (4, .int a3)]) [0, 1, 2, 4, 5, 6, 7, 8, 9, 10, 11, 12] rfl (hJ20 (()) h)
    · refine w_if_ne C (qt := 53) dX3_advance_46 (by decide) rfl h (fun _ h => ?_) (fun _ h => ?_)
      · refine w_iload_n C dX3_advance_53 rfl 9 rfl ?_
        exact w_sub (lv' := [(10, .int v5.2.1), (9, .int v5.2.2), (8, .int x4), (7, .int x3), (6, .int x2), (5, .int x1), (0, .ref (ad 67)), (1, .int a0), (2, .int a1), (3, .int a2), (4, .int a3)]) [0, 1, 2, 3, 4, 5, 6, 7, 8, 9, 10] rfl (hJ14 a2 h)
      · refine w_iload_n C dX3_advance_49 rfl 8 rfl ?_
        refine w_goto (q := 54) C dX3_advance_50 (by decide) ?_
        exact w_sub (lv' := [(10, .int v5.2.1), (9, .int v5.2.2), (8, .int x4), (7, .int x3), (6, .int x2), (5, .int x1), (0, .ref (ad 67)), (1, .int a0), (2, .int a1), (3, .int a2), (4, .int a3)]) [0, 1, 2, 3, 4, 5, 6, 7, 8, 9, 10] rfl (hJ14 a1 h)
theorem cfX3_advance (D : va_G) (cI : ClassId) (ad : Nat → Nat) {l : Launch} (had : gAp (gC D cI ad)) {F : Nat} {σ : St} {a0 : Int32} {a1 : Int32} {a2 : Int32} {a3 : Int32} {r : Int32} {σ' : St} (h : fX3_advance F σ a0 a1 a2 a3 = some (r, σ')) : MI l yX3_advance (wB yX3_advance cX3_advance 13 (some .boolean)) 0 0 (gC D cI ad) [.ref (ad 67), .int a0, .int a1, .int a2, .int a3] σ r σ' := mk_MZ had (by decide +kernel) (Nat.le_of_ble_eq_true rfl) (fun X hX C hr => wfX3_advance C hr h)

def fX3_turn (F : Nat) (σ : St) (a0 : Int32) (a1 : Int32) : Option St := jn (fun v1 : St => if a0 = 0 then (some v1) else nm (up v1 70 1 (((v1 70 1) + a1) &&& 3)) fun u4 => some u4) fun J2 => if a0 = (1 : Int32) then (J2 σ) else nm (up σ 70 0 (((σ 70 0) + a1) &&& 3)) fun u5 => J2 u5
set_option maxRecDepth 20000 in
theorem wfX3_turn {X : XT} {D : va_G} {cI : ClassId} {ad : Nat → Nat} {F : Nat} {σ : St} {a0 : Int32} {a1 : Int32} {σ' : St} (C : Cx X (gC D cI ad) cX3_turn 3 RX3 0 0 0) (hr : RetV X (gC D cI ad) cX3_turn 3 0 σ') (h : fX3_turn F σ a0 a1 = some σ') : WP X (gC D cI ad) 3 0 0 σ [(0, .ref (ad 67)), (1, .int a0), (2, .int a1)] [] := by
  unfold fX3_turn at h
  refine w_iload_n C dX3_turn_0 rfl 1 rfl ?_
  refine w_iconst C 1 dX3_turn_1 rfl (by decide) ?_
  refine jn_w (fun v1 : St => WP X (gC D cI ad) 3 0 21 v1 [(0, .ref (ad 67)), (1, .int a0), (2, .int a1)] []) h (fun v1 h => ?_) (fun J2 hJ3 h => ?_)
  · refine w_iload_n C dX3_turn_21 rfl 1 rfl ?_
    refine w_if_eq C (qt := 41) dX3_turn_22 (by decide) rfl h (fun _ h => ?_) (fun _ h => ?_)
    · exact w_rv hr h (by decide) dX3_turn_41
    · refine w_aload_n C dX3_turn_25 rfl 0 rfl ?_
      refine w_get C 67 2 (Nat.le_of_ble_eq_true rfl) rfl rfl inB_X3 (by decide) tw2_30 rfl dX3_turn_26 rfl ?_
      refine w_iconst C 1 dX3_turn_29 rfl (by decide) ?_
      refine w_aload_n C dX3_turn_30 rfl 0 rfl ?_
      refine w_get C 67 2 (Nat.le_of_ble_eq_true rfl) rfl rfl inB_X3 (by decide) tw2_30 rfl dX3_turn_31 rfl ?_
      refine w_iconst C 1 dX3_turn_34 rfl (by decide) ?_
      refine w_ialdc C 70 2 0 1 (Nat.le_of_ble_eq_true rfl) (fun _ => rfl) rfl (by decide) (by show ¬ (_ ∨ _); decide) dX3_turn_35 rfl ?_
      refine w_iload_n C dX3_turn_36 rfl 2 rfl ?_
      refine w_iadd C dX3_turn_37 rfl ?_
      refine w_iconst C 3 dX3_turn_38 rfl (by decide) ?_
      refine w_iand C dX3_turn_39 rfl ?_
      refine w_iastc C 70 2 0 1 (Nat.le_of_ble_eq_true rfl) (fun _ => rfl) rfl (by decide) (by show ¬ (_ ∨ _); decide) dX3_turn_40 rfl ?_
      refine w_nst h (fun u4 h => ?_)
      exact w_rv hr h (by decide) dX3_turn_41
  · refine w_icmp_eq C (qt := 21) dX3_turn_2 (by decide) rfl h (fun _ h => ?_) (fun _ h => ?_)
    · exact w_sub (lv' := [(0, .ref (ad 67)), (1, .int a0), (2, .int a1)]) [0, 1, 2] rfl (hJ3 σ h)
    · refine w_aload_n C dX3_turn_5 rfl 0 rfl ?_
      refine w_get C 67 2 (Nat.le_of_ble_eq_true rfl) rfl rfl inB_X3 (by decide) tw2_30 rfl dX3_turn_6 rfl ?_
      refine w_iconst C 0 dX3_turn_9 rfl (by decide) ?_
      refine w_aload_n C dX3_turn_10 rfl 0 rfl ?_
      refine w_get C 67 2 (Nat.le_of_ble_eq_true rfl) rfl rfl inB_X3 (by decide) tw2_30 rfl dX3_turn_11 rfl ?_
      refine w_iconst C 0 dX3_turn_14 rfl (by decide) ?_
      refine w_ialdc C 70 2 0 0 (Nat.le_of_ble_eq_true rfl) (fun _ => rfl) rfl (by decide) (by show ¬ (_ ∨ _); decide) dX3_turn_15 rfl ?_
      refine w_iload_n C dX3_turn_16 rfl 2 rfl ?_
      refine w_iadd C dX3_turn_17 rfl ?_
      refine w_iconst C 3 dX3_turn_18 rfl (by decide) ?_
      refine w_iand C dX3_turn_19 rfl ?_
      refine w_iastc C 70 2 0 0 (Nat.le_of_ble_eq_true rfl) (fun _ => rfl) rfl (by decide) (by show ¬ (_ ∨ _); decide) dX3_turn_20 rfl ?_
      refine w_nst h (fun u5 h => ?_)
      exact w_sub (lv' := [(0, .ref (ad 67)), (1, .int a0), (2, .int a1)]) [0, 1, 2] rfl (hJ3 u5 h)
theorem cfX3_turn (D : va_G) (cI : ClassId) (ad : Nat → Nat) {l : Launch} (had : gAp (gC D cI ad)) {F : Nat} {σ : St} {a0 : Int32} {a1 : Int32} {σ' : St} (h : fX3_turn F σ a0 a1 = some σ') : MV l yX3_turn (wB yX3_turn cX3_turn 3 none) 0 0 (gC D cI ad) [.ref (ad 67), .int a0, .int a1] σ σ' := mk_MV had (by decide +kernel) (Nat.le_of_ble_eq_true rfl) (fun X hX C hr => wfX3_turn C hr h)

def fX3_changePlaces (F : Nat) (σ : St) : Option St := nm (σ 68 0) fun x1 => nm (σ 69 0) fun x2 => nm (up σ 68 0 (σ 68 1)) fun u3 => nm (up u3 69 0 (u3 69 1)) fun u4 => nm (up u4 68 1 x1) fun u5 => nm (up u5 69 1 x2) fun u6 => some u6
set_option maxRecDepth 20000 in
theorem wfX3_changePlaces {X : XT} {D : va_G} {cI : ClassId} {ad : Nat → Nat} {F : Nat} {σ : St}  {σ' : St} (C : Cx X (gC D cI ad) cX3_changePlaces 3 RX3 0 0 0) (hr : RetV X (gC D cI ad) cX3_changePlaces 3 0 σ') (h : fX3_changePlaces F σ = some σ') : WP X (gC D cI ad) 3 0 0 σ [(0, .ref (ad 67))] [] := by
  unfold fX3_changePlaces at h
  refine w_aload_n C dX3_changePlaces_0 rfl 0 rfl ?_
  refine w_get C 67 0 (Nat.le_of_ble_eq_true rfl) rfl rfl inB_X3 (by decide) tw2_24 rfl dX3_changePlaces_1 rfl ?_
  refine w_iconst C 0 dX3_changePlaces_4 rfl (by decide) ?_
  refine w_ialdc C 68 2 0 0 (Nat.le_of_ble_eq_true rfl) (fun _ => rfl) rfl (by decide) (by show ¬ (_ ∨ _); decide) dX3_changePlaces_5 rfl ?_
  refine w_nm h (fun x1 h => ?_)
  refine w_istore_n C [(1, .int x1), (0, .ref (ad 67))] dX3_changePlaces_6 rfl (by decide) rfl ?_
  refine w_aload_n C dX3_changePlaces_7 rfl 1 rfl ?_
  refine w_get C 67 1 (Nat.le_of_ble_eq_true rfl) rfl rfl inB_X3 (by decide) tw2_27 rfl dX3_changePlaces_8 rfl ?_
  refine w_iconst C 0 dX3_changePlaces_11 rfl (by decide) ?_
  refine w_ialdc C 69 2 0 0 (Nat.le_of_ble_eq_true rfl) (fun _ => rfl) rfl (by decide) (by show ¬ (_ ∨ _); decide) dX3_changePlaces_12 rfl ?_
  refine w_nm h (fun x2 h => ?_)
  refine w_istore_n C [(2, .int x2), (1, .int x1), (0, .ref (ad 67))] dX3_changePlaces_13 rfl (by decide) rfl ?_
  refine w_aload_n C dX3_changePlaces_14 rfl 2 rfl ?_
  refine w_get C 67 0 (Nat.le_of_ble_eq_true rfl) rfl rfl inB_X3 (by decide) tw2_24 rfl dX3_changePlaces_15 rfl ?_
  refine w_iconst C 0 dX3_changePlaces_18 rfl (by decide) ?_
  refine w_aload_n C dX3_changePlaces_19 rfl 2 rfl ?_
  refine w_get C 67 0 (Nat.le_of_ble_eq_true rfl) rfl rfl inB_X3 (by decide) tw2_24 rfl dX3_changePlaces_20 rfl ?_
  refine w_iconst C 1 dX3_changePlaces_23 rfl (by decide) ?_
  refine w_ialdc C 68 2 0 1 (Nat.le_of_ble_eq_true rfl) (fun _ => rfl) rfl (by decide) (by show ¬ (_ ∨ _); decide) dX3_changePlaces_24 rfl ?_
  refine w_iastc C 68 2 0 0 (Nat.le_of_ble_eq_true rfl) (fun _ => rfl) rfl (by decide) (by show ¬ (_ ∨ _); decide) dX3_changePlaces_25 rfl ?_
  refine w_nst h (fun u3 h => ?_)
  refine w_aload_n C dX3_changePlaces_26 rfl 2 rfl ?_
  refine w_get C 67 1 (Nat.le_of_ble_eq_true rfl) rfl rfl inB_X3 (by decide) tw2_27 rfl dX3_changePlaces_27 rfl ?_
  refine w_iconst C 0 dX3_changePlaces_30 rfl (by decide) ?_
  refine w_aload_n C dX3_changePlaces_31 rfl 2 rfl ?_
  refine w_get C 67 1 (Nat.le_of_ble_eq_true rfl) rfl rfl inB_X3 (by decide) tw2_27 rfl dX3_changePlaces_32 rfl ?_
  refine w_iconst C 1 dX3_changePlaces_35 rfl (by decide) ?_
  refine w_ialdc C 69 2 0 1 (Nat.le_of_ble_eq_true rfl) (fun _ => rfl) rfl (by decide) (by show ¬ (_ ∨ _); decide) dX3_changePlaces_36 rfl ?_
  refine w_iastc C 69 2 0 0 (Nat.le_of_ble_eq_true rfl) (fun _ => rfl) rfl (by decide) (by show ¬ (_ ∨ _); decide) dX3_changePlaces_37 rfl ?_
  refine w_nst h (fun u4 h => ?_)
  refine w_aload_n C dX3_changePlaces_38 rfl 2 rfl ?_
  refine w_get C 67 0 (Nat.le_of_ble_eq_true rfl) rfl rfl inB_X3 (by decide) tw2_24 rfl dX3_changePlaces_39 rfl ?_
  refine w_iconst C 1 dX3_changePlaces_42 rfl (by decide) ?_
  refine w_iload_n C dX3_changePlaces_43 rfl 1 rfl ?_
  refine w_iastc C 68 2 0 1 (Nat.le_of_ble_eq_true rfl) (fun _ => rfl) rfl (by decide) (by show ¬ (_ ∨ _); decide) dX3_changePlaces_44 rfl ?_
  refine w_nst h (fun u5 h => ?_)
  refine w_aload_n C dX3_changePlaces_45 rfl 2 rfl ?_
  refine w_get C 67 1 (Nat.le_of_ble_eq_true rfl) rfl rfl inB_X3 (by decide) tw2_27 rfl dX3_changePlaces_46 rfl ?_
  refine w_iconst C 1 dX3_changePlaces_49 rfl (by decide) ?_
  refine w_iload_n C dX3_changePlaces_50 rfl 0 rfl ?_
  refine w_iastc C 69 2 0 1 (Nat.le_of_ble_eq_true rfl) (fun _ => rfl) rfl (by decide) (by show ¬ (_ ∨ _); decide) dX3_changePlaces_51 rfl ?_
  refine w_nst h (fun u6 h => ?_)
  exact w_rv hr h (by decide) dX3_changePlaces_52
theorem cfX3_changePlaces (D : va_G) (cI : ClassId) (ad : Nat → Nat) {l : Launch} (had : gAp (gC D cI ad)) {F : Nat} {σ : St}  {σ' : St} (h : fX3_changePlaces F σ = some σ') : MV l yX3_changePlaces (wB yX3_changePlaces cX3_changePlaces 3 none) 0 0 (gC D cI ad) [.ref (ad 67)] σ σ' := mk_MV had (by decide +kernel) (Nat.le_of_ble_eq_true rfl) (fun X hX C hr => wfX3_changePlaces C hr h)

def fX2_takes (F : Nat) (σ : St) (a0 : Int32) : Option (Int32 × St) := bd1 (fX10_placeOf F σ (σ 66 3) a0) fun r1 => ckI (r1) 80 (nm (σ 9 (Int32.toNatClampNeg r1)) fun x2 => ckI (r1) 80 (nm (σ 8 (Int32.toNatClampNeg r1)) fun x3 => if x3 = 0 then (ckI (a0) 10 (ckI (a0) 10 (bd2 (fX3_advance F σ x2 ((σ 71 (Int32.toNatClampNeg a0)) - (σ 66 5)) ((σ 71 (Int32.toNatClampNeg a0)) - (σ 66 6)) (σ 2 2)) fun r4 u5 => ckB (r4) (some (r4, u5))))) else if x3 = 1 then (ckI (a0) 10 (bd1 (fX3_turn F σ x2 (σ 71 (Int32.toNatClampNeg a0))) fun u7 => some (1, u7))) else if x3 = 2 then (ckI (a0) 10 (ckI (a0) 10 (bd2 (fX3_advance F σ x2 ((σ 71 (Int32.toNatClampNeg a0)) - (σ 66 5)) ((σ 71 (Int32.toNatClampNeg a0)) - (σ 66 6)) (σ 2 2)) fun r9 u10 => ckB (r9) (some (r9, u10))))) else if x3 = 3 then (some (1, σ)) else if x3 = 4 then (bd1 (fX3_changePlaces F σ) fun u13 => some (1, u13)) else some (1, σ)))
set_option maxRecDepth 20000 in
theorem wfX2_takes {X : XT} {D : va_G} {cI : ClassId} {ad : Nat → Nat} {F : Nat} {σ : St} {a0 : Int32} {r : Int32} {σ' : St} (C : Cx X (gC D cI ad) cX2_takes 4 RX2 1 32 0) (hr : RetZ X (gC D cI ad) cX2_takes 4 0 r σ') (h : fX2_takes F σ a0 = some (r, σ')) : WP X (gC D cI ad) 4 0 0 σ [(0, .ref (ad 66)), (1, .int a0)] [] := by
  unfold fX2_takes at h
  refine w_aload_n C dX2_takes_0 rfl 0 rfl ?_
  refine w_get C 66 3 (Nat.le_of_ble_eq_true rfl) rfl rfl inB_X2 (by decide) tw2_45 rfl dX2_takes_1 rfl ?_
  refine w_iload_n C dX2_takes_4 rfl 1 rfl ?_
  refine bd1_w h (fun r1 hc h => ?_)
  refine w_callNi C (n := 2) (As := [.int (σ 66 3), .int a0]) (st := []) (host := RX10) (cfX10_placeOf D cI ad (l := X.2.1) C.2.2.1 hc) (by decide +kernel) cs_X10_placeOf (by decide +kernel) ⟨Nat.le_of_ble_eq_true rfl, Nat.le_of_ble_eq_true rfl⟩ (by decide) rfl rfl (Nat.le_of_ble_eq_true rfl) dX2_takes_5 rfl ?_
  refine w_istore_n C [(2, .int r1), (0, .ref (ad 66)), (1, .int a0)] dX2_takes_8 rfl (by decide) rfl ?_
  refine w_aload_n C dX2_takes_9 rfl 1 rfl ?_
  refine w_get C 66 0 (Nat.le_of_ble_eq_true rfl) rfl rfl inB_X2 (by decide) tw2_39 rfl dX2_takes_10 rfl ?_
  refine w_get C 2 11 (Nat.le_of_ble_eq_true rfl) rfl rfl inB_X0 (by decide) tw1_106 rfl dX2_takes_13 rfl ?_
  refine w_iload_n C dX2_takes_16 rfl 0 rfl ?_
  refine w_iald C 9 80 0 (Nat.le_of_ble_eq_true rfl) (fun _ => rfl) rfl h dX2_takes_17 rfl (fun h => ?_)
  refine w_nm h (fun x2 h => ?_)
  refine w_istore_n C [(3, .int x2), (2, .int r1), (0, .ref (ad 66)), (1, .int a0)] dX2_takes_18 rfl (by decide) rfl ?_
  refine w_aload_n C dX2_takes_19 rfl 2 rfl ?_
  refine w_get C 66 0 (Nat.le_of_ble_eq_true rfl) rfl rfl inB_X2 (by decide) tw2_39 rfl dX2_takes_20 rfl ?_
  refine w_get C 2 10 (Nat.le_of_ble_eq_true rfl) rfl rfl inB_X0 (by decide) tw1_101 rfl dX2_takes_23 rfl ?_
  refine w_iload_n C dX2_takes_26 rfl 1 rfl ?_
  refine w_iald C 8 80 0 (Nat.le_of_ble_eq_true rfl) (fun _ => rfl) rfl h dX2_takes_27 rfl (fun h => ?_)
  refine w_nm h (fun x3 h => ?_)
  refine if_w h (fun e6 h => ?_) (fun e6 h => ?_)
  · refine w_tsIn (q := 64) C 0 e6 dX2_takes_28 (by decide) (by decide) rfl (by decide) ?_
    refine w_aload_n C dX2_takes_64 rfl 2 rfl ?_
    refine w_get C 66 1 (Nat.le_of_ble_eq_true rfl) rfl rfl inB_X2 (by decide) tw2_40 rfl dX2_takes_65 rfl ?_
    refine w_iload_n C dX2_takes_68 rfl 0 rfl ?_
    refine w_aload_n C dX2_takes_69 rfl 2 rfl ?_
    refine w_get C 66 2 (Nat.le_of_ble_eq_true rfl) rfl rfl inB_X2 (by decide) tw2_43 rfl dX2_takes_70 rfl ?_
    refine w_iload_n C dX2_takes_73 rfl 3 rfl ?_
    refine w_iald C 71 10 0 (Nat.le_of_ble_eq_true rfl) (fun _ => rfl) rfl h dX2_takes_74 rfl (fun h => ?_)
    refine w_aload_n C dX2_takes_75 rfl 2 rfl ?_
    refine w_get C 66 5 (Nat.le_of_ble_eq_true rfl) rfl rfl inB_X2 (by decide) tw2_49 rfl dX2_takes_76 rfl ?_
    refine w_isub C dX2_takes_79 rfl ?_
    refine w_aload_n C dX2_takes_80 rfl 2 rfl ?_
    refine w_get C 66 2 (Nat.le_of_ble_eq_true rfl) rfl rfl inB_X2 (by decide) tw2_43 rfl dX2_takes_81 rfl ?_
    refine w_iload_n C dX2_takes_84 rfl 3 rfl ?_
    refine w_iald C 71 10 0 (Nat.le_of_ble_eq_true rfl) (fun _ => rfl) rfl h dX2_takes_85 rfl (fun h => ?_)
    refine w_aload_n C dX2_takes_86 rfl 2 rfl ?_
    refine w_get C 66 6 (Nat.le_of_ble_eq_true rfl) rfl rfl inB_X2 (by decide) tw2_50 rfl dX2_takes_87 rfl ?_
    refine w_isub C dX2_takes_90 rfl ?_
    refine w_aload_n C dX2_takes_91 rfl 2 rfl ?_
    refine w_get C 66 0 (Nat.le_of_ble_eq_true rfl) rfl rfl inB_X2 (by decide) tw2_39 rfl dX2_takes_92 rfl ?_
    refine w_get C 2 2 (Nat.le_of_ble_eq_true rfl) rfl rfl inB_X0 (by decide) tw1_70 rfl dX2_takes_95 rfl ?_
    refine bd2_w h (fun r4 u5 hc h => ?_)
    refine w_callVi C (n := 4) (As := [.int x2, .int ((σ 71 (Int32.toNatClampNeg a0)) - (σ 66 5)), .int ((σ 71 (Int32.toNatClampNeg a0)) - (σ 66 6)), .int (σ 2 2)]) (st := []) 67 (Nat.le_of_ble_eq_true rfl) rfl rfl (cfX3_advance D cI ad (l := X.2.1) C.2.2.1 hc) tw4_125 cy_X3_advance (by decide +kernel) ⟨Nat.le_of_ble_eq_true rfl, Nat.le_of_ble_eq_true rfl⟩ (by decide) rfl rfl (Nat.le_of_ble_eq_true rfl) dX2_takes_98 rfl ?_
    obtain ⟨hz, h⟩ := ckB_w h
    exact w_rz2 hr hz h (by decide) dX2_takes_101
  refine if_w h (fun e8 h => ?_) (fun e8 h => ?_)
  · refine w_tsIn (q := 102) C 1 e8 dX2_takes_28 (by decide) (by decide) rfl (by decide) ?_
    refine w_aload_n C dX2_takes_102 rfl 2 rfl ?_
    refine w_get C 66 1 (Nat.le_of_ble_eq_true rfl) rfl rfl inB_X2 (by decide) tw2_40 rfl dX2_takes_103 rfl ?_
    refine w_iload_n C dX2_takes_106 rfl 0 rfl ?_
    refine w_aload_n C dX2_takes_107 rfl 2 rfl ?_
    refine w_get C 66 2 (Nat.le_of_ble_eq_true rfl) rfl rfl inB_X2 (by decide) tw2_43 rfl dX2_takes_108 rfl ?_
    refine w_iload_n C dX2_takes_111 rfl 3 rfl ?_
    refine w_iald C 71 10 0 (Nat.le_of_ble_eq_true rfl) (fun _ => rfl) rfl h dX2_takes_112 rfl (fun h => ?_)
    refine bd1_w h (fun u7 hc h => ?_)
    refine w_callVv C (n := 2) (As := [.int x2, .int (σ 71 (Int32.toNatClampNeg a0))]) (st := []) 67 (Nat.le_of_ble_eq_true rfl) rfl rfl (cfX3_turn D cI ad (l := X.2.1) C.2.2.1 hc) tw4_133 cy_X3_turn (by decide +kernel) ⟨Nat.le_of_ble_eq_true rfl, Nat.le_of_ble_eq_true rfl⟩ (by decide) rfl rfl (Nat.le_of_ble_eq_true rfl) dX2_takes_113 rfl ?_
    refine w_iconst C 1 dX2_takes_116 rfl (by decide) ?_
    exact w_rz2 hr (by decide) h (by decide) dX2_takes_117
  refine if_w h (fun e11 h => ?_) (fun e11 h => ?_)
  · refine w_tsIn (q := 64) C 2 e11 dX2_takes_28 (by decide) (by decide) rfl (by decide) ?_
    refine w_aload_n C dX2_takes_64 rfl 2 rfl ?_
    refine w_get C 66 1 (Nat.le_of_ble_eq_true rfl) rfl rfl inB_X2 (by decide) tw2_40 rfl dX2_takes_65 rfl ?_
    refine w_iload_n C dX2_takes_68 rfl 0 rfl ?_
    refine w_aload_n C dX2_takes_69 rfl 2 rfl ?_
    refine w_get C 66 2 (Nat.le_of_ble_eq_true rfl) rfl rfl inB_X2 (by decide) tw2_43 rfl dX2_takes_70 rfl ?_
    refine w_iload_n C dX2_takes_73 rfl 3 rfl ?_
    refine w_iald C 71 10 0 (Nat.le_of_ble_eq_true rfl) (fun _ => rfl) rfl h dX2_takes_74 rfl (fun h => ?_)
    refine w_aload_n C dX2_takes_75 rfl 2 rfl ?_
    refine w_get C 66 5 (Nat.le_of_ble_eq_true rfl) rfl rfl inB_X2 (by decide) tw2_49 rfl dX2_takes_76 rfl ?_
    refine w_isub C dX2_takes_79 rfl ?_
    refine w_aload_n C dX2_takes_80 rfl 2 rfl ?_
    refine w_get C 66 2 (Nat.le_of_ble_eq_true rfl) rfl rfl inB_X2 (by decide) tw2_43 rfl dX2_takes_81 rfl ?_
    refine w_iload_n C dX2_takes_84 rfl 3 rfl ?_
    refine w_iald C 71 10 0 (Nat.le_of_ble_eq_true rfl) (fun _ => rfl) rfl h dX2_takes_85 rfl (fun h => ?_)
    refine w_aload_n C dX2_takes_86 rfl 2 rfl ?_
    refine w_get C 66 6 (Nat.le_of_ble_eq_true rfl) rfl rfl inB_X2 (by decide) tw2_50 rfl dX2_takes_87 rfl ?_
    refine w_isub C dX2_takes_90 rfl ?_
    refine w_aload_n C dX2_takes_91 rfl 2 rfl ?_
    refine w_get C 66 0 (Nat.le_of_ble_eq_true rfl) rfl rfl inB_X2 (by decide) tw2_39 rfl dX2_takes_92 rfl ?_
    refine w_get C 2 2 (Nat.le_of_ble_eq_true rfl) rfl rfl inB_X0 (by decide) tw1_70 rfl dX2_takes_95 rfl ?_
    refine bd2_w h (fun r9 u10 hc h => ?_)
    refine w_callVi C (n := 4) (As := [.int x2, .int ((σ 71 (Int32.toNatClampNeg a0)) - (σ 66 5)), .int ((σ 71 (Int32.toNatClampNeg a0)) - (σ 66 6)), .int (σ 2 2)]) (st := []) 67 (Nat.le_of_ble_eq_true rfl) rfl rfl (cfX3_advance D cI ad (l := X.2.1) C.2.2.1 hc) tw4_125 cy_X3_advance (by decide +kernel) ⟨Nat.le_of_ble_eq_true rfl, Nat.le_of_ble_eq_true rfl⟩ (by decide) rfl rfl (Nat.le_of_ble_eq_true rfl) dX2_takes_98 rfl ?_
    obtain ⟨hz, h⟩ := ckB_w h
    exact w_rz2 hr hz h (by decide) dX2_takes_101
  refine if_w h (fun e12 h => ?_) (fun e12 h => ?_)
  · refine w_tsIn (q := 127) C 3 e12 dX2_takes_28 (by decide) (by decide) rfl (by decide) ?_
    refine w_iconst C 1 dX2_takes_127 rfl (by decide) ?_
    exact w_rz2 hr (by decide) h (by decide) dX2_takes_128
  refine if_w h (fun e14 h => ?_) (fun e14 h => ?_)
  · refine w_tsIn (q := 118) C 4 e14 dX2_takes_28 (by decide) (by decide) rfl (by decide) ?_
    refine w_aload_n C dX2_takes_118 rfl 2 rfl ?_
    refine w_get C 66 1 (Nat.le_of_ble_eq_true rfl) rfl rfl inB_X2 (by decide) tw2_40 rfl dX2_takes_119 rfl ?_
    refine bd1_w h (fun u13 hc h => ?_)
    refine w_callVv C (n := 0) (As := []) (st := []) 67 (Nat.le_of_ble_eq_true rfl) rfl rfl (cfX3_changePlaces D cI ad (l := X.2.1) C.2.2.1 hc) tw4_137 cy_X3_changePlaces (by decide +kernel) ⟨Nat.le_of_ble_eq_true rfl, Nat.le_of_ble_eq_true rfl⟩ (by decide) rfl rfl (Nat.le_of_ble_eq_true rfl) dX2_takes_122 rfl ?_
    refine w_iconst C 1 dX2_takes_125 rfl (by decide) ?_
    exact w_rz2 hr (by decide) h (by decide) dX2_takes_126
  refine w_tsOut (q := 127) C dX2_takes_28 (ts_out (x := x3) (0) 4 (by decide) (fun k hk => by
    have hk : k = 0 ∨ k = 1 ∨ k = 2 ∨ k = 3 ∨ k = 4 := by omega
    rcases hk with rfl | rfl | rfl | rfl | rfl
    · exact e6
    · exact e8
    · exact e11
    · exact e12
    · exact e14)) (by decide) ?_
  refine w_iconst C 1 dX2_takes_127 rfl (by decide) ?_
  exact w_rz2 hr (by decide) h (by decide) dX2_takes_128
theorem cfX2_takes (D : va_G) (cI : ClassId) (ad : Nat → Nat) {l : Launch} (had : gAp (gC D cI ad)) {F : Nat} {σ : St} {a0 : Int32} {r : Int32} {σ' : St} (h : fX2_takes F σ a0 = some (r, σ')) : MI l yX2_takes (wB yX2_takes cX2_takes 4 (some .boolean)) 1 32 (gC D cI ad) [.ref (ad 66), .int a0] σ r σ' := mk_MZ had (by decide +kernel) (Nat.le_of_ble_eq_true rfl) (fun X hX C hr => wfX2_takes C hr h)

def fX2_walk (F : Nat) (σ : St) (a0 : Int32) (a1 : Int32) : Option (Int32 × St) := lp (fun (K2 : (St × Int32) → Option (Int32 × St)) (v1 : St × Int32) => if a1 ≤ v1.2 then (some ((-1), v1.1)) else bd2 (fX2_takes F v1.1 v1.2) fun r4 u5 => if r4 = 0 then (some (v1.2, u5)) else K2 ((u5, v1.2 + 1))) F ((σ, a0))
set_option maxRecDepth 20000 in
theorem wfX2_walk {X : XT} {D : va_G} {cI : ClassId} {ad : Nat → Nat} {F : Nat} {σ : St} {a0 : Int32} {a1 : Int32} {r : Int32} {σ' : St} (C : Cx X (gC D cI ad) cX2_walk 4 RX2 2 55 0) (hr : RetI X (gC D cI ad) cX2_walk 4 0 r σ') (h : fX2_walk F σ a0 a1 = some (r, σ')) : WP X (gC D cI ad) 4 0 0 σ [(0, .ref (ad 66)), (1, .int a0), (2, .int a1)] [] := by
  unfold fX2_walk at h
  refine w_iload_n C dX2_walk_0 rfl 1 rfl ?_
  refine w_istore_n C [(3, .int a0), (0, .ref (ad 66)), (1, .int a0), (2, .int a1)] dX2_walk_1 rfl (by decide) rfl ?_
  refine w_sub (lv' := [(3, .int a0), (0, .ref (ad 66)), (2, .int a1)]) [0, 1, 3] rfl ?_
  refine lp_w (fun v1 : St × Int32 => WP X (gC D cI ad) 4 0 2 v1.1 [(3, .int v1.2), (0, .ref (ad 66)), (2, .int a1)] []) (fun K2 hK3 v1 h => ?_) F _ h
  refine w_iload_n C dX2_walk_2 rfl 0 rfl ?_
  refine w_iload_n C dX2_walk_3 rfl 2 rfl ?_
  refine w_icmp_ge C (qt := 23) dX2_walk_4 (by decide) rfl h (fun _ h => ?_) (fun _ h => ?_)
  · refine w_iconst C (-1) dX2_walk_23 rfl (by decide) ?_
    exact w_ri2 hr h (by decide) dX2_walk_24
  · refine w_aload_n C dX2_walk_7 rfl 1 rfl ?_
    refine w_iload_n C dX2_walk_8 rfl 0 rfl ?_
    refine bd2_w h (fun r4 u5 hc h => ?_)
    refine w_callVi C (n := 1) (As := [.int v1.2]) (st := []) 66 (Nat.le_of_ble_eq_true rfl) rfl rfl (cfX2_takes D cI ad (l := X.2.1) C.2.2.1 hc) tw4_121 cy_X2_takes (by decide +kernel) ⟨Nat.le_of_ble_eq_true rfl, Nat.le_of_ble_eq_true rfl⟩ (by decide) rfl rfl (Nat.le_of_ble_eq_true rfl) dX2_walk_9 rfl ?_
    refine w_if_ne C (qt := 17) dX2_walk_12 (by decide) rfl h (fun _ h => ?_) (fun _ h => ?_)
    · refine w_iinc (j := 0) C (v1.2 + 1) [(3, .int (v1.2 + 1)), (0, .ref (ad 66)), (2, .int a1)] dX2_walk_17 rfl rfl rfl (by decide) rfl ?_
      refine w_goto (q := 2) C dX2_walk_20 (by decide) ?_
      exact w_sub (lv' := [(3, .int (v1.2 + 1)), (0, .ref (ad 66)), (2, .int a1)]) [0, 1, 2] rfl (hK3 ((u5, v1.2 + 1)) h)
    · refine w_iload_n C dX2_walk_15 rfl 0 rfl ?_
      exact w_ri2 hr h (by decide) dX2_walk_16
theorem cfX2_walk (D : va_G) (cI : ClassId) (ad : Nat → Nat) {l : Launch} (had : gAp (gC D cI ad)) {F : Nat} {σ : St} {a0 : Int32} {a1 : Int32} {r : Int32} {σ' : St} (h : fX2_walk F σ a0 a1 = some (r, σ')) : MI l yX2_walk (wB yX2_walk cX2_walk 4 (some .int)) 2 55 (gC D cI ad) [.ref (ad 66), .int a0, .int a1] σ r σ' := mk_MI had (by decide +kernel) (Nat.le_of_ble_eq_true rfl) (fun X hX C hr => wfX2_walk C hr h)

def fX3_looksAtOther (F : Nat) (σ : St) (a0 : Int32) : Option Int32 := ckI (1 - a0) 2 (ckI (a0) 2 (nm ((σ 68 (Int32.toNatClampNeg (1 - a0))) - (σ 68 (Int32.toNatClampNeg a0))) fun x1 => ckI (1 - a0) 2 (ckI (a0) 2 (nm ((σ 69 (Int32.toNatClampNeg (1 - a0))) - (σ 69 (Int32.toNatClampNeg a0))) fun x2 => ckI (a0) 2 (ckI (σ 70 (Int32.toNatClampNeg a0)) 4 (nm (dAL (Int32.toNatClampNeg (σ 70 (Int32.toNatClampNeg a0)))) fun x3 => ckI (a0) 2 (ckI (σ 70 (Int32.toNatClampNeg a0)) 4 (nm (dDN (Int32.toNatClampNeg (σ 70 (Int32.toNatClampNeg a0)))) fun x4 => if (x1 * x4) = (x2 * x3) then (if ((x1 * x3) + (x2 * x4)) ≤ 0 then (some 0) else some 1) else some 0))))))))
set_option maxRecDepth 20000 in
theorem wfX3_looksAtOther {X : XT} {D : va_G} {cI : ClassId} {ad : Nat → Nat} {F : Nat} {σ : St} {a0 : Int32} {r : Int32} (C : Cx X (gC D cI ad) cX3_looksAtOther 6 RX3 0 0 0) (hr : RetZ X (gC D cI ad) cX3_looksAtOther 6 0 r σ) (h : fX3_looksAtOther F σ a0 = some r) : WP X (gC D cI ad) 6 0 0 σ [(0, .ref (ad 67)), (1, .int a0)] [] := by
  unfold fX3_looksAtOther at h
  refine w_aload_n C dX3_looksAtOther_0 rfl 0 rfl ?_
  refine w_get C 67 0 (Nat.le_of_ble_eq_true rfl) rfl rfl inB_X3 (by decide) tw2_24 rfl dX3_looksAtOther_1 rfl ?_
  refine w_iconst C 1 dX3_looksAtOther_4 rfl (by decide) ?_
  refine w_iload_n C dX3_looksAtOther_5 rfl 1 rfl ?_
  refine w_isub C dX3_looksAtOther_6 rfl ?_
  refine w_iald C 68 2 0 (Nat.le_of_ble_eq_true rfl) (fun _ => rfl) rfl h dX3_looksAtOther_7 rfl (fun h => ?_)
  refine w_aload_n C dX3_looksAtOther_8 rfl 0 rfl ?_
  refine w_get C 67 0 (Nat.le_of_ble_eq_true rfl) rfl rfl inB_X3 (by decide) tw2_24 rfl dX3_looksAtOther_9 rfl ?_
  refine w_iload_n C dX3_looksAtOther_12 rfl 1 rfl ?_
  refine w_iald C 68 2 0 (Nat.le_of_ble_eq_true rfl) (fun _ => rfl) rfl h dX3_looksAtOther_13 rfl (fun h => ?_)
  refine w_isub C dX3_looksAtOther_14 rfl ?_
  refine w_nm h (fun x1 h => ?_)
  refine w_istore_n C [(2, .int x1), (0, .ref (ad 67)), (1, .int a0)] dX3_looksAtOther_15 rfl (by decide) rfl ?_
  refine w_aload_n C dX3_looksAtOther_16 rfl 1 rfl ?_
  refine w_get C 67 1 (Nat.le_of_ble_eq_true rfl) rfl rfl inB_X3 (by decide) tw2_27 rfl dX3_looksAtOther_17 rfl ?_
  refine w_iconst C 1 dX3_looksAtOther_20 rfl (by decide) ?_
  refine w_iload_n C dX3_looksAtOther_21 rfl 2 rfl ?_
  refine w_isub C dX3_looksAtOther_22 rfl ?_
  refine w_iald C 69 2 0 (Nat.le_of_ble_eq_true rfl) (fun _ => rfl) rfl h dX3_looksAtOther_23 rfl (fun h => ?_)
  refine w_aload_n C dX3_looksAtOther_24 rfl 1 rfl ?_
  refine w_get C 67 1 (Nat.le_of_ble_eq_true rfl) rfl rfl inB_X3 (by decide) tw2_27 rfl dX3_looksAtOther_25 rfl ?_
  refine w_iload_n C dX3_looksAtOther_28 rfl 2 rfl ?_
  refine w_iald C 69 2 0 (Nat.le_of_ble_eq_true rfl) (fun _ => rfl) rfl h dX3_looksAtOther_29 rfl (fun h => ?_)
  refine w_isub C dX3_looksAtOther_30 rfl ?_
  refine w_nm h (fun x2 h => ?_)
  refine w_istore_n C [(3, .int x2), (2, .int x1), (0, .ref (ad 67)), (1, .int a0)] dX3_looksAtOther_31 rfl (by decide) rfl ?_
  refine w_gets C C.2.2.2.1.2.1.1 tw4_129 dX3_looksAtOther_32 rfl ?_
  refine w_aload_n C dX3_looksAtOther_35 rfl 2 rfl ?_
  refine w_get C 67 2 (Nat.le_of_ble_eq_true rfl) rfl rfl inB_X3 (by decide) tw2_30 rfl dX3_looksAtOther_36 rfl ?_
  refine w_iload_n C dX3_looksAtOther_39 rfl 3 rfl ?_
  refine w_iald C 70 2 0 (Nat.le_of_ble_eq_true rfl) (fun _ => rfl) rfl h dX3_looksAtOther_40 rfl (fun h => ?_)
  refine w_tald C C.2.2.2.1.2.1.2 h dX3_looksAtOther_41 rfl (fun h => ?_)
  refine w_nm h (fun x3 h => ?_)
  refine w_istore C [(4, .int x3), (3, .int x2), (2, .int x1), (0, .ref (ad 67)), (1, .int a0)] dX3_looksAtOther_42 rfl (by decide) rfl ?_
  refine w_gets C C.2.2.2.1.2.2.1.1 tw4_131 dX3_looksAtOther_44 rfl ?_
  refine w_aload_n C dX3_looksAtOther_47 rfl 3 rfl ?_
  refine w_get C 67 2 (Nat.le_of_ble_eq_true rfl) rfl rfl inB_X3 (by decide) tw2_30 rfl dX3_looksAtOther_48 rfl ?_
  refine w_iload_n C dX3_looksAtOther_51 rfl 4 rfl ?_
  refine w_iald C 70 2 0 (Nat.le_of_ble_eq_true rfl) (fun _ => rfl) rfl h dX3_looksAtOther_52 rfl (fun h => ?_)
  refine w_tald C C.2.2.2.1.2.2.1.2 h dX3_looksAtOther_53 rfl (fun h => ?_)
  refine w_nm h (fun x4 h => ?_)
  refine w_istore C [(5, .int x4), (4, .int x3), (3, .int x2), (2, .int x1), (0, .ref (ad 67)), (1, .int a0)] dX3_looksAtOther_54 rfl (by decide) rfl ?_
  refine w_iload_n C dX3_looksAtOther_56 rfl 3 rfl ?_
  refine w_iload C dX3_looksAtOther_57 rfl 0 rfl ?_
  refine w_imul C dX3_looksAtOther_59 rfl ?_
  refine w_iload_n C dX3_looksAtOther_60 rfl 2 rfl ?_
  refine w_iload C dX3_looksAtOther_61 rfl 1 rfl ?_
  refine w_imul C dX3_looksAtOther_63 rfl ?_
  refine w_icmp_ne C (qt := 83) dX3_looksAtOther_64 (by decide) rfl h (fun _ h => ?_) (fun _ h => ?_)
  · refine w_iconst C 0 dX3_looksAtOther_83 rfl (by decide) ?_
    exact w_rz1 hr (by decide) h (by decide) dX3_looksAtOther_84
  · refine w_iload_n C dX3_looksAtOther_67 rfl 3 rfl ?_
    refine w_iload C dX3_looksAtOther_68 rfl 1 rfl ?_
    refine w_imul C dX3_looksAtOther_70 rfl ?_
    refine w_iload_n C dX3_looksAtOther_71 rfl 2 rfl ?_
    refine w_iload C dX3_looksAtOther_72 rfl 0 rfl ?_
    refine w_imul C dX3_looksAtOther_74 rfl ?_
    refine w_iadd C dX3_looksAtOther_75 rfl ?_
    refine w_if_le C (qt := 83) dX3_looksAtOther_76 (by decide) rfl h (fun _ h => ?_) (fun _ h => ?_)
    · refine w_iconst C 0 dX3_looksAtOther_83 rfl (by decide) ?_
      exact w_rz1 hr (by decide) h (by decide) dX3_looksAtOther_84
    · refine w_iconst C 1 dX3_looksAtOther_79 rfl (by decide) ?_
      refine w_goto (q := 84) C dX3_looksAtOther_80 (by decide) ?_
      exact w_rz1 hr (by decide) h (by decide) dX3_looksAtOther_84
theorem cfX3_looksAtOther (D : va_G) (cI : ClassId) (ad : Nat → Nat) {l : Launch} (had : gAp (gC D cI ad)) {F : Nat} {σ : St} {a0 : Int32} {r : Int32} (h : fX3_looksAtOther F σ a0 = some r) : MI l yX3_looksAtOther (wB yX3_looksAtOther cX3_looksAtOther 6 (some .boolean)) 0 0 (gC D cI ad) [.ref (ad 67), .int a0] σ r σ := mk_MZ had (by decide +kernel) (Nat.le_of_ble_eq_true rfl) (fun X hX C hr => wfX3_looksAtOther C hr h)

def fX3_areFacing (F : Nat) (σ : St) : Option Int32 := bd1 (fX3_looksAtOther F σ 0) fun r1 => if r1 = 0 then (some 0) else bd1 (fX3_looksAtOther F σ 1) fun r2 => if r2 = 0 then (some 0) else some 1
set_option maxRecDepth 20000 in
theorem wfX3_areFacing {X : XT} {D : va_G} {cI : ClassId} {ad : Nat → Nat} {F : Nat} {σ : St}  {r : Int32} (C : Cx X (gC D cI ad) cX3_areFacing 1 RX3 1 25 0) (hr : RetZ X (gC D cI ad) cX3_areFacing 1 0 r σ) (h : fX3_areFacing F σ = some r) : WP X (gC D cI ad) 1 0 0 σ [(0, .ref (ad 67))] [] := by
  unfold fX3_areFacing at h
  refine w_aload_n C dX3_areFacing_0 rfl 0 rfl ?_
  refine w_iconst C 0 dX3_areFacing_1 rfl (by decide) ?_
  refine bd1_w h (fun r1 hc h => ?_)
  refine w_callVi C (n := 1) (As := [.int 0]) (st := []) 67 (Nat.le_of_ble_eq_true rfl) rfl rfl (cfX3_looksAtOther D cI ad (l := X.2.1) C.2.2.1 hc) tw4_145 cy_X3_looksAtOther (by decide +kernel) ⟨Nat.le_of_ble_eq_true rfl, Nat.le_of_ble_eq_true rfl⟩ (by decide) rfl rfl (Nat.le_of_ble_eq_true rfl) dX3_areFacing_2 rfl ?_
  refine w_if_eq C (qt := 20) dX3_areFacing_5 (by decide) rfl h (fun _ h => ?_) (fun _ h => ?_)
  · refine w_iconst C 0 dX3_areFacing_20 rfl (by decide) ?_
    exact w_rz1 hr (by decide) h (by decide) dX3_areFacing_21
  · refine w_aload_n C dX3_areFacing_8 rfl 0 rfl ?_
    refine w_iconst C 1 dX3_areFacing_9 rfl (by decide) ?_
    refine bd1_w h (fun r2 hc h => ?_)
    refine w_callVi C (n := 1) (As := [.int 1]) (st := []) 67 (Nat.le_of_ble_eq_true rfl) rfl rfl (cfX3_looksAtOther D cI ad (l := X.2.1) C.2.2.1 hc) tw4_145 cy_X3_looksAtOther (by decide +kernel) ⟨Nat.le_of_ble_eq_true rfl, Nat.le_of_ble_eq_true rfl⟩ (by decide) rfl rfl (Nat.le_of_ble_eq_true rfl) dX3_areFacing_10 rfl ?_
    refine w_if_eq C (qt := 20) dX3_areFacing_13 (by decide) rfl h (fun _ h => ?_) (fun _ h => ?_)
    · refine w_iconst C 0 dX3_areFacing_20 rfl (by decide) ?_
      exact w_rz1 hr (by decide) h (by decide) dX3_areFacing_21
    · refine w_iconst C 1 dX3_areFacing_16 rfl (by decide) ?_
      refine w_goto (q := 21) C dX3_areFacing_17 (by decide) ?_
      exact w_rz1 hr (by decide) h (by decide) dX3_areFacing_21
theorem cfX3_areFacing (D : va_G) (cI : ClassId) (ad : Nat → Nat) {l : Launch} (had : gAp (gC D cI ad)) {F : Nat} {σ : St}  {r : Int32} (h : fX3_areFacing F σ = some r) : MI l yX3_areFacing (wB yX3_areFacing cX3_areFacing 1 (some .boolean)) 1 25 (gC D cI ad) [.ref (ad 67)] σ r σ := mk_MZ had (by decide +kernel) (Nat.le_of_ble_eq_true rfl) (fun X hX C hr => wfX3_areFacing C hr h)

def fX2_endsFacing (F : Nat) (σ : St) : Option (Int32 × St) := bd1 (fX3_begin F σ (σ 2 2)) fun u1 => bd2 (fX2_walk F u1 0 (u1 66 4)) fun r2 u3 => if r2 = (-1 : Int32) then (bd1 (fX3_areFacing F u3) fun r4 => if r4 = 0 then (some (0, u3)) else some (1, u3)) else some (0, u3)
set_option maxRecDepth 20000 in
theorem wfX2_endsFacing {X : XT} {D : va_G} {cI : ClassId} {ad : Nat → Nat} {F : Nat} {σ : St}  {r : Int32} {σ' : St} (C : Cx X (gC D cI ad) cX2_endsFacing 1 RX2 3 78 0) (hr : RetZ X (gC D cI ad) cX2_endsFacing 1 0 r σ') (h : fX2_endsFacing F σ = some (r, σ')) : WP X (gC D cI ad) 1 0 0 σ [(0, .ref (ad 66))] [] := by
  unfold fX2_endsFacing at h
  refine w_aload_n C dX2_endsFacing_0 rfl 0 rfl ?_
  refine w_get C 66 1 (Nat.le_of_ble_eq_true rfl) rfl rfl inB_X2 (by decide) tw2_40 rfl dX2_endsFacing_1 rfl ?_
  refine w_aload_n C dX2_endsFacing_4 rfl 0 rfl ?_
  refine w_get C 66 0 (Nat.le_of_ble_eq_true rfl) rfl rfl inB_X2 (by decide) tw2_39 rfl dX2_endsFacing_5 rfl ?_
  refine w_get C 2 2 (Nat.le_of_ble_eq_true rfl) rfl rfl inB_X0 (by decide) tw1_70 rfl dX2_endsFacing_8 rfl ?_
  refine bd1_w h (fun u1 hc h => ?_)
  refine w_callVv C (n := 1) (As := [.int (σ 2 2)]) (st := []) 67 (Nat.le_of_ble_eq_true rfl) rfl rfl (cfX3_begin D cI ad (l := X.2.1) C.2.2.1 hc) tw4_113 cy_X3_begin (by decide +kernel) ⟨Nat.le_of_ble_eq_true rfl, Nat.le_of_ble_eq_true rfl⟩ (by decide) rfl rfl (Nat.le_of_ble_eq_true rfl) dX2_endsFacing_11 rfl ?_
  refine w_aload_n C dX2_endsFacing_14 rfl 0 rfl ?_
  refine w_iconst C 0 dX2_endsFacing_15 rfl (by decide) ?_
  refine w_aload_n C dX2_endsFacing_16 rfl 0 rfl ?_
  refine w_get C 66 4 (Nat.le_of_ble_eq_true rfl) rfl rfl inB_X2 (by decide) tw2_47 rfl dX2_endsFacing_17 rfl ?_
  refine bd2_w h (fun r2 u3 hc h => ?_)
  refine w_callVi C (n := 2) (As := [.int 0, .int (u1 66 4)]) (st := []) 66 (Nat.le_of_ble_eq_true rfl) rfl rfl (cfX2_walk D cI ad (l := X.2.1) C.2.2.1 hc) tw4_117 cy_X2_walk (by decide +kernel) ⟨Nat.le_of_ble_eq_true rfl, Nat.le_of_ble_eq_true rfl⟩ (by decide) rfl rfl (Nat.le_of_ble_eq_true rfl) dX2_endsFacing_20 rfl ?_
  refine w_iconst C (-1) dX2_endsFacing_23 rfl (by decide) ?_
  refine w_icmp_ne C (qt := 41) dX2_endsFacing_24 (by decide) rfl h (fun _ h => ?_) (fun _ h => ?_)
  · refine w_iconst C 0 dX2_endsFacing_41 rfl (by decide) ?_
    exact w_rz2 hr (by decide) h (by decide) dX2_endsFacing_42
  · refine w_aload_n C dX2_endsFacing_27 rfl 0 rfl ?_
    refine w_get C 66 1 (Nat.le_of_ble_eq_true rfl) rfl rfl inB_X2 (by decide) tw2_40 rfl dX2_endsFacing_28 rfl ?_
    refine bd1_w h (fun r4 hc h => ?_)
    refine w_callVi C (n := 0) (As := []) (st := []) 67 (Nat.le_of_ble_eq_true rfl) rfl rfl (cfX3_areFacing D cI ad (l := X.2.1) C.2.2.1 hc) tw4_141 cy_X3_areFacing (by decide +kernel) ⟨Nat.le_of_ble_eq_true rfl, Nat.le_of_ble_eq_true rfl⟩ (by decide) rfl rfl (Nat.le_of_ble_eq_true rfl) dX2_endsFacing_31 rfl ?_
    refine w_if_eq C (qt := 41) dX2_endsFacing_34 (by decide) rfl h (fun _ h => ?_) (fun _ h => ?_)
    · refine w_iconst C 0 dX2_endsFacing_41 rfl (by decide) ?_
      exact w_rz2 hr (by decide) h (by decide) dX2_endsFacing_42
    · refine w_iconst C 1 dX2_endsFacing_37 rfl (by decide) ?_
      refine w_goto (q := 42) C dX2_endsFacing_38 (by decide) ?_
      exact w_rz2 hr (by decide) h (by decide) dX2_endsFacing_42
theorem cfX2_endsFacing (D : va_G) (cI : ClassId) (ad : Nat → Nat) {l : Launch} (had : gAp (gC D cI ad)) {F : Nat} {σ : St}  {r : Int32} {σ' : St} (h : fX2_endsFacing F σ = some (r, σ')) : MI l yX2_endsFacing (wB yX2_endsFacing cX2_endsFacing 1 (some .boolean)) 3 78 (gC D cI ad) [.ref (ad 66)] σ r σ' := mk_MZ had (by decide +kernel) (Nat.le_of_ble_eq_true rfl) (fun X hX C hr => wfX2_endsFacing C hr h)

def fX2_bindingBits (F : Nat) (σ : St) (a1 : Int32) : Option (Int32 × St) := lp (fun (K2 : (St × Int32 × Int32) → Option (Int32 × St)) (v1 : St × Int32 × Int32) => if (v1.1 2 1) ≤ v1.2.1 then (some (v1.2.2, v1.1)) else bd1 (fX2_prepare F v1.1 v1.2.1 a1) fun u4 => ckI (v1.2.1) 8 (if (u4 32 (Int32.toNatClampNeg v1.2.1)) = 0 then (bd2 (fX2_endsFacing F u4) fun r5 u6 => if r5 = 0 then (K2 ((u6, v1.2.1 + 1, v1.2.2))) else nm (v1.2.2 ||| ((1 : Int32) <<< (v1.2.1 &&& 31))) fun x7 => K2 ((u6, v1.2.1 + 1, x7))) else K2 ((u4, v1.2.1 + 1, v1.2.2)))) F ((σ, 0, 0))
set_option maxRecDepth 20000 in
theorem wfX2_bindingBits {X : XT} {D : va_G} {cI : ClassId} {ad : Nat → Nat} {F : Nat} {σ : St} {a1 : Int32} {r : Int32} {σ' : St} (C : Cx X (gC D cI ad) cX2_bindingBits 5 RX2 4 98 0) (hr : RetI X (gC D cI ad) cX2_bindingBits 5 0 r σ') (h : fX2_bindingBits F σ a1 = some (r, σ')) : WP X (gC D cI ad) 5 0 0 σ [(0, .ref (ad 66)), (1, .ref (ad 30)), (2, .int a1)] [] := by
  unfold fX2_bindingBits at h
  refine w_iconst C 0 dX2_bindingBits_0 rfl (by decide) ?_
  refine w_istore_n C [(3, .int 0), (0, .ref (ad 66)), (1, .ref (ad 30)), (2, .int a1)] dX2_bindingBits_1 rfl (by decide) rfl ?_
  refine w_iconst C 0 dX2_bindingBits_2 rfl (by decide) ?_
  refine w_istore C [(4, .int 0), (3, .int 0), (0, .ref (ad 66)), (1, .ref (ad 30)), (2, .int a1)] dX2_bindingBits_3 rfl (by decide) rfl ?_
  refine w_sub (lv' := [(4, .int 0), (3, .int 0), (0, .ref (ad 66)), (1, .ref (ad 30)), (2, .int a1)]) [0, 1, 2, 3, 4] rfl ?_
  refine lp_w (fun v1 : St × Int32 × Int32 => WP X (gC D cI ad) 5 0 5 v1.1 [(4, .int v1.2.1), (3, .int v1.2.2), (0, .ref (ad 66)), (1, .ref (ad 30)), (2, .int a1)] []) (fun K2 hK3 v1 h => ?_) F _ h
  refine w_iload C dX2_bindingBits_5 rfl 0 rfl ?_
  refine w_aload_n C dX2_bindingBits_7 rfl 2 rfl ?_
  refine w_get C 66 0 (Nat.le_of_ble_eq_true rfl) rfl rfl inB_X2 (by decide) tw2_39 rfl dX2_bindingBits_8 rfl ?_
  refine w_get C 2 1 (Nat.le_of_ble_eq_true rfl) rfl rfl inB_X0 (by decide) tw1_68 rfl dX2_bindingBits_11 rfl ?_
  refine w_icmp_ge C (qt := 55) dX2_bindingBits_14 (by decide) rfl h (fun _ h => ?_) (fun _ h => ?_)
  · refine w_iload_n C dX2_bindingBits_55 rfl 1 rfl ?_
    exact w_ri2 hr h (by decide) dX2_bindingBits_56
  · refine w_aload_n C dX2_bindingBits_17 rfl 2 rfl ?_
    refine w_aload_n C dX2_bindingBits_18 rfl 3 rfl ?_
    refine w_iload C dX2_bindingBits_19 rfl 0 rfl ?_
    refine w_iload_n C dX2_bindingBits_21 rfl 4 rfl ?_
    refine bd1_w h (fun u4 hc h => ?_)
    refine w_callVv C (n := 3) (As := [.ref (ad 30), .int v1.2.1, .int a1]) (st := []) 66 (Nat.le_of_ble_eq_true rfl) rfl rfl (cfX2_prepare D cI ad (l := X.2.1) C.2.2.1 hc) tw4_92 cy_X2_prepare (by decide +kernel) ⟨Nat.le_of_ble_eq_true rfl, Nat.le_of_ble_eq_true rfl⟩ (by decide) rfl rfl (Nat.le_of_ble_eq_true rfl) dX2_bindingBits_22 rfl ?_
    refine w_aload_n C dX2_bindingBits_25 rfl 3 rfl ?_
    refine w_get C 30 4 (Nat.le_of_ble_eq_true rfl) rfl rfl inB_X9 (by decide) tw1_201 rfl dX2_bindingBits_26 rfl ?_
    refine w_iload C dX2_bindingBits_29 rfl 0 rfl ?_
    refine w_iald C 32 8 0 (Nat.le_of_ble_eq_true rfl) (fun _ => rfl) rfl h dX2_bindingBits_31 rfl (fun h => ?_)
    refine w_if_ne C (qt := 49) dX2_bindingBits_32 (by decide) rfl h (fun _ h => ?_) (fun _ h => ?_)
    · refine w_iinc (j := 0) C (v1.2.1 + 1) [(4, .int (v1.2.1 + 1)), (3, .int v1.2.2), (0, .ref (ad 66)), (1, .ref (ad 30)), (2, .int a1)] dX2_bindingBits_49 rfl rfl rfl (by decide) rfl ?_
      refine w_goto (q := 5) C dX2_bindingBits_52 (by decide) ?_
      exact w_sub (lv' := [(4, .int (v1.2.1 + 1)), (3, .int v1.2.2), (0, .ref (ad 66)), (1, .ref (ad 30)), (2, .int a1)]) [0, 1, 2, 3, 4] rfl (hK3 ((u4, v1.2.1 + 1, v1.2.2)) h)
    · refine w_aload_n C dX2_bindingBits_35 rfl 2 rfl ?_
      refine bd2_w h (fun r5 u6 hc h => ?_)
      refine w_callVi C (n := 0) (As := []) (st := []) 66 (Nat.le_of_ble_eq_true rfl) rfl rfl (cfX2_endsFacing D cI ad (l := X.2.1) C.2.2.1 hc) tw4_109 cy_X2_endsFacing (by decide +kernel) ⟨Nat.le_of_ble_eq_true rfl, Nat.le_of_ble_eq_true rfl⟩ (by decide) rfl rfl (Nat.le_of_ble_eq_true rfl) dX2_bindingBits_36 rfl ?_
      refine w_if_eq C (qt := 49) dX2_bindingBits_39 (by decide) rfl h (fun _ h => ?_) (fun _ h => ?_)
      · refine w_iinc (j := 0) C (v1.2.1 + 1) [(4, .int (v1.2.1 + 1)), (3, .int v1.2.2), (0, .ref (ad 66)), (1, .ref (ad 30)), (2, .int a1)] dX2_bindingBits_49 rfl rfl rfl (by decide) rfl ?_
        refine w_goto (q := 5) C dX2_bindingBits_52 (by decide) ?_
        exact w_sub (lv' := [(4, .int (v1.2.1 + 1)), (3, .int v1.2.2), (0, .ref (ad 66)), (1, .ref (ad 30)), (2, .int a1)]) [0, 1, 2, 3, 4] rfl (hK3 ((u6, v1.2.1 + 1, v1.2.2)) h)
      · refine w_iload_n C dX2_bindingBits_42 rfl 1 rfl ?_
        refine w_iconst C 1 dX2_bindingBits_43 rfl (by decide) ?_
        refine w_iload C dX2_bindingBits_44 rfl 0 rfl ?_
        refine w_ishl C dX2_bindingBits_46 rfl ?_
        refine w_ior C dX2_bindingBits_47 rfl ?_
        refine w_nm h (fun x7 h => ?_)
        refine w_istore_n C [(3, .int x7), (4, .int v1.2.1), (0, .ref (ad 66)), (1, .ref (ad 30)), (2, .int a1)] dX2_bindingBits_48 rfl (by decide) rfl ?_
        refine w_iinc (j := 1) C (v1.2.1 + 1) [(4, .int (v1.2.1 + 1)), (3, .int x7), (0, .ref (ad 66)), (1, .ref (ad 30)), (2, .int a1)] dX2_bindingBits_49 rfl rfl rfl (by decide) rfl ?_
        refine w_goto (q := 5) C dX2_bindingBits_52 (by decide) ?_
        exact w_sub (lv' := [(4, .int (v1.2.1 + 1)), (3, .int x7), (0, .ref (ad 66)), (1, .ref (ad 30)), (2, .int a1)]) [0, 1, 2, 3, 4] rfl (hK3 ((u6, v1.2.1 + 1, x7)) h)
theorem cfX2_bindingBits (D : va_G) (cI : ClassId) (ad : Nat → Nat) {l : Launch} (had : gAp (gC D cI ad)) {F : Nat} {σ : St} {a1 : Int32} {r : Int32} {σ' : St} (h : fX2_bindingBits F σ a1 = some (r, σ')) : MI l yX2_bindingBits (wB yX2_bindingBits cX2_bindingBits 5 (some .int)) 4 98 (gC D cI ad) [.ref (ad 66), .ref (ad 30), .int a1] σ r σ' := mk_MI had (by decide +kernel) (Nat.le_of_ble_eq_true rfl) (fun X hX C hr => wfX2_bindingBits C hr h)

def fJ7_fill_53178_4 (F : Nat) (σ : St) (a1 : Int32) : Option St := lp (fun (K2 : (St × Int32) → Option St) (v1 : St × Int32) => if (128 : Int32) ≤ v1.2 then (some v1.1) else ckI (v1.2) 128 (nm (up v1.1 83 (Int32.toNatClampNeg v1.2) a1) fun u4 => K2 ((u4, v1.2 + 1)))) F ((σ, 0))
set_option maxRecDepth 20000 in
theorem wfJ7_fill_53178_4 {X : XT} {D : va_G} {cI : ClassId} {ad : Nat → Nat} {F : Nat} {σ : St} {a1 : Int32} {σ' : St} (C : Cx X (gC D cI ad) cJ7_fill_53178 4 RJ7 0 0 0) (hr : RetV X (gC D cI ad) cJ7_fill_53178 4 0 σ') (h : fJ7_fill_53178_4 F σ a1 = some σ') : WP X (gC D cI ad) 4 0 0 σ [(0, .ref (ad 83)), (1, .int a1)] [] := by
  unfold fJ7_fill_53178_4 at h
  refine w_iconst C 0 dJ7_fill_53178_0 rfl (by decide) ?_
  refine w_istore_n C [(2, .int 0), (0, .ref (ad 83)), (1, .int a1)] dJ7_fill_53178_1 rfl (by decide) rfl ?_
  refine w_aload_n C dJ7_fill_53178_2 rfl 1 rfl ?_
  refine w_alen C 83 128 0 128 (Nat.le_of_ble_eq_true rfl) (fun _ => rfl) rfl (by decide) dJ7_fill_53178_3 rfl ?_
  refine w_istore_n C [(3, .int 128), (2, .int 0), (0, .ref (ad 83)), (1, .int a1)] dJ7_fill_53178_4 rfl (by decide) rfl ?_
  refine w_sub (lv' := [(3, .int 128), (2, .int 0), (0, .ref (ad 83)), (1, .int a1)]) [0, 1, 2, 3] rfl ?_
  refine lp_w (fun v1 : St × Int32 => WP X (gC D cI ad) 4 0 5 v1.1 [(3, .int 128), (2, .int v1.2), (0, .ref (ad 83)), (1, .int a1)] []) (fun K2 hK3 v1 h => ?_) F _ h
  refine w_iload_n C dJ7_fill_53178_5 rfl 1 rfl ?_
  refine w_iload_n C dJ7_fill_53178_6 rfl 0 rfl ?_
  refine w_icmp_ge C (qt := 20) dJ7_fill_53178_7 (by decide) rfl h (fun _ h => ?_) (fun _ h => ?_)
  · exact w_rv hr h (by decide) dJ7_fill_53178_20
  · refine w_aload_n C dJ7_fill_53178_10 rfl 2 rfl ?_
    refine w_iload_n C dJ7_fill_53178_11 rfl 1 rfl ?_
    refine w_iload_n C dJ7_fill_53178_12 rfl 3 rfl ?_
    refine w_iast C 83 128 0 (Nat.le_of_ble_eq_true rfl) (fun _ => rfl) rfl h dJ7_fill_53178_13 rfl (fun h => ?_)
    refine w_nst h (fun u4 h => ?_)
    refine w_iinc (j := 1) C (v1.2 + 1) [(2, .int (v1.2 + 1)), (3, .int 128), (0, .ref (ad 83)), (1, .int a1)] dJ7_fill_53178_14 rfl rfl rfl (by decide) rfl ?_
    refine w_goto (q := 5) C dJ7_fill_53178_17 (by decide) ?_
    exact w_sub (lv' := [(3, .int 128), (2, .int (v1.2 + 1)), (0, .ref (ad 83)), (1, .int a1)]) [1, 0, 2, 3] rfl (hK3 ((u4, v1.2 + 1)) h)
theorem cfJ7_fill_53178_4 (D : va_G) (cI : ClassId) (ad : Nat → Nat) {l : Launch} (had : gAp (gC D cI ad)) {F : Nat} {σ : St} {a1 : Int32} {σ' : St} (h : fJ7_fill_53178_4 F σ a1 = some σ') : MV l yJ7_fill_53178 (wB yJ7_fill_53178 cJ7_fill_53178 4 none) 0 0 (gC D cI ad) [.ref (ad 83), .int a1] σ σ' := mk_MV had (by decide +kernel) (Nat.le_of_ble_eq_true rfl) (fun X hX C hr => wfJ7_fill_53178_4 C hr h)

def fX0_goes (F : Nat) (σ : St) (a0 : Int32) (a1 : Int32) : Option Int32 := bd1 (fX10_placeOf F σ a0 a1) fun r1 => ckI (r1) 80 (nm (σ 8 (Int32.toNatClampNeg r1)) fun x2 => if x2 = 0 then (some 1) else if x2 = (2 : Int32) then (some 1) else some 0)
set_option maxRecDepth 20000 in
theorem wfX0_goes {X : XT} {D : va_G} {cI : ClassId} {ad : Nat → Nat} {F : Nat} {σ : St} {a0 : Int32} {a1 : Int32} {r : Int32} (C : Cx X (gC D cI ad) cX0_goes 4 RX0 1 21 0) (hr : RetZ X (gC D cI ad) cX0_goes 4 0 r σ) (h : fX0_goes F σ a0 a1 = some r) : WP X (gC D cI ad) 4 0 0 σ [(0, .ref (ad 2)), (1, .int a0), (2, .int a1)] [] := by
  unfold fX0_goes at h
  refine w_aload_n C dX0_goes_0 rfl 0 rfl ?_
  refine w_get C 2 10 (Nat.le_of_ble_eq_true rfl) rfl rfl inB_X0 (by decide) tw1_100 rfl dX0_goes_1 rfl ?_
  refine w_iload_n C dX0_goes_4 rfl 1 rfl ?_
  refine w_iload_n C dX0_goes_5 rfl 2 rfl ?_
  refine bd1_w h (fun r1 hc h => ?_)
  refine w_callNi C (n := 2) (As := [.int a0, .int a1]) (st := [.ref (ad 8)]) (host := RX10) (cfX10_placeOf D cI ad (l := X.2.1) C.2.2.1 hc) (by decide +kernel) cs_X10_placeOf (by decide +kernel) ⟨Nat.le_of_ble_eq_true rfl, Nat.le_of_ble_eq_true rfl⟩ (by decide) rfl rfl (Nat.le_of_ble_eq_true rfl) dX0_goes_6 rfl ?_
  refine w_iald C 8 80 0 (Nat.le_of_ble_eq_true rfl) (fun _ => rfl) rfl h dX0_goes_9 rfl (fun h => ?_)
  refine w_nm h (fun x2 h => ?_)
  refine w_istore_n C [(3, .int x2), (0, .ref (ad 2)), (1, .int a0), (2, .int a1)] dX0_goes_10 rfl (by decide) rfl ?_
  refine w_iload_n C dX0_goes_11 rfl 0 rfl ?_
  refine w_if_eq C (qt := 20) dX0_goes_12 (by decide) rfl h (fun _ h => ?_) (fun _ h => ?_)
  · refine w_iconst C 1 dX0_goes_20 rfl (by decide) ?_
    refine w_goto (q := 25) C dX0_goes_21 (by decide) ?_
    exact w_rz1 hr (by decide) h (by decide) dX0_goes_25
  · refine w_iload_n C dX0_goes_15 rfl 0 rfl ?_
    refine w_iconst C 2 dX0_goes_16 rfl (by decide) ?_
    refine w_icmp_ne C (qt := 24) dX0_goes_17 (by decide) rfl h (fun _ h => ?_) (fun _ h => ?_)
    · refine w_iconst C 0 dX0_goes_24 rfl (by decide) ?_
      exact w_rz1 hr (by decide) h (by decide) dX0_goes_25
    · refine w_iconst C 1 dX0_goes_20 rfl (by decide) ?_
      refine w_goto (q := 25) C dX0_goes_21 (by decide) ?_
      exact w_rz1 hr (by decide) h (by decide) dX0_goes_25
theorem cfX0_goes (D : va_G) (cI : ClassId) (ad : Nat → Nat) {l : Launch} (had : gAp (gC D cI ad)) {F : Nat} {σ : St} {a0 : Int32} {a1 : Int32} {r : Int32} (h : fX0_goes F σ a0 a1 = some r) : MI l yX0_goes (wB yX0_goes cX0_goes 4 (some .boolean)) 1 21 (gC D cI ad) [.ref (ad 2), .int a0, .int a1] σ r σ := mk_MZ had (by decide +kernel) (Nat.le_of_ble_eq_true rfl) (fun X hX C hr => wfX0_goes C hr h)

def fX6_isClause (F : Nat) (σ : St) (a0 : Int32) (a1 : Int32) : Option Int32 := bd1 (fX0_goes F σ a0 a1) fun r1 => if r1 = 0 then (some 0) else bd1 (fX10_placeOf F σ a0 a1) fun r2 => ckI (r2) 80 (if (σ 33 (Int32.toNatClampNeg r2)) = 0 then (some 0) else some 1)
set_option maxRecDepth 20000 in
theorem wfX6_isClause {X : XT} {D : va_G} {cI : ClassId} {ad : Nat → Nat} {F : Nat} {σ : St} {a0 : Int32} {a1 : Int32} {r : Int32} (C : Cx X (gC D cI ad) cX6_isClause 3 RX6 2 44 0) (hr : RetZ X (gC D cI ad) cX6_isClause 3 0 r σ) (h : fX6_isClause F σ a0 a1 = some r) : WP X (gC D cI ad) 3 0 0 σ [(0, .ref (ad 81)), (1, .int a0), (2, .int a1)] [] := by
  unfold fX6_isClause at h
  refine w_aload_n C dX6_isClause_0 rfl 0 rfl ?_
  refine w_get C 81 0 (Nat.le_of_ble_eq_true rfl) rfl rfl inB_X6 (by decide) tw2_101 rfl dX6_isClause_1 rfl ?_
  refine w_iload_n C dX6_isClause_4 rfl 1 rfl ?_
  refine w_iload_n C dX6_isClause_5 rfl 2 rfl ?_
  refine bd1_w h (fun r1 hc h => ?_)
  refine w_callVi C (n := 2) (As := [.int a0, .int a1]) (st := []) 2 (Nat.le_of_ble_eq_true rfl) rfl rfl (cfX0_goes D cI ad (l := X.2.1) C.2.2.1 hc) tw4_166 cy_X0_goes (by decide +kernel) ⟨Nat.le_of_ble_eq_true rfl, Nat.le_of_ble_eq_true rfl⟩ (by decide) rfl rfl (Nat.le_of_ble_eq_true rfl) dX6_isClause_6 rfl ?_
  refine w_if_eq C (qt := 32) dX6_isClause_9 (by decide) rfl h (fun _ h => ?_) (fun _ h => ?_)
  · refine w_iconst C 0 dX6_isClause_32 rfl (by decide) ?_
    exact w_rz1 hr (by decide) h (by decide) dX6_isClause_33
  · refine w_aload_n C dX6_isClause_12 rfl 0 rfl ?_
    refine w_get C 81 1 (Nat.le_of_ble_eq_true rfl) rfl rfl inB_X6 (by decide) tw2_102 rfl dX6_isClause_13 rfl ?_
    refine w_get C 30 5 (Nat.le_of_ble_eq_true rfl) rfl rfl inB_X9 (by decide) tw1_205 rfl dX6_isClause_16 rfl ?_
    refine w_iload_n C dX6_isClause_19 rfl 1 rfl ?_
    refine w_iload_n C dX6_isClause_20 rfl 2 rfl ?_
    refine bd1_w h (fun r2 hc h => ?_)
    refine w_callNi C (n := 2) (As := [.int a0, .int a1]) (st := [.ref (ad 33)]) (host := RX10) (cfX10_placeOf D cI ad (l := X.2.1) C.2.2.1 hc) (by decide +kernel) cs_X10_placeOf (by decide +kernel) ⟨Nat.le_of_ble_eq_true rfl, Nat.le_of_ble_eq_true rfl⟩ (by decide) rfl rfl (Nat.le_of_ble_eq_true rfl) dX6_isClause_21 rfl ?_
    refine w_iald C 33 80 0 (Nat.le_of_ble_eq_true rfl) (fun _ => rfl) rfl h dX6_isClause_24 rfl (fun h => ?_)
    refine w_if_eq C (qt := 32) dX6_isClause_25 (by decide) rfl h (fun _ h => ?_) (fun _ h => ?_)
    · refine w_iconst C 0 dX6_isClause_32 rfl (by decide) ?_
      exact w_rz1 hr (by decide) h (by decide) dX6_isClause_33
    · refine w_iconst C 1 dX6_isClause_28 rfl (by decide) ?_
      refine w_goto (q := 33) C dX6_isClause_29 (by decide) ?_
      exact w_rz1 hr (by decide) h (by decide) dX6_isClause_33
theorem cfX6_isClause (D : va_G) (cI : ClassId) (ad : Nat → Nat) {l : Launch} (had : gAp (gC D cI ad)) {F : Nat} {σ : St} {a0 : Int32} {a1 : Int32} {r : Int32} (h : fX6_isClause F σ a0 a1 = some r) : MI l yX6_isClause (wB yX6_isClause cX6_isClause 3 (some .boolean)) 2 44 (gC D cI ad) [.ref (ad 81), .int a0, .int a1] σ r σ := mk_MZ had (by decide +kernel) (Nat.le_of_ble_eq_true rfl) (fun X hX C hr => wfX6_isClause C hr h)

def fX0_isOf (F : Nat) (σ : St) (a0 : Int32) (a1 : Int32) (a2 : Int32) : Option Int32 := bd1 (fX10_placeOf F σ a0 a1) fun r1 => ckI (r1) 80 (nm (σ 9 (Int32.toNatClampNeg r1)) fun x2 => if x2 = (2 : Int32) then (some 1) else if x2 = a2 then (some 1) else some 0)
set_option maxRecDepth 20000 in
theorem wfX0_isOf {X : XT} {D : va_G} {cI : ClassId} {ad : Nat → Nat} {F : Nat} {σ : St} {a0 : Int32} {a1 : Int32} {a2 : Int32} {r : Int32} (C : Cx X (gC D cI ad) cX0_isOf 5 RX0 1 21 0) (hr : RetZ X (gC D cI ad) cX0_isOf 5 0 r σ) (h : fX0_isOf F σ a0 a1 a2 = some r) : WP X (gC D cI ad) 5 0 0 σ [(0, .ref (ad 2)), (1, .int a0), (2, .int a1), (3, .int a2)] [] := by
  unfold fX0_isOf at h
  refine w_aload_n C dX0_isOf_0 rfl 0 rfl ?_
  refine w_get C 2 11 (Nat.le_of_ble_eq_true rfl) rfl rfl inB_X0 (by decide) tw1_105 rfl dX0_isOf_1 rfl ?_
  refine w_iload_n C dX0_isOf_4 rfl 1 rfl ?_
  refine w_iload_n C dX0_isOf_5 rfl 2 rfl ?_
  refine bd1_w h (fun r1 hc h => ?_)
  refine w_callNi C (n := 2) (As := [.int a0, .int a1]) (st := [.ref (ad 9)]) (host := RX10) (cfX10_placeOf D cI ad (l := X.2.1) C.2.2.1 hc) (by decide +kernel) cs_X10_placeOf (by decide +kernel) ⟨Nat.le_of_ble_eq_true rfl, Nat.le_of_ble_eq_true rfl⟩ (by decide) rfl rfl (Nat.le_of_ble_eq_true rfl) dX0_isOf_6 rfl ?_
  refine w_iald C 9 80 0 (Nat.le_of_ble_eq_true rfl) (fun _ => rfl) rfl h dX0_isOf_9 rfl (fun h => ?_)
  refine w_nm h (fun x2 h => ?_)
  refine w_istore C [(4, .int x2), (0, .ref (ad 2)), (1, .int a0), (2, .int a1), (3, .int a2)] dX0_isOf_10 rfl (by decide) rfl ?_
  refine w_iload C dX0_isOf_12 rfl 0 rfl ?_
  refine w_iconst C 2 dX0_isOf_14 rfl (by decide) ?_
  refine w_icmp_eq C (qt := 24) dX0_isOf_15 (by decide) rfl h (fun _ h => ?_) (fun _ h => ?_)
  · refine w_iconst C 1 dX0_isOf_24 rfl (by decide) ?_
    refine w_goto (q := 29) C dX0_isOf_25 (by decide) ?_
    exact w_rz1 hr (by decide) h (by decide) dX0_isOf_29
  · refine w_iload C dX0_isOf_18 rfl 0 rfl ?_
    refine w_iload_n C dX0_isOf_20 rfl 4 rfl ?_
    refine w_icmp_ne C (qt := 28) dX0_isOf_21 (by decide) rfl h (fun _ h => ?_) (fun _ h => ?_)
    · refine w_iconst C 0 dX0_isOf_28 rfl (by decide) ?_
      exact w_rz1 hr (by decide) h (by decide) dX0_isOf_29
    · refine w_iconst C 1 dX0_isOf_24 rfl (by decide) ?_
      refine w_goto (q := 29) C dX0_isOf_25 (by decide) ?_
      exact w_rz1 hr (by decide) h (by decide) dX0_isOf_29
theorem cfX0_isOf (D : va_G) (cI : ClassId) (ad : Nat → Nat) {l : Launch} (had : gAp (gC D cI ad)) {F : Nat} {σ : St} {a0 : Int32} {a1 : Int32} {a2 : Int32} {r : Int32} (h : fX0_isOf F σ a0 a1 a2 = some r) : MI l yX0_isOf (wB yX0_isOf cX0_isOf 5 (some .boolean)) 1 21 (gC D cI ad) [.ref (ad 2), .int a0, .int a1, .int a2] σ r σ := mk_MZ had (by decide +kernel) (Nat.le_of_ble_eq_true rfl) (fun X hX C hr => wfX0_isOf C hr h)

def fX6_isGloved (F : Nat) (σ : St) (a0 : Int32) (a1 : Int32) (a2 : Int32) : Option Int32 := lp (fun (K2 : Int32 → Option Int32) (v1 : Int32) => ckI (a0) 8 (if (σ 7 (Int32.toNatClampNeg a0)) ≤ v1 then (some 0) else bd1 (fX10_placeOf F σ a0 v1) fun r4 => ckI (r4) 80 (if (σ 8 (Int32.toNatClampNeg r4)) = (3 : Int32) then (ckI (r4) 80 (if (σ 11 (Int32.toNatClampNeg r4)) = a2 then (bd1 (fX0_isOf F σ a0 v1 a1) fun r5 => if r5 = 0 then (K2 (v1 + 1)) else some 1) else K2 (v1 + 1))) else K2 (v1 + 1)))) F 0
set_option maxRecDepth 20000 in
theorem wfX6_isGloved {X : XT} {D : va_G} {cI : ClassId} {ad : Nat → Nat} {F : Nat} {σ : St} {a0 : Int32} {a1 : Int32} {a2 : Int32} {r : Int32} (C : Cx X (gC D cI ad) cX6_isGloved 6 RX6 2 45 0) (hr : RetZ X (gC D cI ad) cX6_isGloved 6 0 r σ) (h : fX6_isGloved F σ a0 a1 a2 = some r) : WP X (gC D cI ad) 6 0 0 σ [(0, .ref (ad 81)), (1, .int a0), (2, .int a1), (3, .int a2)] [] := by
  unfold fX6_isGloved at h
  refine w_iconst C 0 dX6_isGloved_0 rfl (by decide) ?_
  refine w_istore C [(4, .int 0), (0, .ref (ad 81)), (1, .int a0), (2, .int a1), (3, .int a2)] dX6_isGloved_1 rfl (by decide) rfl ?_
  refine w_sub (lv' := [(4, .int 0), (0, .ref (ad 81)), (1, .int a0), (2, .int a1), (3, .int a2)]) [0, 1, 2, 3, 4] rfl ?_
  refine lp_w (fun v1 : Int32 => WP X (gC D cI ad) 6 0 3 σ [(4, .int v1), (0, .ref (ad 81)), (1, .int a0), (2, .int a1), (3, .int a2)] []) (fun K2 hK3 v1 h => ?_) F _ h
  refine w_iload C dX6_isGloved_3 rfl 0 rfl ?_
  refine w_aload_n C dX6_isGloved_5 rfl 1 rfl ?_
  refine w_get C 81 0 (Nat.le_of_ble_eq_true rfl) rfl rfl inB_X6 (by decide) tw2_101 rfl dX6_isGloved_6 rfl ?_
  refine w_get C 2 9 (Nat.le_of_ble_eq_true rfl) rfl rfl inB_X0 (by decide) tw1_97 rfl dX6_isGloved_9 rfl ?_
  refine w_iload_n C dX6_isGloved_12 rfl 2 rfl ?_
  refine w_iald C 7 8 0 (Nat.le_of_ble_eq_true rfl) (fun _ => rfl) rfl h dX6_isGloved_13 rfl (fun h => ?_)
  refine w_icmp_ge C (qt := 75) dX6_isGloved_14 (by decide) rfl h (fun _ h => ?_) (fun _ h => ?_)
  · refine w_iconst C 0 dX6_isGloved_75 rfl (by decide) ?_
    exact w_rz1 hr (by decide) h (by decide) dX6_isGloved_76
  · refine w_iload_n C dX6_isGloved_17 rfl 2 rfl ?_
    refine w_iload C dX6_isGloved_18 rfl 0 rfl ?_
    refine bd1_w h (fun r4 hc h => ?_)
    refine w_callNi C (n := 2) (As := [.int a0, .int v1]) (st := []) (host := RX10) (cfX10_placeOf D cI ad (l := X.2.1) C.2.2.1 hc) (by decide +kernel) cs_X10_placeOf (by decide +kernel) ⟨Nat.le_of_ble_eq_true rfl, Nat.le_of_ble_eq_true rfl⟩ (by decide) rfl rfl (Nat.le_of_ble_eq_true rfl) dX6_isGloved_20 rfl ?_
    refine w_istore C [(5, .int r4), (4, .int v1), (0, .ref (ad 81)), (1, .int a0), (2, .int a1), (3, .int a2)] dX6_isGloved_23 rfl (by decide) rfl ?_
    refine w_aload_n C dX6_isGloved_25 rfl 2 rfl ?_
    refine w_get C 81 0 (Nat.le_of_ble_eq_true rfl) rfl rfl inB_X6 (by decide) tw2_101 rfl dX6_isGloved_26 rfl ?_
    refine w_get C 2 10 (Nat.le_of_ble_eq_true rfl) rfl rfl inB_X0 (by decide) tw1_102 rfl dX6_isGloved_29 rfl ?_
    refine w_iload C dX6_isGloved_32 rfl 0 rfl ?_
    refine w_iald C 8 80 0 (Nat.le_of_ble_eq_true rfl) (fun _ => rfl) rfl h dX6_isGloved_34 rfl (fun h => ?_)
    refine w_iconst C 3 dX6_isGloved_35 rfl (by decide) ?_
    refine w_icmp_ne C (qt := 69) dX6_isGloved_36 (by decide) rfl h (fun _ h => ?_) (fun _ h => ?_)
    · refine w_iinc (j := 1) C (v1 + 1) [(4, .int (v1 + 1)), (5, .int r4), (0, .ref (ad 81)), (1, .int a0), (2, .int a1), (3, .int a2)] dX6_isGloved_69 rfl rfl rfl (by decide) rfl ?_
      refine w_goto (q := 3) C dX6_isGloved_72 (by decide) ?_
      exact w_sub (lv' := [(4, .int (v1 + 1)), (0, .ref (ad 81)), (1, .int a0), (2, .int a1), (3, .int a2)]) [0, 2, 3, 4, 5] rfl (hK3 (v1 + 1) h)
    · refine w_aload_n C dX6_isGloved_39 rfl 2 rfl ?_
      refine w_get C 81 0 (Nat.le_of_ble_eq_true rfl) rfl rfl inB_X6 (by decide) tw2_101 rfl dX6_isGloved_40 rfl ?_
      refine w_get C 2 13 (Nat.le_of_ble_eq_true rfl) rfl rfl inB_X0 (by decide) tw1_113 rfl dX6_isGloved_43 rfl ?_
      refine w_iload C dX6_isGloved_46 rfl 0 rfl ?_
      refine w_iald C 11 80 0 (Nat.le_of_ble_eq_true rfl) (fun _ => rfl) rfl h dX6_isGloved_48 rfl (fun h => ?_)
      refine w_iload_n C dX6_isGloved_49 rfl 5 rfl ?_
      refine w_icmp_ne C (qt := 69) dX6_isGloved_50 (by decide) rfl h (fun _ h => ?_) (fun _ h => ?_)
      · refine w_iinc (j := 1) C (v1 + 1) [(4, .int (v1 + 1)), (5, .int r4), (0, .ref (ad 81)), (1, .int a0), (2, .int a1), (3, .int a2)] dX6_isGloved_69 rfl rfl rfl (by decide) rfl ?_
        refine w_goto (q := 3) C dX6_isGloved_72 (by decide) ?_
        exact w_sub (lv' := [(4, .int (v1 + 1)), (0, .ref (ad 81)), (1, .int a0), (2, .int a1), (3, .int a2)]) [0, 2, 3, 4, 5] rfl (hK3 (v1 + 1) h)
      · refine w_aload_n C dX6_isGloved_53 rfl 2 rfl ?_
        refine w_get C 81 0 (Nat.le_of_ble_eq_true rfl) rfl rfl inB_X6 (by decide) tw2_101 rfl dX6_isGloved_54 rfl ?_
        refine w_iload_n C dX6_isGloved_57 rfl 3 rfl ?_
        refine w_iload C dX6_isGloved_58 rfl 1 rfl ?_
        refine w_iload_n C dX6_isGloved_60 rfl 4 rfl ?_
        refine bd1_w h (fun r5 hc h => ?_)
        refine w_callVi C (n := 3) (As := [.int a0, .int v1, .int a1]) (st := []) 2 (Nat.le_of_ble_eq_true rfl) rfl rfl (cfX0_isOf D cI ad (l := X.2.1) C.2.2.1 hc) tw4_172 cy_X0_isOf (by decide +kernel) ⟨Nat.le_of_ble_eq_true rfl, Nat.le_of_ble_eq_true rfl⟩ (by decide) rfl rfl (Nat.le_of_ble_eq_true rfl) dX6_isGloved_61 rfl ?_
        refine w_if_eq C (qt := 69) dX6_isGloved_64 (by decide) rfl h (fun _ h => ?_) (fun _ h => ?_)
        · refine w_iinc (j := 1) C (v1 + 1) [(4, .int (v1 + 1)), (5, .int r4), (0, .ref (ad 81)), (1, .int a0), (2, .int a1), (3, .int a2)] dX6_isGloved_69 rfl rfl rfl (by decide) rfl ?_
          refine w_goto (q := 3) C dX6_isGloved_72 (by decide) ?_
          exact w_sub (lv' := [(4, .int (v1 + 1)), (0, .ref (ad 81)), (1, .int a0), (2, .int a1), (3, .int a2)]) [0, 2, 3, 4, 5] rfl (hK3 (v1 + 1) h)
        · refine w_iconst C 1 dX6_isGloved_67 rfl (by decide) ?_
          exact w_rz1 hr (by decide) h (by decide) dX6_isGloved_68
theorem cfX6_isGloved (D : va_G) (cI : ClassId) (ad : Nat → Nat) {l : Launch} (had : gAp (gC D cI ad)) {F : Nat} {σ : St} {a0 : Int32} {a1 : Int32} {a2 : Int32} {r : Int32} (h : fX6_isGloved F σ a0 a1 a2 = some r) : MI l yX6_isGloved (wB yX6_isGloved cX6_isGloved 6 (some .boolean)) 2 45 (gC D cI ad) [.ref (ad 81), .int a0, .int a1, .int a2] σ r σ := mk_MZ had (by decide +kernel) (Nat.le_of_ble_eq_true rfl) (fun X hX C hr => wfX6_isGloved C hr h)

def fX6_isBoundBy (F : Nat) (σ : St) (a0 : Int32) (a1 : Int32) (a2 : Int32) : Option Int32 := bd1 (fX6_isClause F σ a0 a1) fun r1 => if r1 = 0 then (some 0) else bd1 (fX0_isOf F σ a0 a1 a2) fun r2 => if r2 = 0 then (some 0) else bd1 (fX10_placeOf F σ a0 a1) fun r3 => ckI (r3) 80 (bd1 (fX6_isGloved F σ a0 a2 (σ 11 (Int32.toNatClampNeg r3))) fun r4 => if r4 = 0 then (some 1) else some 0)
set_option maxRecDepth 20000 in
theorem wfX6_isBoundBy {X : XT} {D : va_G} {cI : ClassId} {ad : Nat → Nat} {F : Nat} {σ : St} {a0 : Int32} {a1 : Int32} {a2 : Int32} {r : Int32} (C : Cx X (gC D cI ad) cX6_isBoundBy 4 RX6 3 70 0) (hr : RetZ X (gC D cI ad) cX6_isBoundBy 4 0 r σ) (h : fX6_isBoundBy F σ a0 a1 a2 = some r) : WP X (gC D cI ad) 4 0 0 σ [(0, .ref (ad 81)), (1, .int a0), (2, .int a1), (3, .int a2)] [] := by
  unfold fX6_isBoundBy at h
  refine w_aload_n C dX6_isBoundBy_0 rfl 0 rfl ?_
  refine w_iload_n C dX6_isBoundBy_1 rfl 1 rfl ?_
  refine w_iload_n C dX6_isBoundBy_2 rfl 2 rfl ?_
  refine bd1_w h (fun r1 hc h => ?_)
  refine w_callVi C (n := 2) (As := [.int a0, .int a1]) (st := []) 81 (Nat.le_of_ble_eq_true rfl) rfl rfl (cfX6_isClause D cI ad (l := X.2.1) C.2.2.1 hc) tw4_162 cy_X6_isClause (by decide +kernel) ⟨Nat.le_of_ble_eq_true rfl, Nat.le_of_ble_eq_true rfl⟩ (by decide) rfl rfl (Nat.le_of_ble_eq_true rfl) dX6_isBoundBy_3 rfl ?_
  refine w_if_eq C (qt := 48) dX6_isBoundBy_6 (by decide) rfl h (fun _ h => ?_) (fun _ h => ?_)
  · refine w_iconst C 0 dX6_isBoundBy_48 rfl (by decide) ?_
    exact w_rz1 hr (by decide) h (by decide) dX6_isBoundBy_49
  · refine w_aload_n C dX6_isBoundBy_9 rfl 0 rfl ?_
    refine w_get C 81 0 (Nat.le_of_ble_eq_true rfl) rfl rfl inB_X6 (by decide) tw2_101 rfl dX6_isBoundBy_10 rfl ?_
    refine w_iload_n C dX6_isBoundBy_13 rfl 1 rfl ?_
    refine w_iload_n C dX6_isBoundBy_14 rfl 2 rfl ?_
    refine w_iload_n C dX6_isBoundBy_15 rfl 3 rfl ?_
    refine bd1_w h (fun r2 hc h => ?_)
    refine w_callVi C (n := 3) (As := [.int a0, .int a1, .int a2]) (st := []) 2 (Nat.le_of_ble_eq_true rfl) rfl rfl (cfX0_isOf D cI ad (l := X.2.1) C.2.2.1 hc) tw4_172 cy_X0_isOf (by decide +kernel) ⟨Nat.le_of_ble_eq_true rfl, Nat.le_of_ble_eq_true rfl⟩ (by decide) rfl rfl (Nat.le_of_ble_eq_true rfl) dX6_isBoundBy_16 rfl ?_
    refine w_if_eq C (qt := 48) dX6_isBoundBy_19 (by decide) rfl h (fun _ h => ?_) (fun _ h => ?_)
    · refine w_iconst C 0 dX6_isBoundBy_48 rfl (by decide) ?_
      exact w_rz1 hr (by decide) h (by decide) dX6_isBoundBy_49
    · refine w_aload_n C dX6_isBoundBy_22 rfl 0 rfl ?_
      refine w_iload_n C dX6_isBoundBy_23 rfl 1 rfl ?_
      refine w_iload_n C dX6_isBoundBy_24 rfl 3 rfl ?_
      refine w_aload_n C dX6_isBoundBy_25 rfl 0 rfl ?_
      refine w_get C 81 0 (Nat.le_of_ble_eq_true rfl) rfl rfl inB_X6 (by decide) tw2_101 rfl dX6_isBoundBy_26 rfl ?_
      refine w_get C 2 13 (Nat.le_of_ble_eq_true rfl) rfl rfl inB_X0 (by decide) tw1_113 rfl dX6_isBoundBy_29 rfl ?_
      refine w_iload_n C dX6_isBoundBy_32 rfl 1 rfl ?_
      refine w_iload_n C dX6_isBoundBy_33 rfl 2 rfl ?_
      refine bd1_w h (fun r3 hc h => ?_)
      refine w_callNi C (n := 2) (As := [.int a0, .int a1]) (st := [.ref (ad 11), .int a2, .int a0, .ref (ad 81)]) (host := RX10) (cfX10_placeOf D cI ad (l := X.2.1) C.2.2.1 hc) (by decide +kernel) cs_X10_placeOf (by decide +kernel) ⟨Nat.le_of_ble_eq_true rfl, Nat.le_of_ble_eq_true rfl⟩ (by decide) rfl rfl (Nat.le_of_ble_eq_true rfl) dX6_isBoundBy_34 rfl ?_
      refine w_iald C 11 80 0 (Nat.le_of_ble_eq_true rfl) (fun _ => rfl) rfl h dX6_isBoundBy_37 rfl (fun h => ?_)
      refine bd1_w h (fun r4 hc h => ?_)
      refine w_callVi C (n := 3) (As := [.int a0, .int a2, .int (σ 11 (Int32.toNatClampNeg r3))]) (st := []) 81 (Nat.le_of_ble_eq_true rfl) rfl rfl (cfX6_isGloved D cI ad (l := X.2.1) C.2.2.1 hc) tw4_176 cy_X6_isGloved (by decide +kernel) ⟨Nat.le_of_ble_eq_true rfl, Nat.le_of_ble_eq_true rfl⟩ (by decide) rfl rfl (Nat.le_of_ble_eq_true rfl) dX6_isBoundBy_38 rfl ?_
      refine w_if_ne C (qt := 48) dX6_isBoundBy_41 (by decide) rfl h (fun _ h => ?_) (fun _ h => ?_)
      · refine w_iconst C 0 dX6_isBoundBy_48 rfl (by decide) ?_
        exact w_rz1 hr (by decide) h (by decide) dX6_isBoundBy_49
      · refine w_iconst C 1 dX6_isBoundBy_44 rfl (by decide) ?_
        refine w_goto (q := 49) C dX6_isBoundBy_45 (by decide) ?_
        exact w_rz1 hr (by decide) h (by decide) dX6_isBoundBy_49
theorem cfX6_isBoundBy (D : va_G) (cI : ClassId) (ad : Nat → Nat) {l : Launch} (had : gAp (gC D cI ad)) {F : Nat} {σ : St} {a0 : Int32} {a1 : Int32} {a2 : Int32} {r : Int32} (h : fX6_isBoundBy F σ a0 a1 a2 = some r) : MI l yX6_isBoundBy (wB yX6_isBoundBy cX6_isBoundBy 4 (some .boolean)) 3 70 (gC D cI ad) [.ref (ad 81), .int a0, .int a1, .int a2] σ r σ := mk_MZ had (by decide +kernel) (Nat.le_of_ble_eq_true rfl) (fun X hX C hr => wfX6_isBoundBy C hr h)

def fX6_rowOf (F : Nat) (σ : St) (a0 : Int32) (a1 : Int32) (a2 : Int32) : Option Int32 := some ((((a0 * 2) + a1) * 8) + a2)
set_option maxRecDepth 20000 in
theorem wfX6_rowOf {X : XT} {D : va_G} {cI : ClassId} {ad : Nat → Nat} {F : Nat} {σ : St} {a0 : Int32} {a1 : Int32} {a2 : Int32} {r : Int32} (C : Cx X (gC D cI ad) cX6_rowOf 3 RX6 0 0 0) (hr : RetI X (gC D cI ad) cX6_rowOf 3 0 r σ) (h : fX6_rowOf F σ a0 a1 a2 = some r) : WP X (gC D cI ad) 3 0 0 σ [(0, .int a0), (1, .int a1), (2, .int a2)] [] := by
  unfold fX6_rowOf at h
  refine w_iload_n C dX6_rowOf_0 rfl 0 rfl ?_
  refine w_iconst C 2 dX6_rowOf_1 rfl (by decide) ?_
  refine w_imul C dX6_rowOf_2 rfl ?_
  refine w_iload_n C dX6_rowOf_3 rfl 1 rfl ?_
  refine w_iadd C dX6_rowOf_4 rfl ?_
  refine w_bipush C 8 dX6_rowOf_5 rfl (by decide) ?_
  refine w_imul C dX6_rowOf_7 rfl ?_
  refine w_iload_n C dX6_rowOf_8 rfl 2 rfl ?_
  refine w_iadd C dX6_rowOf_9 rfl ?_
  exact w_ri1 hr h (by decide) dX6_rowOf_10
theorem cfX6_rowOf (D : va_G) (cI : ClassId) (ad : Nat → Nat) {l : Launch} (had : gAp (gC D cI ad)) {F : Nat} {σ : St} {a0 : Int32} {a1 : Int32} {a2 : Int32} {r : Int32} (h : fX6_rowOf F σ a0 a1 a2 = some r) : MI l yX6_rowOf (wB yX6_rowOf cX6_rowOf 3 (some .int)) 0 0 (gC D cI ad) [.int a0, .int a1, .int a2] σ r σ := mk_MI had (by decide +kernel) (Nat.le_of_ble_eq_true rfl) (fun X hX C hr => wfX6_rowOf C hr h)

def fX8_joined (F : Nat) (σ : St) (a0 : Int32) (a1 : Int32) (a2 : Int32) : Option Int32 := if a0 = (-18) then (some (a1 * a2)) else if a0 = (-17) then (some (a1 - a2)) else if a0 = (-16) then (some (a1 + a2)) else if a0 = (-15) then (if a1 = a2 then (some 1) else some 0) else if a0 = (-14) then (if a2 ≤ a1 then (some 0) else some 1) else if a0 = (-13) then (if a1 = 0 then (some 0) else if a2 = 0 then (some 0) else some 1) else if a0 = (-12) then (if a1 = 0 then (if a2 = 0 then (some 0) else some 1) else some 1) else if a2 = 0 then (some 0) else ckZ (a2) (some (a1 / a2))
set_option maxRecDepth 20000 in
theorem wfX8_joined {X : XT} {D : va_G} {cI : ClassId} {ad : Nat → Nat} {F : Nat} {σ : St} {a0 : Int32} {a1 : Int32} {a2 : Int32} {r : Int32} (C : Cx X (gC D cI ad) cX8_joined 3 RX8 0 0 0) (hr : RetI X (gC D cI ad) cX8_joined 3 0 r σ) (h : fX8_joined F σ a0 a1 a2 = some r) : WP X (gC D cI ad) 3 0 0 σ [(0, .int a0), (1, .int a1), (2, .int a2)] [] := by
  unfold fX8_joined at h
  refine w_iload_n C dX8_joined_0 rfl 0 rfl ?_
  refine if_w h (fun e1 h => ?_) (fun e1 h => ?_)
  · refine w_tsIn (q := 102) C (-18) e1 dX8_joined_1 (by decide) (by decide) rfl (by decide) ?_
    refine w_iload_n C dX8_joined_102 rfl 1 rfl ?_
    refine w_iload_n C dX8_joined_103 rfl 2 rfl ?_
    refine w_imul C dX8_joined_104 rfl ?_
    exact w_ri1 hr h (by decide) dX8_joined_105
  refine if_w h (fun e2 h => ?_) (fun e2 h => ?_)
  · refine w_tsIn (q := 98) C (-17) e2 dX8_joined_1 (by decide) (by decide) rfl (by decide) ?_
    refine w_iload_n C dX8_joined_98 rfl 1 rfl ?_
    refine w_iload_n C dX8_joined_99 rfl 2 rfl ?_
    refine w_isub C dX8_joined_100 rfl ?_
    exact w_ri1 hr h (by decide) dX8_joined_101
  refine if_w h (fun e3 h => ?_) (fun e3 h => ?_)
  · refine w_tsIn (q := 94) C (-16) e3 dX8_joined_1 (by decide) (by decide) rfl (by decide) ?_
    refine w_iload_n C dX8_joined_94 rfl 1 rfl ?_
    refine w_iload_n C dX8_joined_95 rfl 2 rfl ?_
    refine w_iadd C dX8_joined_96 rfl ?_
    exact w_ri1 hr h (by decide) dX8_joined_97
  refine if_w h (fun e4 h => ?_) (fun e4 h => ?_)
  · refine w_tsIn (q := 83) C (-15) e4 dX8_joined_1 (by decide) (by decide) rfl (by decide) ?_
    refine w_iload_n C dX8_joined_83 rfl 1 rfl ?_
    refine w_iload_n C dX8_joined_84 rfl 2 rfl ?_
    refine w_icmp_ne C (qt := 92) dX8_joined_85 (by decide) rfl h (fun _ h => ?_) (fun _ h => ?_)
    · refine w_iconst C 0 dX8_joined_92 rfl (by decide) ?_
      exact w_ri1 hr h (by decide) dX8_joined_93
    · refine w_iconst C 1 dX8_joined_88 rfl (by decide) ?_
      refine w_goto (q := 93) C dX8_joined_89 (by decide) ?_
      exact w_ri1 hr h (by decide) dX8_joined_93
  refine if_w h (fun e5 h => ?_) (fun e5 h => ?_)
  · refine w_tsIn (q := 72) C (-14) e5 dX8_joined_1 (by decide) (by decide) rfl (by decide) ?_
    refine w_iload_n C dX8_joined_72 rfl 1 rfl ?_
    refine w_iload_n C dX8_joined_73 rfl 2 rfl ?_
    refine w_icmp_ge C (qt := 81) dX8_joined_74 (by decide) rfl h (fun _ h => ?_) (fun _ h => ?_)
    · refine w_iconst C 0 dX8_joined_81 rfl (by decide) ?_
      exact w_ri1 hr h (by decide) dX8_joined_82
    · refine w_iconst C 1 dX8_joined_77 rfl (by decide) ?_
      refine w_goto (q := 82) C dX8_joined_78 (by decide) ?_
      exact w_ri1 hr h (by decide) dX8_joined_82
  refine if_w h (fun e6 h => ?_) (fun e6 h => ?_)
  · refine w_tsIn (q := 58) C (-13) e6 dX8_joined_1 (by decide) (by decide) rfl (by decide) ?_
    refine w_iload_n C dX8_joined_58 rfl 1 rfl ?_
    refine w_if_eq C (qt := 70) dX8_joined_59 (by decide) rfl h (fun _ h => ?_) (fun _ h => ?_)
    · refine w_iconst C 0 dX8_joined_70 rfl (by decide) ?_
      exact w_ri1 hr h (by decide) dX8_joined_71
    · refine w_iload_n C dX8_joined_62 rfl 2 rfl ?_
      refine w_if_eq C (qt := 70) dX8_joined_63 (by decide) rfl h (fun _ h => ?_) (fun _ h => ?_)
      · refine w_iconst C 0 dX8_joined_70 rfl (by decide) ?_
        exact w_ri1 hr h (by decide) dX8_joined_71
      · refine w_iconst C 1 dX8_joined_66 rfl (by decide) ?_
        refine w_goto (q := 71) C dX8_joined_67 (by decide) ?_
        exact w_ri1 hr h (by decide) dX8_joined_71
  refine if_w h (fun e7 h => ?_) (fun e7 h => ?_)
  · refine w_tsIn (q := 44) C (-12) e7 dX8_joined_1 (by decide) (by decide) rfl (by decide) ?_
    refine w_iload_n C dX8_joined_44 rfl 1 rfl ?_
    refine w_if_ne C (qt := 52) dX8_joined_45 (by decide) rfl h (fun _ h => ?_) (fun _ h => ?_)
    · refine w_iconst C 1 dX8_joined_52 rfl (by decide) ?_
      refine w_goto (q := 57) C dX8_joined_53 (by decide) ?_
      exact w_ri1 hr h (by decide) dX8_joined_57
    · refine w_iload_n C dX8_joined_48 rfl 2 rfl ?_
      refine w_if_eq C (qt := 56) dX8_joined_49 (by decide) rfl h (fun _ h => ?_) (fun _ h => ?_)
      · refine w_iconst C 0 dX8_joined_56 rfl (by decide) ?_
        exact w_ri1 hr h (by decide) dX8_joined_57
      · refine w_iconst C 1 dX8_joined_52 rfl (by decide) ?_
        refine w_goto (q := 57) C dX8_joined_53 (by decide) ?_
        exact w_ri1 hr h (by decide) dX8_joined_57
  refine w_tsOut (q := 106) C dX8_joined_1 (ts_out (x := a0) (-18) 6 (by decide) (fun k hk => by
    have hk : k = 0 ∨ k = 1 ∨ k = 2 ∨ k = 3 ∨ k = 4 ∨ k = 5 ∨ k = 6 := by omega
    rcases hk with rfl | rfl | rfl | rfl | rfl | rfl | rfl
    · exact e1
    · exact e2
    · exact e3
    · exact e4
    · exact e5
    · exact e6
    · exact e7)) (by decide) ?_
  refine w_iload_n C dX8_joined_106 rfl 2 rfl ?_
  refine w_if_ne C (qt := 114) dX8_joined_107 (by decide) rfl h (fun _ h => ?_) (fun _ h => ?_)
  · refine w_iload_n C dX8_joined_114 rfl 1 rfl ?_
    refine w_iload_n C dX8_joined_115 rfl 2 rfl ?_
    obtain ⟨hz, h⟩ := ckZ_w h
    refine w_idiv C hz dX8_joined_116 rfl ?_
    exact w_ri1 hr h (by decide) dX8_joined_117
  · refine w_iconst C 0 dX8_joined_110 rfl (by decide) ?_
    refine w_goto (q := 117) C dX8_joined_111 (by decide) ?_
    exact w_ri1 hr h (by decide) dX8_joined_117
theorem cfX8_joined (D : va_G) (cI : ClassId) (ad : Nat → Nat) {l : Launch} (had : gAp (gC D cI ad)) {F : Nat} {σ : St} {a0 : Int32} {a1 : Int32} {a2 : Int32} {r : Int32} (h : fX8_joined F σ a0 a1 a2 = some r) : MI l yX8_joined (wB yX8_joined cX8_joined 3 (some .int)) 0 0 (gC D cI ad) [.int a0, .int a1, .int a2] σ r σ := mk_MI had (by decide +kernel) (Nat.le_of_ble_eq_true rfl) (fun X hX C hr => wfX8_joined C hr h)

def fX8_valueOf (F : Nat) (σ : St) (a1 : Int32) : Option Int32 := if (6 : Int32) ≤ a1 then (some 0) else ckI (a1) 6 (some (σ 82 (Int32.toNatClampNeg a1)))
set_option maxRecDepth 20000 in
theorem wfX8_valueOf {X : XT} {D : va_G} {cI : ClassId} {ad : Nat → Nat} {F : Nat} {σ : St} {a1 : Int32} {r : Int32} (C : Cx X (gC D cI ad) cX8_valueOf 2 RX8 0 0 0) (hr : RetI X (gC D cI ad) cX8_valueOf 2 0 r σ) (h : fX8_valueOf F σ a1 = some r) : WP X (gC D cI ad) 2 0 0 σ [(0, .ref (ad 82)), (1, .int a1)] [] := by
  unfold fX8_valueOf at h
  refine w_iload_n C dX8_valueOf_0 rfl 1 rfl ?_
  refine w_aload_n C dX8_valueOf_1 rfl 0 rfl ?_
  refine w_alen C 82 6 0 6 (Nat.le_of_ble_eq_true rfl) (fun _ => rfl) rfl (by decide) dX8_valueOf_2 rfl ?_
  refine w_icmp_ge C (qt := 12) dX8_valueOf_3 (by decide) rfl h (fun _ h => ?_) (fun _ h => ?_)
  · refine w_iconst C 0 dX8_valueOf_12 rfl (by decide) ?_
    exact w_ri1 hr h (by decide) dX8_valueOf_13
  · refine w_aload_n C dX8_valueOf_6 rfl 0 rfl ?_
    refine w_iload_n C dX8_valueOf_7 rfl 1 rfl ?_
    refine w_iald C 82 6 0 (Nat.le_of_ble_eq_true rfl) (fun _ => rfl) rfl h dX8_valueOf_8 rfl (fun h => ?_)
    refine w_goto (q := 13) C dX8_valueOf_9 (by decide) ?_
    exact w_ri1 hr h (by decide) dX8_valueOf_13
theorem cfX8_valueOf (D : va_G) (cI : ClassId) (ad : Nat → Nat) {l : Launch} (had : gAp (gC D cI ad)) {F : Nat} {σ : St} {a1 : Int32} {r : Int32} (h : fX8_valueOf F σ a1 = some r) : MI l yX8_valueOf (wB yX8_valueOf cX8_valueOf 2 (some .int)) 0 0 (gC D cI ad) [.ref (ad 82), .int a1] σ r σ := mk_MI had (by decide +kernel) (Nat.le_of_ble_eq_true rfl) (fun X hX C hr => wfX8_valueOf C hr h)

def fX8_worth (F : Nat) (σ : St) : Option (Int32 × St) := lp (fun (K2 : (St × Int32 × Int32) → Option (Int32 × St)) (v1 : St × Int32 × Int32) => if (v1.1 12 0) ≤ v1.2.1 then (if v1.2.2 = (1 : Int32) then (some (v1.1 14 0, v1.1)) else some (0, v1.1)) else ckI (v1.2.1) 700 (nm (v1.1 13 (Int32.toNatClampNeg v1.2.1)) fun x4 => if x4 ≤ (-11 : Int32) then (if x4 = (-11 : Int32) then (if (1 : Int32) ≤ v1.2.2 then (ckI (v1.2.2 - 1) 40 (if (v1.1 14 (Int32.toNatClampNeg (v1.2.2 - 1))) = 0 then (ckI (v1.2.2 - 1) 40 (nm (up v1.1 14 (Int32.toNatClampNeg (v1.2.2 - 1)) 1) fun u8 => K2 ((u8, v1.2.1 + 1, v1.2.2)))) else ckI (v1.2.2 - 1) 40 (nm (up v1.1 14 (Int32.toNatClampNeg (v1.2.2 - 1)) 0) fun u7 => K2 ((u7, v1.2.1 + 1, v1.2.2))))) else some (0, v1.1)) else if (2 : Int32) ≤ v1.2.2 then (ckI ((v1.2.2 + Int32.ofInt (-1)) - 1) 40 (ckI (v1.2.2 + Int32.ofInt (-1)) 40 (bd1 (fX8_joined F v1.1 x4 (v1.1 14 (Int32.toNatClampNeg ((v1.2.2 + Int32.ofInt (-1)) - 1))) (v1.1 14 (Int32.toNatClampNeg (v1.2.2 + Int32.ofInt (-1))))) fun r5 => ckI ((v1.2.2 + Int32.ofInt (-1)) - 1) 40 (nm (up v1.1 14 (Int32.toNatClampNeg ((v1.2.2 + Int32.ofInt (-1)) - 1)) r5) fun u6 => K2 ((u6, v1.2.1 + 1, v1.2.2 + Int32.ofInt (-1))))))) else some (0, v1.1)) else if v1.2.2 < (40 : Int32) then (if x4 < 0 then (bd1 (fX8_valueOf F v1.1 (((-1)) - x4)) fun r9 => ckI (v1.2.2) 40 (nm (up v1.1 14 (Int32.toNatClampNeg v1.2.2) r9) fun u10 => K2 ((u10, v1.2.1 + 1, v1.2.2 + 1)))) else ckI (v1.2.2) 40 (nm (up v1.1 14 (Int32.toNatClampNeg v1.2.2) x4) fun u11 => K2 ((u11, v1.2.1 + 1, v1.2.2 + 1)))) else some (0, v1.1))) F ((σ, 0, 0))
set_option maxRecDepth 20000 in
theorem wfX8_worth {X : XT} {D : va_G} {cI : ClassId} {ad : Nat → Nat} {F : Nat} {σ : St}  {r : Int32} {σ' : St} (C : Cx X (gC D cI ad) cX8_worth 5 RX8 1 22 0) (hr : RetI X (gC D cI ad) cX8_worth 5 0 r σ') (h : fX8_worth F σ = some (r, σ')) : WP X (gC D cI ad) 5 0 0 σ [(0, .ref (ad 12)), (1, .ref (ad 82))] [] := by
  unfold fX8_worth at h
  refine w_iconst C 0 dX8_worth_0 rfl (by decide) ?_
  refine w_istore_n C [(2, .int 0), (0, .ref (ad 12)), (1, .ref (ad 82))] dX8_worth_1 rfl (by decide) rfl ?_
  refine w_iconst C 0 dX8_worth_2 rfl (by decide) ?_
  refine w_istore_n C [(3, .int 0), (2, .int 0), (0, .ref (ad 12)), (1, .ref (ad 82))] dX8_worth_3 rfl (by decide) rfl ?_
  refine w_sub (lv' := [(3, .int 0), (2, .int 0), (0, .ref (ad 12)), (1, .ref (ad 82))]) [0, 1, 2, 3] rfl ?_
  refine lp_w (fun v1 : St × Int32 × Int32 => WP X (gC D cI ad) 5 0 4 v1.1 [(3, .int v1.2.1), (2, .int v1.2.2), (0, .ref (ad 12)), (1, .ref (ad 82))] []) (fun K2 hK3 v1 h => ?_) F _ h
  refine w_iload_n C dX8_worth_4 rfl 0 rfl ?_
  refine w_aload_n C dX8_worth_5 rfl 2 rfl ?_
  refine w_get C 12 0 (Nat.le_of_ble_eq_true rfl) rfl rfl inB_X8 (by decide) tw1_46 rfl dX8_worth_6 rfl ?_
  refine w_icmp_ge C (qt := 149) dX8_worth_9 (by decide) rfl h (fun _ h => ?_) (fun _ h => ?_)
  · refine w_iload_n C dX8_worth_149 rfl 1 rfl ?_
    refine w_iconst C 1 dX8_worth_150 rfl (by decide) ?_
    refine w_icmp_ne C (qt := 163) dX8_worth_151 (by decide) rfl h (fun _ h => ?_) (fun _ h => ?_)
    · refine w_iconst C 0 dX8_worth_163 rfl (by decide) ?_
      exact w_ri2 hr h (by decide) dX8_worth_164
    · refine w_aload_n C dX8_worth_154 rfl 2 rfl ?_
      refine w_get C 12 2 (Nat.le_of_ble_eq_true rfl) rfl rfl inB_X8 (by decide) tw1_49 rfl dX8_worth_155 rfl ?_
      refine w_iconst C 0 dX8_worth_158 rfl (by decide) ?_
      refine w_ialdc C 14 40 0 0 (Nat.le_of_ble_eq_true rfl) (fun _ => rfl) rfl (by decide) (by show ¬ (_ ∨ _); decide) dX8_worth_159 rfl ?_
      refine w_goto (q := 164) C dX8_worth_160 (by decide) ?_
      exact w_ri2 hr h (by decide) dX8_worth_164
  · refine w_aload_n C dX8_worth_12 rfl 2 rfl ?_
    refine w_get C 12 1 (Nat.le_of_ble_eq_true rfl) rfl rfl inB_X8 (by decide) tw1_48 rfl dX8_worth_13 rfl ?_
    refine w_iload_n C dX8_worth_16 rfl 0 rfl ?_
    refine w_iald C 13 700 0 (Nat.le_of_ble_eq_true rfl) (fun _ => rfl) rfl h dX8_worth_17 rfl (fun h => ?_)
    refine w_nm h (fun x4 h => ?_)
    refine w_istore C [(4, .int x4), (3, .int v1.2.1), (2, .int v1.2.2), (0, .ref (ad 12)), (1, .ref (ad 82))] dX8_worth_18 rfl (by decide) rfl ?_
    refine w_iload C dX8_worth_20 rfl 0 rfl ?_
    refine w_bipush C (-11) dX8_worth_22 rfl (by decide) ?_
    refine w_icmp_le C (qt := 65) dX8_worth_24 (by decide) rfl h (fun _ h => ?_) (fun _ h => ?_)
    · refine w_iload C dX8_worth_65 rfl 0 rfl ?_
      refine w_bipush C (-11) dX8_worth_67 rfl (by decide) ?_
      refine w_icmp_ne C (qt := 106) dX8_worth_69 (by decide) rfl h (fun _ h => ?_) (fun _ h => ?_)
      · refine w_iload_n C dX8_worth_106 rfl 2 rfl ?_
        refine w_iconst C 2 dX8_worth_107 rfl (by decide) ?_
        refine w_icmp_ge C (qt := 113) dX8_worth_108 (by decide) rfl h (fun _ h => ?_) (fun _ h => ?_)
        · refine w_iinc (j := 2) C (v1.2.2 + Int32.ofInt (-1)) [(2, .int (v1.2.2 + Int32.ofInt (-1))), (4, .int x4), (3, .int v1.2.1), (0, .ref (ad 12)), (1, .ref (ad 82))] dX8_worth_113 rfl rfl rfl (by decide) rfl ?_
          refine w_aload_n C dX8_worth_116 rfl 3 rfl ?_
          refine w_get C 12 2 (Nat.le_of_ble_eq_true rfl) rfl rfl inB_X8 (by decide) tw1_49 rfl dX8_worth_117 rfl ?_
          refine w_iload_n C dX8_worth_120 rfl 0 rfl ?_
          refine w_iconst C 1 dX8_worth_121 rfl (by decide) ?_
          refine w_isub C dX8_worth_122 rfl ?_
          refine w_iload C dX8_worth_123 rfl 1 rfl ?_
          refine w_aload_n C dX8_worth_125 rfl 3 rfl ?_
          refine w_get C 12 2 (Nat.le_of_ble_eq_true rfl) rfl rfl inB_X8 (by decide) tw1_49 rfl dX8_worth_126 rfl ?_
          refine w_iload_n C dX8_worth_129 rfl 0 rfl ?_
          refine w_iconst C 1 dX8_worth_130 rfl (by decide) ?_
          refine w_isub C dX8_worth_131 rfl ?_
          refine w_iald C 14 40 0 (Nat.le_of_ble_eq_true rfl) (fun _ => rfl) rfl h dX8_worth_132 rfl (fun h => ?_)
          refine w_aload_n C dX8_worth_133 rfl 3 rfl ?_
          refine w_get C 12 2 (Nat.le_of_ble_eq_true rfl) rfl rfl inB_X8 (by decide) tw1_49 rfl dX8_worth_134 rfl ?_
          refine w_iload_n C dX8_worth_137 rfl 0 rfl ?_
          refine w_iald C 14 40 0 (Nat.le_of_ble_eq_true rfl) (fun _ => rfl) rfl h dX8_worth_138 rfl (fun h => ?_)
          refine bd1_w h (fun r5 hc h => ?_)
          refine w_callSi C (n := 3) (As := [.int x4, .int (v1.1 14 (Int32.toNatClampNeg ((v1.2.2 + Int32.ofInt (-1)) - 1))), .int (v1.1 14 (Int32.toNatClampNeg (v1.2.2 + Int32.ofInt (-1))))]) (st := [.int ((v1.2.2 + Int32.ofInt (-1)) - 1), .ref (ad 14)]) (cfX8_joined D cI ad (l := X.2.1) C.2.2.1 hc) tw4_194 cs_X8_joined (by decide +kernel) ⟨Nat.le_of_ble_eq_true rfl, Nat.le_of_ble_eq_true rfl⟩ (by decide) rfl rfl (Nat.le_of_ble_eq_true rfl) dX8_worth_139 rfl ?_
          refine w_iast C 14 40 0 (Nat.le_of_ble_eq_true rfl) (fun _ => rfl) rfl h dX8_worth_142 rfl (fun h => ?_)
          refine w_nst h (fun u6 h => ?_)
          refine w_iinc (j := 2) C (v1.2.1 + 1) [(3, .int (v1.2.1 + 1)), (2, .int (v1.2.2 + Int32.ofInt (-1))), (4, .int x4), (0, .ref (ad 12)), (1, .ref (ad 82))] dX8_worth_143 rfl rfl rfl (by decide) rfl ?_
          refine w_goto (q := 4) C dX8_worth_146 (by decide) ?_
          exact w_sub (lv' := [(3, .int (v1.2.1 + 1)), (2, .int (v1.2.2 + Int32.ofInt (-1))), (0, .ref (ad 12)), (1, .ref (ad 82))]) [0, 1, 3, 4] rfl (hK3 ((u6, v1.2.1 + 1, v1.2.2 + Int32.ofInt (-1))) h)
        · refine w_iconst C 0 dX8_worth_111 rfl (by decide) ?_
          exact w_ri2 hr h (by decide) dX8_worth_112
      · refine w_iload_n C dX8_worth_72 rfl 2 rfl ?_
        refine w_iconst C 1 dX8_worth_73 rfl (by decide) ?_
        refine w_icmp_ge C (qt := 79) dX8_worth_74 (by decide) rfl h (fun _ h => ?_) (fun _ h => ?_)
        · refine w_aload_n C dX8_worth_79 rfl 3 rfl ?_
          refine w_get C 12 2 (Nat.le_of_ble_eq_true rfl) rfl rfl inB_X8 (by decide) tw1_49 rfl dX8_worth_80 rfl ?_
          refine w_iload_n C dX8_worth_83 rfl 2 rfl ?_
          refine w_iconst C 1 dX8_worth_84 rfl (by decide) ?_
          refine w_isub C dX8_worth_85 rfl ?_
          refine w_aload_n C dX8_worth_86 rfl 3 rfl ?_
          refine w_get C 12 2 (Nat.le_of_ble_eq_true rfl) rfl rfl inB_X8 (by decide) tw1_49 rfl dX8_worth_87 rfl ?_
          refine w_iload_n C dX8_worth_90 rfl 2 rfl ?_
          refine w_iconst C 1 dX8_worth_91 rfl (by decide) ?_
          refine w_isub C dX8_worth_92 rfl ?_
          refine w_iald C 14 40 0 (Nat.le_of_ble_eq_true rfl) (fun _ => rfl) rfl h dX8_worth_93 rfl (fun h => ?_)
          refine w_if_ne C (qt := 101) dX8_worth_94 (by decide) rfl h (fun _ h => ?_) (fun _ h => ?_)
          · refine w_iconst C 0 dX8_worth_101 rfl (by decide) ?_
            refine w_iast C 14 40 0 (Nat.le_of_ble_eq_true rfl) (fun _ => rfl) rfl h dX8_worth_102 rfl (fun h => ?_)
            refine w_nst h (fun u7 h => ?_)
            refine w_goto (q := 143) C dX8_worth_103 (by decide) ?_
            refine w_iinc (j := 1) C (v1.2.1 + 1) [(3, .int (v1.2.1 + 1)), (4, .int x4), (2, .int v1.2.2), (0, .ref (ad 12)), (1, .ref (ad 82))] dX8_worth_143 rfl rfl rfl (by decide) rfl ?_
            refine w_goto (q := 4) C dX8_worth_146 (by decide) ?_
            exact w_sub (lv' := [(3, .int (v1.2.1 + 1)), (2, .int v1.2.2), (0, .ref (ad 12)), (1, .ref (ad 82))]) [0, 2, 3, 4] rfl (hK3 ((u7, v1.2.1 + 1, v1.2.2)) h)
          · refine w_iconst C 1 dX8_worth_97 rfl (by decide) ?_
            refine w_goto (q := 102) C dX8_worth_98 (by decide) ?_
            refine w_iast C 14 40 0 (Nat.le_of_ble_eq_true rfl) (fun _ => rfl) rfl h dX8_worth_102 rfl (fun h => ?_)
            refine w_nst h (fun u8 h => ?_)
            refine w_goto (q := 143) C dX8_worth_103 (by decide) ?_
            refine w_iinc (j := 1) C (v1.2.1 + 1) [(3, .int (v1.2.1 + 1)), (4, .int x4), (2, .int v1.2.2), (0, .ref (ad 12)), (1, .ref (ad 82))] dX8_worth_143 rfl rfl rfl (by decide) rfl ?_
            refine w_goto (q := 4) C dX8_worth_146 (by decide) ?_
            exact w_sub (lv' := [(3, .int (v1.2.1 + 1)), (2, .int v1.2.2), (0, .ref (ad 12)), (1, .ref (ad 82))]) [0, 2, 3, 4] rfl (hK3 ((u8, v1.2.1 + 1, v1.2.2)) h)
        · refine w_iconst C 0 dX8_worth_77 rfl (by decide) ?_
          exact w_ri2 hr h (by decide) dX8_worth_78
    · refine w_iload_n C dX8_worth_27 rfl 2 rfl ?_
      refine w_bipush C 40 dX8_worth_28 rfl (by decide) ?_
      refine w_icmp_lt C (qt := 35) dX8_worth_30 (by decide) rfl h (fun _ h => ?_) (fun _ h => ?_)
      · refine w_aload_n C dX8_worth_35 rfl 3 rfl ?_
        refine w_get C 12 2 (Nat.le_of_ble_eq_true rfl) rfl rfl inB_X8 (by decide) tw1_49 rfl dX8_worth_36 rfl ?_
        refine w_iload_n C dX8_worth_39 rfl 2 rfl ?_
        refine w_iload C dX8_worth_40 rfl 0 rfl ?_
        refine w_if_lt C (qt := 50) dX8_worth_42 (by decide) rfl h (fun _ h => ?_) (fun _ h => ?_)
        · refine w_aload_n C dX8_worth_50 rfl 4 rfl ?_
          refine w_iconst C (-1) dX8_worth_51 rfl (by decide) ?_
          refine w_iload C dX8_worth_52 rfl 0 rfl ?_
          refine w_isub C dX8_worth_54 rfl ?_
          refine bd1_w h (fun r9 hc h => ?_)
          refine w_callSi C (n := 2) (As := [.ref (ad 82), .int (((-1)) - x4)]) (st := [.int v1.2.2, .ref (ad 14)]) (cfX8_valueOf D cI ad (l := X.2.1) C.2.2.1 hc) tw4_191 cs_X8_valueOf (by decide +kernel) ⟨Nat.le_of_ble_eq_true rfl, Nat.le_of_ble_eq_true rfl⟩ (by decide) rfl rfl (Nat.le_of_ble_eq_true rfl) dX8_worth_55 rfl ?_
          refine w_iast C 14 40 0 (Nat.le_of_ble_eq_true rfl) (fun _ => rfl) rfl h dX8_worth_58 rfl (fun h => ?_)
          refine w_nst h (fun u10 h => ?_)
          refine w_iinc (j := 2) C (v1.2.2 + 1) [(2, .int (v1.2.2 + 1)), (4, .int x4), (3, .int v1.2.1), (0, .ref (ad 12)), (1, .ref (ad 82))] dX8_worth_59 rfl rfl rfl (by decide) rfl ?_
          refine w_goto (q := 143) C dX8_worth_62 (by decide) ?_
          refine w_iinc (j := 2) C (v1.2.1 + 1) [(3, .int (v1.2.1 + 1)), (2, .int (v1.2.2 + 1)), (4, .int x4), (0, .ref (ad 12)), (1, .ref (ad 82))] dX8_worth_143 rfl rfl rfl (by decide) rfl ?_
          refine w_goto (q := 4) C dX8_worth_146 (by decide) ?_
          exact w_sub (lv' := [(3, .int (v1.2.1 + 1)), (2, .int (v1.2.2 + 1)), (0, .ref (ad 12)), (1, .ref (ad 82))]) [0, 1, 3, 4] rfl (hK3 ((u10, v1.2.1 + 1, v1.2.2 + 1)) h)
        · refine w_iload C dX8_worth_45 rfl 0 rfl ?_
          refine w_goto (q := 58) C dX8_worth_47 (by decide) ?_
          refine w_iast C 14 40 0 (Nat.le_of_ble_eq_true rfl) (fun _ => rfl) rfl h dX8_worth_58 rfl (fun h => ?_)
          refine w_nst h (fun u11 h => ?_)
          refine w_iinc (j := 2) C (v1.2.2 + 1) [(2, .int (v1.2.2 + 1)), (4, .int x4), (3, .int v1.2.1), (0, .ref (ad 12)), (1, .ref (ad 82))] dX8_worth_59 rfl rfl rfl (by decide) rfl ?_
          refine w_goto (q := 143) C dX8_worth_62 (by decide) ?_
          refine w_iinc (j := 2) C (v1.2.1 + 1) [(3, .int (v1.2.1 + 1)), (2, .int (v1.2.2 + 1)), (4, .int x4), (0, .ref (ad 12)), (1, .ref (ad 82))] dX8_worth_143 rfl rfl rfl (by decide) rfl ?_
          refine w_goto (q := 4) C dX8_worth_146 (by decide) ?_
          exact w_sub (lv' := [(3, .int (v1.2.1 + 1)), (2, .int (v1.2.2 + 1)), (0, .ref (ad 12)), (1, .ref (ad 82))]) [0, 1, 3, 4] rfl (hK3 ((u11, v1.2.1 + 1, v1.2.2 + 1)) h)
      · refine w_iconst C 0 dX8_worth_33 rfl (by decide) ?_
        exact w_ri2 hr h (by decide) dX8_worth_34
theorem cfX8_worth (D : va_G) (cI : ClassId) (ad : Nat → Nat) {l : Launch} (had : gAp (gC D cI ad)) {F : Nat} {σ : St}  {r : Int32} {σ' : St} (h : fX8_worth F σ = some (r, σ')) : MI l yX8_worth (wB yX8_worth cX8_worth 5 (some .int)) 1 22 (gC D cI ad) [.ref (ad 12), .ref (ad 82)] σ r σ' := mk_MI had (by decide +kernel) (Nat.le_of_ble_eq_true rfl) (fun X hX C hr => wfX8_worth C hr h)

def fX6_limitOf (F : Nat) (σ : St) (a0 : Int32) (a1 : Int32) (a2 : Int32) (a3 : Int32) : Option (Int32 × St) := bd1 (fX10_placeOf F σ a0 a1) fun r1 => if (σ 2 4) = 0 then (ckI (r1) 80 (some ((σ 33 (Int32.toNatClampNeg r1)) * a3, σ))) else ckI (r1) 80 (nm (up σ 82 0 (σ 33 (Int32.toNatClampNeg r1))) fun u2 => ckI (r1) 80 (nm (up u2 82 1 (u2 11 (Int32.toNatClampNeg r1))) fun u3 => nm (up u3 82 2 a3) fun u4 => ckI (r1) 80 (jn (fun v5 : Int32 => nm (up u4 82 3 v5) fun u8 => nm (up u8 82 4 a1) fun u9 => jn (fun v10 : Int32 => nm (up u9 82 5 v10) fun u13 => bd2 (fX8_worth F u13) fun r14 u15 => some (if 0 < (if r14 < 99 then r14 else 99) then (if r14 < 99 then r14 else 99) else 0, u15)) fun J11 => if a2 = 0 then (J11 1) else J11 0) fun J6 => if (u4 8 (Int32.toNatClampNeg r1)) = (2 : Int32) then (J6 1) else J6 0)))
set_option maxRecDepth 20000 in
theorem wfX6_limitOf {X : XT} {D : va_G} {cI : ClassId} {ad : Nat → Nat} {F : Nat} {σ : St} {a0 : Int32} {a1 : Int32} {a2 : Int32} {a3 : Int32} {r : Int32} {σ' : St} (C : Cx X (gC D cI ad) cX6_limitOf 6 RX6 2 46 0) (hr : RetI X (gC D cI ad) cX6_limitOf 6 0 r σ') (h : fX6_limitOf F σ a0 a1 a2 a3 = some (r, σ')) : WP X (gC D cI ad) 6 0 0 σ [(0, .ref (ad 81)), (1, .int a0), (2, .int a1), (3, .int a2), (4, .int a3)] [] := by
  unfold fX6_limitOf at h
  refine w_iload_n C dX6_limitOf_0 rfl 1 rfl ?_
  refine w_iload_n C dX6_limitOf_1 rfl 2 rfl ?_
  refine bd1_w h (fun r1 hc h => ?_)
  refine w_callNi C (n := 2) (As := [.int a0, .int a1]) (st := []) (host := RX10) (cfX10_placeOf D cI ad (l := X.2.1) C.2.2.1 hc) (by decide +kernel) cs_X10_placeOf (by decide +kernel) ⟨Nat.le_of_ble_eq_true rfl, Nat.le_of_ble_eq_true rfl⟩ (by decide) rfl rfl (Nat.le_of_ble_eq_true rfl) dX6_limitOf_2 rfl ?_
  refine w_istore C [(5, .int r1), (0, .ref (ad 81)), (1, .int a0), (2, .int a1), (3, .int a2), (4, .int a3)] dX6_limitOf_5 rfl (by decide) rfl ?_
  refine w_aload_n C dX6_limitOf_7 rfl 1 rfl ?_
  refine w_get C 81 0 (Nat.le_of_ble_eq_true rfl) rfl rfl inB_X6 (by decide) tw2_101 rfl dX6_limitOf_8 rfl ?_
  refine w_get C 2 4 (Nat.le_of_ble_eq_true rfl) rfl rfl inB_X0 (by decide) tw1_78 rfl dX6_limitOf_11 rfl ?_
  refine w_if_ne C (qt := 31) dX6_limitOf_14 (by decide) rfl h (fun _ h => ?_) (fun _ h => ?_)
  · refine w_aload_n C dX6_limitOf_31 rfl 1 rfl ?_
    refine w_get C 81 2 (Nat.le_of_ble_eq_true rfl) rfl rfl inB_X6 (by decide) tw2_103 rfl dX6_limitOf_32 rfl ?_
    refine w_iconst C 0 dX6_limitOf_35 rfl (by decide) ?_
    refine w_aload_n C dX6_limitOf_36 rfl 1 rfl ?_
    refine w_get C 81 1 (Nat.le_of_ble_eq_true rfl) rfl rfl inB_X6 (by decide) tw2_102 rfl dX6_limitOf_37 rfl ?_
    refine w_get C 30 5 (Nat.le_of_ble_eq_true rfl) rfl rfl inB_X9 (by decide) tw1_205 rfl dX6_limitOf_40 rfl ?_
    refine w_iload C dX6_limitOf_43 rfl 0 rfl ?_
    refine w_iald C 33 80 0 (Nat.le_of_ble_eq_true rfl) (fun _ => rfl) rfl h dX6_limitOf_45 rfl (fun h => ?_)
    refine w_iastc C 82 6 0 0 (Nat.le_of_ble_eq_true rfl) (fun _ => rfl) rfl (by decide) (by show ¬ (_ ∨ _); decide) dX6_limitOf_46 rfl ?_
    refine w_nst h (fun u2 h => ?_)
    refine w_aload_n C dX6_limitOf_47 rfl 1 rfl ?_
    refine w_get C 81 2 (Nat.le_of_ble_eq_true rfl) rfl rfl inB_X6 (by decide) tw2_103 rfl dX6_limitOf_48 rfl ?_
    refine w_iconst C 1 dX6_limitOf_51 rfl (by decide) ?_
    refine w_aload_n C dX6_limitOf_52 rfl 1 rfl ?_
    refine w_get C 81 0 (Nat.le_of_ble_eq_true rfl) rfl rfl inB_X6 (by decide) tw2_101 rfl dX6_limitOf_53 rfl ?_
    refine w_get C 2 13 (Nat.le_of_ble_eq_true rfl) rfl rfl inB_X0 (by decide) tw1_113 rfl dX6_limitOf_56 rfl ?_
    refine w_iload C dX6_limitOf_59 rfl 0 rfl ?_
    refine w_iald C 11 80 0 (Nat.le_of_ble_eq_true rfl) (fun _ => rfl) rfl h dX6_limitOf_61 rfl (fun h => ?_)
    refine w_iastc C 82 6 0 1 (Nat.le_of_ble_eq_true rfl) (fun _ => rfl) rfl (by decide) (by show ¬ (_ ∨ _); decide) dX6_limitOf_62 rfl ?_
    refine w_nst h (fun u3 h => ?_)
    refine w_aload_n C dX6_limitOf_63 rfl 1 rfl ?_
    refine w_get C 81 2 (Nat.le_of_ble_eq_true rfl) rfl rfl inB_X6 (by decide) tw2_103 rfl dX6_limitOf_64 rfl ?_
    refine w_iconst C 2 dX6_limitOf_67 rfl (by decide) ?_
    refine w_iload C dX6_limitOf_68 rfl 5 rfl ?_
    refine w_iastc C 82 6 0 2 (Nat.le_of_ble_eq_true rfl) (fun _ => rfl) rfl (by decide) (by show ¬ (_ ∨ _); decide) dX6_limitOf_70 rfl ?_
    refine w_nst h (fun u4 h => ?_)
    refine w_aload_n C dX6_limitOf_71 rfl 1 rfl ?_
    refine w_get C 81 2 (Nat.le_of_ble_eq_true rfl) rfl rfl inB_X6 (by decide) tw2_103 rfl dX6_limitOf_72 rfl ?_
    refine w_iconst C 3 dX6_limitOf_75 rfl (by decide) ?_
    refine w_aload_n C dX6_limitOf_76 rfl 1 rfl ?_
    refine w_get C 81 0 (Nat.le_of_ble_eq_true rfl) rfl rfl inB_X6 (by decide) tw2_101 rfl dX6_limitOf_77 rfl ?_
    refine w_get C 2 10 (Nat.le_of_ble_eq_true rfl) rfl rfl inB_X0 (by decide) tw1_102 rfl dX6_limitOf_80 rfl ?_
    refine w_iload C dX6_limitOf_83 rfl 0 rfl ?_
    refine w_iald C 8 80 0 (Nat.le_of_ble_eq_true rfl) (fun _ => rfl) rfl h dX6_limitOf_85 rfl (fun h => ?_)
    refine w_iconst C 2 dX6_limitOf_86 rfl (by decide) ?_
    refine jn_w (fun v5 : Int32 => WP X (gC D cI ad) 6 0 95 u4 [(0, .ref (ad 81)), (2, .int a1), (3, .int a2)] [.int v5, .int 3, .ref (ad 82)]) h (fun v5 h => ?_) (fun J6 hJ7 h => ?_)
    · refine w_iastc C 82 6 0 3 (Nat.le_of_ble_eq_true rfl) (fun _ => rfl) rfl (by decide) (by show ¬ (_ ∨ _); decide) dX6_limitOf_95 rfl ?_
      refine w_nst h (fun u8 h => ?_)
      refine w_aload_n C dX6_limitOf_96 rfl 0 rfl ?_
      refine w_get C 81 2 (Nat.le_of_ble_eq_true rfl) rfl rfl inB_X6 (by decide) tw2_103 rfl dX6_limitOf_97 rfl ?_
      refine w_iconst C 4 dX6_limitOf_100 rfl (by decide) ?_
      refine w_iload_n C dX6_limitOf_101 rfl 1 rfl ?_
      refine w_iastc C 82 6 0 4 (Nat.le_of_ble_eq_true rfl) (fun _ => rfl) rfl (by decide) (by show ¬ (_ ∨ _); decide) dX6_limitOf_102 rfl ?_
      refine w_nst h (fun u9 h => ?_)
      refine w_aload_n C dX6_limitOf_103 rfl 0 rfl ?_
      refine w_get C 81 2 (Nat.le_of_ble_eq_true rfl) rfl rfl inB_X6 (by decide) tw2_103 rfl dX6_limitOf_104 rfl ?_
      refine w_iconst C 5 dX6_limitOf_107 rfl (by decide) ?_
      refine w_iload_n C dX6_limitOf_108 rfl 2 rfl ?_
      refine jn_w (fun v10 : Int32 => WP X (gC D cI ad) 6 0 117 u9 [(0, .ref (ad 81))] [.int v10, .int 5, .ref (ad 82)]) h (fun v10 h => ?_) (fun J11 hJ12 h => ?_)
      · refine w_iastc C 82 6 0 5 (Nat.le_of_ble_eq_true rfl) (fun _ => rfl) rfl (by decide) (by show ¬ (_ ∨ _); decide) dX6_limitOf_117 rfl ?_
        refine w_nst h (fun u13 h => ?_)
        refine w_iconst C 0 dX6_limitOf_118 rfl (by decide) ?_
        refine w_bipush C 99 dX6_limitOf_119 rfl (by decide) ?_
        refine w_aload_n C dX6_limitOf_121 rfl 0 rfl ?_
        refine w_get C 81 0 (Nat.le_of_ble_eq_true rfl) rfl rfl inB_X6 (by decide) tw2_101 rfl dX6_limitOf_122 rfl ?_
        refine w_get C 2 14 (Nat.le_of_ble_eq_true rfl) rfl rfl inB_X0 (by decide) tw1_117 rfl dX6_limitOf_125 rfl ?_
        refine w_aload_n C dX6_limitOf_128 rfl 0 rfl ?_
        refine w_get C 81 2 (Nat.le_of_ble_eq_true rfl) rfl rfl inB_X6 (by decide) tw2_103 rfl dX6_limitOf_129 rfl ?_
        refine bd2_w h (fun r14 u15 hc h => ?_)
        refine w_callVi C (n := 1) (As := [.ref (ad 82)]) (st := [.int 99, .int 0]) 12 (Nat.le_of_ble_eq_true rfl) rfl rfl (cfX8_worth D cI ad (l := X.2.1) C.2.2.1 hc) tw4_187 cy_X8_worth (by decide +kernel) ⟨Nat.le_of_ble_eq_true rfl, Nat.le_of_ble_eq_true rfl⟩ (by decide) rfl rfl (Nat.le_of_ble_eq_true rfl) dX6_limitOf_132 rfl ?_
        refine w_mmin C (all4 tw4_197 tw3_112 tw1_17 tw3_113) ⟨Nat.le_of_ble_eq_true rfl, Nat.le_of_ble_eq_true rfl⟩ (by decide) dX6_limitOf_135 rfl ?_
        refine w_mmax C (all4 tw4_198 tw4_199 tw1_17 tw4_200) ⟨Nat.le_of_ble_eq_true rfl, Nat.le_of_ble_eq_true rfl⟩ (by decide) dX6_limitOf_138 rfl ?_
        exact w_ri2 hr h (by decide) dX6_limitOf_141
      · refine w_if_ne C (qt := 116) dX6_limitOf_109 (by decide) rfl h (fun _ h => ?_) (fun _ h => ?_)
        · refine w_iconst C 0 dX6_limitOf_116 rfl (by decide) ?_
          exact w_sub (lv' := [(0, .ref (ad 81))]) [0] rfl (hJ12 0 h)
        · refine w_iconst C 1 dX6_limitOf_112 rfl (by decide) ?_
          refine w_goto (q := 117) C dX6_limitOf_113 (by decide) ?_
          exact w_sub (lv' := [(0, .ref (ad 81))]) [0] rfl (hJ12 1 h)
    · refine w_icmp_ne C (qt := 94) dX6_limitOf_87 (by decide) rfl h (fun _ h => ?_) (fun _ h => ?_)
      · refine w_iconst C 0 dX6_limitOf_94 rfl (by decide) ?_
        exact w_sub (lv' := [(0, .ref (ad 81)), (2, .int a1), (3, .int a2)]) [1, 3, 4] rfl (hJ7 0 h)
      · refine w_iconst C 1 dX6_limitOf_90 rfl (by decide) ?_
        refine w_goto (q := 95) C dX6_limitOf_91 (by decide) ?_
        exact w_sub (lv' := [(0, .ref (ad 81)), (2, .int a1), (3, .int a2)]) [1, 3, 4] rfl (hJ7 1 h)
  · refine w_aload_n C dX6_limitOf_17 rfl 1 rfl ?_
    refine w_get C 81 1 (Nat.le_of_ble_eq_true rfl) rfl rfl inB_X6 (by decide) tw2_102 rfl dX6_limitOf_18 rfl ?_
    refine w_get C 30 5 (Nat.le_of_ble_eq_true rfl) rfl rfl inB_X9 (by decide) tw1_205 rfl dX6_limitOf_21 rfl ?_
    refine w_iload C dX6_limitOf_24 rfl 0 rfl ?_
    refine w_iald C 33 80 0 (Nat.le_of_ble_eq_true rfl) (fun _ => rfl) rfl h dX6_limitOf_26 rfl (fun h => ?_)
    refine w_iload C dX6_limitOf_27 rfl 5 rfl ?_
    refine w_imul C dX6_limitOf_29 rfl ?_
    exact w_ri2 hr h (by decide) dX6_limitOf_30
theorem cfX6_limitOf (D : va_G) (cI : ClassId) (ad : Nat → Nat) {l : Launch} (had : gAp (gC D cI ad)) {F : Nat} {σ : St} {a0 : Int32} {a1 : Int32} {a2 : Int32} {a3 : Int32} {r : Int32} {σ' : St} (h : fX6_limitOf F σ a0 a1 a2 a3 = some (r, σ')) : MI l yX6_limitOf (wB yX6_limitOf cX6_limitOf 6 (some .int)) 2 46 (gC D cI ad) [.ref (ad 81), .int a0, .int a1, .int a2, .int a3] σ r σ' := mk_MI had (by decide +kernel) (Nat.le_of_ble_eq_true rfl) (fun X hX C hr => wfX6_limitOf C hr h)

def fX6_weigh (F : Nat) (σ : St) (a0 : Int32) (a1 : Int32) : Option St := lp (fun (K2 : (St × Int32) → Option St) (v1 : St × Int32) => ckI (a0) 8 (if (v1.1 7 (Int32.toNatClampNeg a0)) ≤ v1.2 then (some v1.1) else bd1 (fX6_isBoundBy F v1.1 a0 v1.2 a1) fun r4 => if r4 = 0 then (K2 ((v1.1, v1.2 + 1))) else bd1 (fX10_placeOf F v1.1 a0 v1.2) fun r5 => ckI (r5) 80 (bd1 (fX6_rowOf F v1.1 a0 a1 (v1.1 11 (Int32.toNatClampNeg r5))) fun r6 => ckI (a0) 8 (bd2 (fX6_limitOf F v1.1 a0 v1.2 a1 (v1.1 6 (Int32.toNatClampNeg a0))) fun r7 u8 => ckI (r6) 128 (if (u8 83 (Int32.toNatClampNeg r6)) = (-1 : Int32) then (ckI (r6) 128 (nm (up u8 83 (Int32.toNatClampNeg r6) r7) fun u9 => K2 ((u9, v1.2 + 1)))) else ckI (r6) 128 (if (u8 83 (Int32.toNatClampNeg r6)) ≤ r7 then (K2 ((u8, v1.2 + 1))) else ckI (r6) 128 (nm (up u8 83 (Int32.toNatClampNeg r6) r7) fun u10 => K2 ((u10, v1.2 + 1))))))))) F ((σ, 0))
set_option maxRecDepth 20000 in
theorem wfX6_weigh {X : XT} {D : va_G} {cI : ClassId} {ad : Nat → Nat} {F : Nat} {σ : St} {a0 : Int32} {a1 : Int32} {σ' : St} (C : Cx X (gC D cI ad) cX6_weigh 6 RX6 4 93 0) (hr : RetV X (gC D cI ad) cX6_weigh 6 0 σ') (h : fX6_weigh F σ a0 a1 = some σ') : WP X (gC D cI ad) 6 0 0 σ [(0, .ref (ad 81)), (1, .int a0), (2, .int a1)] [] := by
  unfold fX6_weigh at h
  refine w_iconst C 0 dX6_weigh_0 rfl (by decide) ?_
  refine w_istore_n C [(3, .int 0), (0, .ref (ad 81)), (1, .int a0), (2, .int a1)] dX6_weigh_1 rfl (by decide) rfl ?_
  refine w_sub (lv' := [(3, .int 0), (0, .ref (ad 81)), (1, .int a0), (2, .int a1)]) [0, 1, 2, 3] rfl ?_
  refine lp_w (fun v1 : St × Int32 => WP X (gC D cI ad) 6 0 2 v1.1 [(3, .int v1.2), (0, .ref (ad 81)), (1, .int a0), (2, .int a1)] []) (fun K2 hK3 v1 h => ?_) F _ h
  refine w_iload_n C dX6_weigh_2 rfl 0 rfl ?_
  refine w_aload_n C dX6_weigh_3 rfl 1 rfl ?_
  refine w_get C 81 0 (Nat.le_of_ble_eq_true rfl) rfl rfl inB_X6 (by decide) tw2_101 rfl dX6_weigh_4 rfl ?_
  refine w_get C 2 9 (Nat.le_of_ble_eq_true rfl) rfl rfl inB_X0 (by decide) tw1_97 rfl dX6_weigh_7 rfl ?_
  refine w_iload_n C dX6_weigh_10 rfl 2 rfl ?_
  refine w_iald C 7 8 0 (Nat.le_of_ble_eq_true rfl) (fun _ => rfl) rfl h dX6_weigh_11 rfl (fun h => ?_)
  refine w_icmp_ge C (qt := 101) dX6_weigh_12 (by decide) rfl h (fun _ h => ?_) (fun _ h => ?_)
  · exact w_rv hr h (by decide) dX6_weigh_101
  · refine w_aload_n C dX6_weigh_15 rfl 1 rfl ?_
    refine w_iload_n C dX6_weigh_16 rfl 2 rfl ?_
    refine w_iload_n C dX6_weigh_17 rfl 0 rfl ?_
    refine w_iload_n C dX6_weigh_18 rfl 3 rfl ?_
    refine bd1_w h (fun r4 hc h => ?_)
    refine w_callVi C (n := 3) (As := [.int a0, .int v1.2, .int a1]) (st := []) 81 (Nat.le_of_ble_eq_true rfl) rfl rfl (cfX6_isBoundBy D cI ad (l := X.2.1) C.2.2.1 hc) tw4_158 cy_X6_isBoundBy (by decide +kernel) ⟨Nat.le_of_ble_eq_true rfl, Nat.le_of_ble_eq_true rfl⟩ (by decide) rfl rfl (Nat.le_of_ble_eq_true rfl) dX6_weigh_19 rfl ?_
    refine w_if_eq C (qt := 95) dX6_weigh_22 (by decide) rfl h (fun _ h => ?_) (fun _ h => ?_)
    · refine w_iinc (j := 0) C (v1.2 + 1) [(3, .int (v1.2 + 1)), (0, .ref (ad 81)), (1, .int a0), (2, .int a1)] dX6_weigh_95 rfl rfl rfl (by decide) rfl ?_
      refine w_goto (q := 2) C dX6_weigh_98 (by decide) ?_
      exact w_sub (lv' := [(3, .int (v1.2 + 1)), (0, .ref (ad 81)), (1, .int a0), (2, .int a1)]) [0, 1, 2, 3] rfl (hK3 ((v1.1, v1.2 + 1)) h)
    · refine w_iload_n C dX6_weigh_25 rfl 2 rfl ?_
      refine w_iload_n C dX6_weigh_26 rfl 3 rfl ?_
      refine w_aload_n C dX6_weigh_27 rfl 1 rfl ?_
      refine w_get C 81 0 (Nat.le_of_ble_eq_true rfl) rfl rfl inB_X6 (by decide) tw2_101 rfl dX6_weigh_28 rfl ?_
      refine w_get C 2 13 (Nat.le_of_ble_eq_true rfl) rfl rfl inB_X0 (by decide) tw1_113 rfl dX6_weigh_31 rfl ?_
      refine w_iload_n C dX6_weigh_34 rfl 2 rfl ?_
      refine w_iload_n C dX6_weigh_35 rfl 0 rfl ?_
      refine bd1_w h (fun r5 hc h => ?_)
      refine w_callNi C (n := 2) (As := [.int a0, .int v1.2]) (st := [.ref (ad 11), .int a1, .int a0]) (host := RX10) (cfX10_placeOf D cI ad (l := X.2.1) C.2.2.1 hc) (by decide +kernel) cs_X10_placeOf (by decide +kernel) ⟨Nat.le_of_ble_eq_true rfl, Nat.le_of_ble_eq_true rfl⟩ (by decide) rfl rfl (Nat.le_of_ble_eq_true rfl) dX6_weigh_36 rfl ?_
      refine w_iald C 11 80 0 (Nat.le_of_ble_eq_true rfl) (fun _ => rfl) rfl h dX6_weigh_39 rfl (fun h => ?_)
      refine bd1_w h (fun r6 hc h => ?_)
      refine w_callSi C (n := 3) (As := [.int a0, .int a1, .int (v1.1 11 (Int32.toNatClampNeg r5))]) (st := []) (cfX6_rowOf D cI ad (l := X.2.1) C.2.2.1 hc) tw4_180 cs_X6_rowOf (by decide +kernel) ⟨Nat.le_of_ble_eq_true rfl, Nat.le_of_ble_eq_true rfl⟩ (by decide) rfl rfl (Nat.le_of_ble_eq_true rfl) dX6_weigh_40 rfl ?_
      refine w_istore C [(4, .int r6), (3, .int v1.2), (0, .ref (ad 81)), (1, .int a0), (2, .int a1)] dX6_weigh_43 rfl (by decide) rfl ?_
      refine w_aload_n C dX6_weigh_45 rfl 2 rfl ?_
      refine w_iload_n C dX6_weigh_46 rfl 3 rfl ?_
      refine w_iload_n C dX6_weigh_47 rfl 1 rfl ?_
      refine w_iload_n C dX6_weigh_48 rfl 4 rfl ?_
      refine w_aload_n C dX6_weigh_49 rfl 2 rfl ?_
      refine w_get C 81 0 (Nat.le_of_ble_eq_true rfl) rfl rfl inB_X6 (by decide) tw2_101 rfl dX6_weigh_50 rfl ?_
      refine w_get C 2 8 (Nat.le_of_ble_eq_true rfl) rfl rfl inB_X0 (by decide) tw1_91 rfl dX6_weigh_53 rfl ?_
      refine w_iload_n C dX6_weigh_56 rfl 3 rfl ?_
      refine w_iald C 6 8 0 (Nat.le_of_ble_eq_true rfl) (fun _ => rfl) rfl h dX6_weigh_57 rfl (fun h => ?_)
      refine bd2_w h (fun r7 u8 hc h => ?_)
      refine w_callVi C (n := 4) (As := [.int a0, .int v1.2, .int a1, .int (v1.1 6 (Int32.toNatClampNeg a0))]) (st := []) 81 (Nat.le_of_ble_eq_true rfl) rfl rfl (cfX6_limitOf D cI ad (l := X.2.1) C.2.2.1 hc) tw4_183 cy_X6_limitOf (by decide +kernel) ⟨Nat.le_of_ble_eq_true rfl, Nat.le_of_ble_eq_true rfl⟩ (by decide) rfl rfl (Nat.le_of_ble_eq_true rfl) dX6_weigh_58 rfl ?_
      refine w_istore C [(5, .int r7), (4, .int r6), (3, .int v1.2), (0, .ref (ad 81)), (1, .int a0), (2, .int a1)] dX6_weigh_61 rfl (by decide) rfl ?_
      refine w_aload_n C dX6_weigh_63 rfl 3 rfl ?_
      refine w_get C 81 3 (Nat.le_of_ble_eq_true rfl) rfl rfl inB_X6 (by decide) tw2_104 rfl dX6_weigh_64 rfl ?_
      refine w_iload C dX6_weigh_67 rfl 1 rfl ?_
      refine w_iald C 83 128 0 (Nat.le_of_ble_eq_true rfl) (fun _ => rfl) rfl h dX6_weigh_69 rfl (fun h => ?_)
      refine w_iconst C (-1) dX6_weigh_70 rfl (by decide) ?_
      refine w_icmp_eq C (qt := 86) dX6_weigh_71 (by decide) rfl h (fun _ h => ?_) (fun _ h => ?_)
      · refine w_aload_n C dX6_weigh_86 rfl 3 rfl ?_
        refine w_get C 81 3 (Nat.le_of_ble_eq_true rfl) rfl rfl inB_X6 (by decide) tw2_104 rfl dX6_weigh_87 rfl ?_
        refine w_iload C dX6_weigh_90 rfl 1 rfl ?_
        refine w_iload C dX6_weigh_92 rfl 0 rfl ?_
        refine w_iast C 83 128 0 (Nat.le_of_ble_eq_true rfl) (fun _ => rfl) rfl h dX6_weigh_94 rfl (fun h => ?_)
        refine w_nst h (fun u9 h => ?_)
        refine w_iinc (j := 2) C (v1.2 + 1) [(3, .int (v1.2 + 1)), (5, .int r7), (4, .int r6), (0, .ref (ad 81)), (1, .int a0), (2, .int a1)] dX6_weigh_95 rfl rfl rfl (by decide) rfl ?_
        refine w_goto (q := 2) C dX6_weigh_98 (by decide) ?_
        exact w_sub (lv' := [(3, .int (v1.2 + 1)), (0, .ref (ad 81)), (1, .int a0), (2, .int a1)]) [0, 3, 4, 5] rfl (hK3 ((u9, v1.2 + 1)) h)
      · refine w_iload C dX6_weigh_74 rfl 0 rfl ?_
        refine w_aload_n C dX6_weigh_76 rfl 3 rfl ?_
        refine w_get C 81 3 (Nat.le_of_ble_eq_true rfl) rfl rfl inB_X6 (by decide) tw2_104 rfl dX6_weigh_77 rfl ?_
        refine w_iload C dX6_weigh_80 rfl 1 rfl ?_
        refine w_iald C 83 128 0 (Nat.le_of_ble_eq_true rfl) (fun _ => rfl) rfl h dX6_weigh_82 rfl (fun h => ?_)
        refine w_icmp_ge C (qt := 95) dX6_weigh_83 (by decide) rfl h (fun _ h => ?_) (fun _ h => ?_)
        · refine w_iinc (j := 2) C (v1.2 + 1) [(3, .int (v1.2 + 1)), (5, .int r7), (4, .int r6), (0, .ref (ad 81)), (1, .int a0), (2, .int a1)] dX6_weigh_95 rfl rfl rfl (by decide) rfl ?_
          refine w_goto (q := 2) C dX6_weigh_98 (by decide) ?_
          exact w_sub (lv' := [(3, .int (v1.2 + 1)), (0, .ref (ad 81)), (1, .int a0), (2, .int a1)]) [0, 3, 4, 5] rfl (hK3 ((u8, v1.2 + 1)) h)
        · refine w_aload_n C dX6_weigh_86 rfl 3 rfl ?_
          refine w_get C 81 3 (Nat.le_of_ble_eq_true rfl) rfl rfl inB_X6 (by decide) tw2_104 rfl dX6_weigh_87 rfl ?_
          refine w_iload C dX6_weigh_90 rfl 1 rfl ?_
          refine w_iload C dX6_weigh_92 rfl 0 rfl ?_
          refine w_iast C 83 128 0 (Nat.le_of_ble_eq_true rfl) (fun _ => rfl) rfl h dX6_weigh_94 rfl (fun h => ?_)
          refine w_nst h (fun u10 h => ?_)
          refine w_iinc (j := 2) C (v1.2 + 1) [(3, .int (v1.2 + 1)), (5, .int r7), (4, .int r6), (0, .ref (ad 81)), (1, .int a0), (2, .int a1)] dX6_weigh_95 rfl rfl rfl (by decide) rfl ?_
          refine w_goto (q := 2) C dX6_weigh_98 (by decide) ?_
          exact w_sub (lv' := [(3, .int (v1.2 + 1)), (0, .ref (ad 81)), (1, .int a0), (2, .int a1)]) [0, 3, 4, 5] rfl (hK3 ((u10, v1.2 + 1)) h)
theorem cfX6_weigh (D : va_G) (cI : ClassId) (ad : Nat → Nat) {l : Launch} (had : gAp (gC D cI ad)) {F : Nat} {σ : St} {a0 : Int32} {a1 : Int32} {σ' : St} (h : fX6_weigh F σ a0 a1 = some σ') : MV l yX6_weigh (wB yX6_weigh cX6_weigh 6 none) 4 93 (gC D cI ad) [.ref (ad 81), .int a0, .int a1] σ σ' := mk_MV had (by decide +kernel) (Nat.le_of_ble_eq_true rfl) (fun X hX C hr => wfX6_weigh C hr h)

def fX6_weighAll (F : Nat) (σ : St) (a0 : Int32) : Option St := bd1 (fJ7_fill_53178_4 F σ ((-1))) fun u1 => lp (fun (K3 : (St × Int32) → Option St) (v2 : St × Int32) => if (v2.1 2 1) ≤ v2.2 then (some v2.1) else if ((a0 >>> (v2.2 &&& 31)) &&& 1) = 0 then (K3 ((v2.1, v2.2 + 1))) else bd1 (fX6_weigh F v2.1 v2.2 0) fun u5 => bd1 (fX6_weigh F u5 v2.2 1) fun u6 => K3 ((u6, v2.2 + 1))) F ((u1, 0))
set_option maxRecDepth 20000 in
theorem wfX6_weighAll {X : XT} {D : va_G} {cI : ClassId} {ad : Nat → Nat} {F : Nat} {σ : St} {a0 : Int32} {σ' : St} (C : Cx X (gC D cI ad) cX6_weighAll 3 RX6 5 118 0) (hr : RetV X (gC D cI ad) cX6_weighAll 3 0 σ') (h : fX6_weighAll F σ a0 = some σ') : WP X (gC D cI ad) 3 0 0 σ [(0, .ref (ad 81)), (1, .int a0)] [] := by
  unfold fX6_weighAll at h
  refine w_aload_n C dX6_weighAll_0 rfl 0 rfl ?_
  refine w_get C 81 3 (Nat.le_of_ble_eq_true rfl) rfl rfl inB_X6 (by decide) tw2_104 rfl dX6_weighAll_1 rfl ?_
  refine w_iconst C (-1) dX6_weighAll_4 rfl (by decide) ?_
  refine bd1_w h (fun u1 hc h => ?_)
  refine w_callSv C (n := 2) (As := [.ref (ad 83), .int ((-1))]) (st := []) (cfJ7_fill_53178_4 D cI ad (l := X.2.1) C.2.2.1 hc) tw4_153 cs_J7_fill_53178 (by decide +kernel) ⟨Nat.le_of_ble_eq_true rfl, Nat.le_of_ble_eq_true rfl⟩ (by decide) rfl rfl (Nat.le_of_ble_eq_true rfl) dX6_weighAll_5 rfl ?_
  refine w_iconst C 0 dX6_weighAll_8 rfl (by decide) ?_
  refine w_istore_n C [(2, .int 0), (0, .ref (ad 81)), (1, .int a0)] dX6_weighAll_9 rfl (by decide) rfl ?_
  refine w_sub (lv' := [(2, .int 0), (0, .ref (ad 81)), (1, .int a0)]) [0, 1, 2] rfl ?_
  refine lp_w (fun v2 : St × Int32 => WP X (gC D cI ad) 3 0 10 v2.1 [(2, .int v2.2), (0, .ref (ad 81)), (1, .int a0)] []) (fun K3 hK4 v2 h => ?_) F _ h
  refine w_iload_n C dX6_weighAll_10 rfl 0 rfl ?_
  refine w_aload_n C dX6_weighAll_11 rfl 1 rfl ?_
  refine w_get C 81 0 (Nat.le_of_ble_eq_true rfl) rfl rfl inB_X6 (by decide) tw2_101 rfl dX6_weighAll_12 rfl ?_
  refine w_get C 2 1 (Nat.le_of_ble_eq_true rfl) rfl rfl inB_X0 (by decide) tw1_65 rfl dX6_weighAll_15 rfl ?_
  refine w_icmp_ge C (qt := 47) dX6_weighAll_18 (by decide) rfl h (fun _ h => ?_) (fun _ h => ?_)
  · exact w_rv hr h (by decide) dX6_weighAll_47
  · refine w_iload_n C dX6_weighAll_21 rfl 2 rfl ?_
    refine w_iload_n C dX6_weighAll_22 rfl 0 rfl ?_
    refine w_ishr C dX6_weighAll_23 rfl ?_
    refine w_iconst C 1 dX6_weighAll_24 rfl (by decide) ?_
    refine w_iand C dX6_weighAll_25 rfl ?_
    refine w_if_eq C (qt := 41) dX6_weighAll_26 (by decide) rfl h (fun _ h => ?_) (fun _ h => ?_)
    · refine w_iinc (j := 0) C (v2.2 + 1) [(2, .int (v2.2 + 1)), (0, .ref (ad 81)), (1, .int a0)] dX6_weighAll_41 rfl rfl rfl (by decide) rfl ?_
      refine w_goto (q := 10) C dX6_weighAll_44 (by decide) ?_
      exact w_sub (lv' := [(2, .int (v2.2 + 1)), (0, .ref (ad 81)), (1, .int a0)]) [0, 1, 2] rfl (hK4 ((v2.1, v2.2 + 1)) h)
    · refine w_aload_n C dX6_weighAll_29 rfl 1 rfl ?_
      refine w_iload_n C dX6_weighAll_30 rfl 0 rfl ?_
      refine w_iconst C 0 dX6_weighAll_31 rfl (by decide) ?_
      refine bd1_w h (fun u5 hc h => ?_)
      refine w_callVv C (n := 2) (As := [.int v2.2, .int 0]) (st := []) 81 (Nat.le_of_ble_eq_true rfl) rfl rfl (cfX6_weigh D cI ad (l := X.2.1) C.2.2.1 hc) tw4_154 cy_X6_weigh (by decide +kernel) ⟨Nat.le_of_ble_eq_true rfl, Nat.le_of_ble_eq_true rfl⟩ (by decide) rfl rfl (Nat.le_of_ble_eq_true rfl) dX6_weighAll_32 rfl ?_
      refine w_aload_n C dX6_weighAll_35 rfl 1 rfl ?_
      refine w_iload_n C dX6_weighAll_36 rfl 0 rfl ?_
      refine w_iconst C 1 dX6_weighAll_37 rfl (by decide) ?_
      refine bd1_w h (fun u6 hc h => ?_)
      refine w_callVv C (n := 2) (As := [.int v2.2, .int 1]) (st := []) 81 (Nat.le_of_ble_eq_true rfl) rfl rfl (cfX6_weigh D cI ad (l := X.2.1) C.2.2.1 hc) tw4_154 cy_X6_weigh (by decide +kernel) ⟨Nat.le_of_ble_eq_true rfl, Nat.le_of_ble_eq_true rfl⟩ (by decide) rfl rfl (Nat.le_of_ble_eq_true rfl) dX6_weighAll_38 rfl ?_
      refine w_iinc (j := 0) C (v2.2 + 1) [(2, .int (v2.2 + 1)), (0, .ref (ad 81)), (1, .int a0)] dX6_weighAll_41 rfl rfl rfl (by decide) rfl ?_
      refine w_goto (q := 10) C dX6_weighAll_44 (by decide) ?_
      exact w_sub (lv' := [(2, .int (v2.2 + 1)), (0, .ref (ad 81)), (1, .int a0)]) [0, 1, 2] rfl (hK4 ((u6, v2.2 + 1)) h)
theorem cfX6_weighAll (D : va_G) (cI : ClassId) (ad : Nat → Nat) {l : Launch} (had : gAp (gC D cI ad)) {F : Nat} {σ : St} {a0 : Int32} {σ' : St} (h : fX6_weighAll F σ a0 = some σ') : MV l yX6_weighAll (wB yX6_weighAll cX6_weighAll 3 none) 5 118 (gC D cI ad) [.ref (ad 81), .int a0] σ σ' := mk_MV had (by decide +kernel) (Nat.le_of_ble_eq_true rfl) (fun X hX C hr => wfX6_weighAll C hr h)

def fX6_sideOf (F : Nat) (σ : St) (a0 : Int32) (a1 : Int32) : Option Int32 := ckI (a0) 8 (if (σ 4 (Int32.toNatClampNeg a0)) = a1 then (some 0) else ckI (a0) 8 (if (σ 5 (Int32.toNatClampNeg a0)) = a1 then (some 1) else some ((-1))))
set_option maxRecDepth 20000 in
theorem wfX6_sideOf {X : XT} {D : va_G} {cI : ClassId} {ad : Nat → Nat} {F : Nat} {σ : St} {a0 : Int32} {a1 : Int32} {r : Int32} (C : Cx X (gC D cI ad) cX6_sideOf 3 RX6 0 0 0) (hr : RetI X (gC D cI ad) cX6_sideOf 3 0 r σ) (h : fX6_sideOf F σ a0 a1 = some r) : WP X (gC D cI ad) 3 0 0 σ [(0, .ref (ad 81)), (1, .int a0), (2, .int a1)] [] := by
  unfold fX6_sideOf at h
  refine w_aload_n C dX6_sideOf_0 rfl 0 rfl ?_
  refine w_get C 81 0 (Nat.le_of_ble_eq_true rfl) rfl rfl inB_X6 (by decide) tw2_101 rfl dX6_sideOf_1 rfl ?_
  refine w_get C 2 6 (Nat.le_of_ble_eq_true rfl) rfl rfl inB_X0 (by decide) tw1_85 rfl dX6_sideOf_4 rfl ?_
  refine w_iload_n C dX6_sideOf_7 rfl 1 rfl ?_
  refine w_iald C 4 8 0 (Nat.le_of_ble_eq_true rfl) (fun _ => rfl) rfl h dX6_sideOf_8 rfl (fun h => ?_)
  refine w_iload_n C dX6_sideOf_9 rfl 2 rfl ?_
  refine w_icmp_ne C (qt := 15) dX6_sideOf_10 (by decide) rfl h (fun _ h => ?_) (fun _ h => ?_)
  · refine w_aload_n C dX6_sideOf_15 rfl 0 rfl ?_
    refine w_get C 81 0 (Nat.le_of_ble_eq_true rfl) rfl rfl inB_X6 (by decide) tw2_101 rfl dX6_sideOf_16 rfl ?_
    refine w_get C 2 7 (Nat.le_of_ble_eq_true rfl) rfl rfl inB_X0 (by decide) tw1_89 rfl dX6_sideOf_19 rfl ?_
    refine w_iload_n C dX6_sideOf_22 rfl 1 rfl ?_
    refine w_iald C 5 8 0 (Nat.le_of_ble_eq_true rfl) (fun _ => rfl) rfl h dX6_sideOf_23 rfl (fun h => ?_)
    refine w_iload_n C dX6_sideOf_24 rfl 2 rfl ?_
    refine w_icmp_ne C (qt := 32) dX6_sideOf_25 (by decide) rfl h (fun _ h => ?_) (fun _ h => ?_)
    · refine w_iconst C (-1) dX6_sideOf_32 rfl (by decide) ?_
      exact w_ri1 hr h (by decide) dX6_sideOf_33
    · refine w_iconst C 1 dX6_sideOf_28 rfl (by decide) ?_
      refine w_goto (q := 33) C dX6_sideOf_29 (by decide) ?_
      exact w_ri1 hr h (by decide) dX6_sideOf_33
  · refine w_iconst C 0 dX6_sideOf_13 rfl (by decide) ?_
    exact w_ri1 hr h (by decide) dX6_sideOf_14
theorem cfX6_sideOf (D : va_G) (cI : ClassId) (ad : Nat → Nat) {l : Launch} (had : gAp (gC D cI ad)) {F : Nat} {σ : St} {a0 : Int32} {a1 : Int32} {r : Int32} (h : fX6_sideOf F σ a0 a1 = some r) : MI l yX6_sideOf (wB yX6_sideOf cX6_sideOf 3 (some .int)) 0 0 (gC D cI ad) [.ref (ad 81), .int a0, .int a1] σ r σ := mk_MI had (by decide +kernel) (Nat.le_of_ble_eq_true rfl) (fun X hX C hr => wfX6_sideOf C hr h)

def fX6_boundTo (F : Nat) (σ : St) (a0 : Int32) (a1 : Int32) : Option Int32 := lp (fun (K2 : (Int32 × Int32) → Option Int32) (v1 : Int32 × Int32) => if (σ 2 1) ≤ v1.1 then (some v1.2) else bd1 (fX6_sideOf F σ v1.1 a0) fun r4 => jn (fun v5 : Int32 => if v5 = (-1 : Int32) then (K2 ((v1.1 + 1, v1.2))) else if v1.2 = (-1 : Int32) then (K2 ((v1.1 + 1, v5))) else if v1.2 ≤ v5 then (K2 ((v1.1 + 1, v1.2))) else K2 ((v1.1 + 1, v5))) fun J6 => if r4 = (-1 : Int32) then (J6 ((-1))) else bd1 (fX6_rowOf F σ v1.1 r4 a1) fun r8 => ckI (r8) 128 (J6 (σ 83 (Int32.toNatClampNeg r8)))) F ((0, (-1)))
set_option maxRecDepth 20000 in
theorem wfX6_boundTo {X : XT} {D : va_G} {cI : ClassId} {ad : Nat → Nat} {F : Nat} {σ : St} {a0 : Int32} {a1 : Int32} {r : Int32} (C : Cx X (gC D cI ad) cX6_boundTo 7 RX6 1 22 0) (hr : RetI X (gC D cI ad) cX6_boundTo 7 0 r σ) (h : fX6_boundTo F σ a0 a1 = some r) : WP X (gC D cI ad) 7 0 0 σ [(0, .ref (ad 81)), (1, .int a0), (2, .int a1)] [] := by
  unfold fX6_boundTo at h
  refine w_iconst C (-1) dX6_boundTo_0 rfl (by decide) ?_
  refine w_istore_n C [(3, .int ((-1))), (0, .ref (ad 81)), (1, .int a0), (2, .int a1)] dX6_boundTo_1 rfl (by decide) rfl ?_
  refine w_iconst C 0 dX6_boundTo_2 rfl (by decide) ?_
  refine w_istore C [(4, .int 0), (3, .int ((-1))), (0, .ref (ad 81)), (1, .int a0), (2, .int a1)] dX6_boundTo_3 rfl (by decide) rfl ?_
  refine w_sub (lv' := [(4, .int 0), (3, .int ((-1))), (0, .ref (ad 81)), (1, .int a0), (2, .int a1)]) [0, 1, 2, 3, 4] rfl ?_
  refine lp_w (fun v1 : Int32 × Int32 => WP X (gC D cI ad) 7 0 5 σ [(4, .int v1.1), (3, .int v1.2), (0, .ref (ad 81)), (1, .int a0), (2, .int a1)] []) (fun K2 hK3 v1 h => ?_) F _ h
  refine w_iload C dX6_boundTo_5 rfl 0 rfl ?_
  refine w_aload_n C dX6_boundTo_7 rfl 2 rfl ?_
  refine w_get C 81 0 (Nat.le_of_ble_eq_true rfl) rfl rfl inB_X6 (by decide) tw2_101 rfl dX6_boundTo_8 rfl ?_
  refine w_get C 2 1 (Nat.le_of_ble_eq_true rfl) rfl rfl inB_X0 (by decide) tw1_65 rfl dX6_boundTo_11 rfl ?_
  refine w_icmp_ge C (qt := 77) dX6_boundTo_14 (by decide) rfl h (fun _ h => ?_) (fun _ h => ?_)
  · refine w_iload_n C dX6_boundTo_77 rfl 1 rfl ?_
    exact w_ri1 hr h (by decide) dX6_boundTo_78
  · refine w_aload_n C dX6_boundTo_17 rfl 2 rfl ?_
    refine w_iload C dX6_boundTo_18 rfl 0 rfl ?_
    refine w_iload_n C dX6_boundTo_20 rfl 3 rfl ?_
    refine bd1_w h (fun r4 hc h => ?_)
    refine w_callVi C (n := 2) (As := [.int v1.1, .int a0]) (st := []) 81 (Nat.le_of_ble_eq_true rfl) rfl rfl (cfX6_sideOf D cI ad (l := X.2.1) C.2.2.1 hc) tw4_213 cy_X6_sideOf (by decide +kernel) ⟨Nat.le_of_ble_eq_true rfl, Nat.le_of_ble_eq_true rfl⟩ (by decide) rfl rfl (Nat.le_of_ble_eq_true rfl) dX6_boundTo_21 rfl ?_
    refine w_istore C [(5, .int r4), (4, .int v1.1), (3, .int v1.2), (0, .ref (ad 81)), (1, .int a0), (2, .int a1)] dX6_boundTo_24 rfl (by decide) rfl ?_
    refine w_iload C dX6_boundTo_26 rfl 0 rfl ?_
    refine w_iconst C (-1) dX6_boundTo_28 rfl (by decide) ?_
    refine jn_w (fun v5 : Int32 => WP X (gC D cI ad) 7 0 49 σ [(4, .int v1.1), (3, .int v1.2), (0, .ref (ad 81)), (1, .int a0), (2, .int a1)] [.int v5]) h (fun v5 h => ?_) (fun J6 hJ7 h => ?_)
    · refine w_istore C [(6, .int v5), (4, .int v1.1), (3, .int v1.2), (0, .ref (ad 81)), (1, .int a0), (2, .int a1)] dX6_boundTo_49 rfl (by decide) rfl ?_
      refine w_iload C dX6_boundTo_51 rfl 0 rfl ?_
      refine w_iconst C (-1) dX6_boundTo_53 rfl (by decide) ?_
      refine w_icmp_eq C (qt := 71) dX6_boundTo_54 (by decide) rfl h (fun _ h => ?_) (fun _ h => ?_)
      · refine w_iinc (j := 1) C (v1.1 + 1) [(4, .int (v1.1 + 1)), (6, .int v5), (3, .int v1.2), (0, .ref (ad 81)), (1, .int a0), (2, .int a1)] dX6_boundTo_71 rfl rfl rfl (by decide) rfl ?_
        refine w_goto (q := 5) C dX6_boundTo_74 (by decide) ?_
        exact w_sub (lv' := [(4, .int (v1.1 + 1)), (3, .int v1.2), (0, .ref (ad 81)), (1, .int a0), (2, .int a1)]) [0, 2, 3, 4, 5] rfl (hK3 ((v1.1 + 1, v1.2)) h)
      · refine w_iload_n C dX6_boundTo_57 rfl 2 rfl ?_
        refine w_iconst C (-1) dX6_boundTo_58 rfl (by decide) ?_
        refine w_icmp_eq C (qt := 68) dX6_boundTo_59 (by decide) rfl h (fun _ h => ?_) (fun _ h => ?_)
        · refine w_iload C dX6_boundTo_68 rfl 0 rfl ?_
          refine w_istore_n C [(3, .int v5), (6, .int v5), (4, .int v1.1), (0, .ref (ad 81)), (1, .int a0), (2, .int a1)] dX6_boundTo_70 rfl (by decide) rfl ?_
          refine w_iinc (j := 2) C (v1.1 + 1) [(4, .int (v1.1 + 1)), (3, .int v5), (6, .int v5), (0, .ref (ad 81)), (1, .int a0), (2, .int a1)] dX6_boundTo_71 rfl rfl rfl (by decide) rfl ?_
          refine w_goto (q := 5) C dX6_boundTo_74 (by decide) ?_
          exact w_sub (lv' := [(4, .int (v1.1 + 1)), (3, .int v5), (0, .ref (ad 81)), (1, .int a0), (2, .int a1)]) [0, 1, 3, 4, 5] rfl (hK3 ((v1.1 + 1, v5)) h)
        · refine w_iload C dX6_boundTo_62 rfl 0 rfl ?_
          refine w_iload_n C dX6_boundTo_64 rfl 2 rfl ?_
          refine w_icmp_ge C (qt := 71) dX6_boundTo_65 (by decide) rfl h (fun _ h => ?_) (fun _ h => ?_)
          · refine w_iinc (j := 1) C (v1.1 + 1) [(4, .int (v1.1 + 1)), (6, .int v5), (3, .int v1.2), (0, .ref (ad 81)), (1, .int a0), (2, .int a1)] dX6_boundTo_71 rfl rfl rfl (by decide) rfl ?_
            refine w_goto (q := 5) C dX6_boundTo_74 (by decide) ?_
            exact w_sub (lv' := [(4, .int (v1.1 + 1)), (3, .int v1.2), (0, .ref (ad 81)), (1, .int a0), (2, .int a1)]) [0, 2, 3, 4, 5] rfl (hK3 ((v1.1 + 1, v1.2)) h)
          · refine w_iload C dX6_boundTo_68 rfl 0 rfl ?_
            refine w_istore_n C [(3, .int v5), (6, .int v5), (4, .int v1.1), (0, .ref (ad 81)), (1, .int a0), (2, .int a1)] dX6_boundTo_70 rfl (by decide) rfl ?_
            refine w_iinc (j := 2) C (v1.1 + 1) [(4, .int (v1.1 + 1)), (3, .int v5), (6, .int v5), (0, .ref (ad 81)), (1, .int a0), (2, .int a1)] dX6_boundTo_71 rfl rfl rfl (by decide) rfl ?_
            refine w_goto (q := 5) C dX6_boundTo_74 (by decide) ?_
            exact w_sub (lv' := [(4, .int (v1.1 + 1)), (3, .int v5), (0, .ref (ad 81)), (1, .int a0), (2, .int a1)]) [0, 1, 3, 4, 5] rfl (hK3 ((v1.1 + 1, v5)) h)
    · refine w_icmp_ne C (qt := 36) dX6_boundTo_29 (by decide) rfl h (fun _ h => ?_) (fun _ h => ?_)
      · refine w_aload_n C dX6_boundTo_36 rfl 3 rfl ?_
        refine w_get C 81 3 (Nat.le_of_ble_eq_true rfl) rfl rfl inB_X6 (by decide) tw2_104 rfl dX6_boundTo_37 rfl ?_
        refine w_iload C dX6_boundTo_40 rfl 1 rfl ?_
        refine w_iload C dX6_boundTo_42 rfl 0 rfl ?_
        refine w_iload_n C dX6_boundTo_44 rfl 5 rfl ?_
        refine bd1_w h (fun r8 hc h => ?_)
        refine w_callSi C (n := 3) (As := [.int v1.1, .int r4, .int a1]) (st := [.ref (ad 83)]) (cfX6_rowOf D cI ad (l := X.2.1) C.2.2.1 hc) tw4_180 cs_X6_rowOf (by decide +kernel) ⟨Nat.le_of_ble_eq_true rfl, Nat.le_of_ble_eq_true rfl⟩ (by decide) rfl rfl (Nat.le_of_ble_eq_true rfl) dX6_boundTo_45 rfl ?_
        refine w_iald C 83 128 0 (Nat.le_of_ble_eq_true rfl) (fun _ => rfl) rfl h dX6_boundTo_48 rfl (fun h => ?_)
        exact w_sub (lv' := [(4, .int v1.1), (3, .int v1.2), (0, .ref (ad 81)), (1, .int a0), (2, .int a1)]) [1, 2, 3, 4, 5] rfl (hJ7 (σ 83 (Int32.toNatClampNeg r8)) h)
      · refine w_iconst C (-1) dX6_boundTo_32 rfl (by decide) ?_
        refine w_goto (q := 49) C dX6_boundTo_33 (by decide) ?_
        exact w_sub (lv' := [(4, .int v1.1), (3, .int v1.2), (0, .ref (ad 81)), (1, .int a0), (2, .int a1)]) [1, 2, 3, 4, 5] rfl (hJ7 ((-1)) h)
theorem cfX6_boundTo (D : va_G) (cI : ClassId) (ad : Nat → Nat) {l : Launch} (had : gAp (gC D cI ad)) {F : Nat} {σ : St} {a0 : Int32} {a1 : Int32} {r : Int32} (h : fX6_boundTo F σ a0 a1 = some r) : MI l yX6_boundTo (wB yX6_boundTo cX6_boundTo 7 (some .int)) 1 22 (gC D cI ad) [.ref (ad 81), .int a0, .int a1] σ r σ := mk_MI had (by decide +kernel) (Nat.le_of_ble_eq_true rfl) (fun X hX C hr => wfX6_boundTo C hr h)

def fX6_hasStamped (F : Nat) (σ : St) (a0 : Int32) (a1 : Int32) (a2 : Int32) : Option Int32 := bd1 (fX6_boundTo F σ a0 a1) fun r1 => if r1 = (-1 : Int32) then (some 0) else ckI ((a0 * 8) + a1) 48 (if ((σ 34 (Int32.toNatClampNeg ((a0 * 8) + a1))) + a2) ≤ r1 then (some 0) else some 1)
set_option maxRecDepth 20000 in
theorem wfX6_hasStamped {X : XT} {D : va_G} {cI : ClassId} {ad : Nat → Nat} {F : Nat} {σ : St} {a0 : Int32} {a1 : Int32} {a2 : Int32} {r : Int32} (C : Cx X (gC D cI ad) cX6_hasStamped 5 RX6 2 48 0) (hr : RetZ X (gC D cI ad) cX6_hasStamped 5 0 r σ) (h : fX6_hasStamped F σ a0 a1 a2 = some r) : WP X (gC D cI ad) 5 0 0 σ [(0, .ref (ad 81)), (1, .int a0), (2, .int a1), (3, .int a2)] [] := by
  unfold fX6_hasStamped at h
  refine w_aload_n C dX6_hasStamped_0 rfl 0 rfl ?_
  refine w_iload_n C dX6_hasStamped_1 rfl 1 rfl ?_
  refine w_iload_n C dX6_hasStamped_2 rfl 2 rfl ?_
  refine bd1_w h (fun r1 hc h => ?_)
  refine w_callVi C (n := 2) (As := [.int a0, .int a1]) (st := []) 81 (Nat.le_of_ble_eq_true rfl) rfl rfl (cfX6_boundTo D cI ad (l := X.2.1) C.2.2.1 hc) tw4_209 cy_X6_boundTo (by decide +kernel) ⟨Nat.le_of_ble_eq_true rfl, Nat.le_of_ble_eq_true rfl⟩ (by decide) rfl rfl (Nat.le_of_ble_eq_true rfl) dX6_hasStamped_3 rfl ?_
  refine w_istore C [(4, .int r1), (0, .ref (ad 81)), (1, .int a0), (2, .int a1), (3, .int a2)] dX6_hasStamped_6 rfl (by decide) rfl ?_
  refine w_iload C dX6_hasStamped_8 rfl 0 rfl ?_
  refine w_iconst C (-1) dX6_hasStamped_10 rfl (by decide) ?_
  refine w_icmp_eq C (qt := 39) dX6_hasStamped_11 (by decide) rfl h (fun _ h => ?_) (fun _ h => ?_)
  · refine w_iconst C 0 dX6_hasStamped_39 rfl (by decide) ?_
    exact w_rz1 hr (by decide) h (by decide) dX6_hasStamped_40
  · refine w_aload_n C dX6_hasStamped_14 rfl 1 rfl ?_
    refine w_get C 81 1 (Nat.le_of_ble_eq_true rfl) rfl rfl inB_X6 (by decide) tw2_102 rfl dX6_hasStamped_15 rfl ?_
    refine w_get C 30 6 (Nat.le_of_ble_eq_true rfl) rfl rfl inB_X9 (by decide) tw1_208 rfl dX6_hasStamped_18 rfl ?_
    refine w_iload_n C dX6_hasStamped_21 rfl 2 rfl ?_
    refine w_bipush C 8 dX6_hasStamped_22 rfl (by decide) ?_
    refine w_imul C dX6_hasStamped_24 rfl ?_
    refine w_iload_n C dX6_hasStamped_25 rfl 3 rfl ?_
    refine w_iadd C dX6_hasStamped_26 rfl ?_
    refine w_iald C 34 48 0 (Nat.le_of_ble_eq_true rfl) (fun _ => rfl) rfl h dX6_hasStamped_27 rfl (fun h => ?_)
    refine w_iload_n C dX6_hasStamped_28 rfl 4 rfl ?_
    refine w_iadd C dX6_hasStamped_29 rfl ?_
    refine w_iload C dX6_hasStamped_30 rfl 0 rfl ?_
    refine w_icmp_le C (qt := 39) dX6_hasStamped_32 (by decide) rfl h (fun _ h => ?_) (fun _ h => ?_)
    · refine w_iconst C 0 dX6_hasStamped_39 rfl (by decide) ?_
      exact w_rz1 hr (by decide) h (by decide) dX6_hasStamped_40
    · refine w_iconst C 1 dX6_hasStamped_35 rfl (by decide) ?_
      refine w_goto (q := 40) C dX6_hasStamped_36 (by decide) ?_
      exact w_rz1 hr (by decide) h (by decide) dX6_hasStamped_40
theorem cfX6_hasStamped (D : va_G) (cI : ClassId) (ad : Nat → Nat) {l : Launch} (had : gAp (gC D cI ad)) {F : Nat} {σ : St} {a0 : Int32} {a1 : Int32} {a2 : Int32} {r : Int32} (h : fX6_hasStamped F σ a0 a1 a2 = some r) : MI l yX6_hasStamped (wB yX6_hasStamped cX6_hasStamped 5 (some .boolean)) 2 48 (gC D cI ad) [.ref (ad 81), .int a0, .int a1, .int a2] σ r σ := mk_MZ had (by decide +kernel) (Nat.le_of_ble_eq_true rfl) (fun X hX C hr => wfX6_hasStamped C hr h)

def fX6_countStamped (F : Nat) (σ : St) : Option Int32 := lp (fun (K2 : (Int32 × Int32) → Option Int32) (v1 : Int32 × Int32) => if (σ 2 0) ≤ v1.1 then (some v1.2) else lp (fun (K5 : (Int32 × Int32) → Option Int32) (v4 : Int32 × Int32) => if (8 : Int32) ≤ v4.1 then (if v4.2 = 0 then (nm (v1.2 + 0) fun x7 => K2 ((v1.1 + 1, x7))) else nm (v1.2 + 1) fun x8 => K2 ((v1.1 + 1, x8))) else if v4.2 = 0 then (bd1 (fX6_hasStamped F σ v1.1 v4.1 0) fun r9 => if r9 = 0 then (K5 ((v4.1 + 1, 0))) else K5 ((v4.1 + 1, 1))) else K5 ((v4.1 + 1, 1))) F ((0, 0))) F ((0, 0))
set_option maxRecDepth 20000 in
theorem wfX6_countStamped {X : XT} {D : va_G} {cI : ClassId} {ad : Nat → Nat} {F : Nat} {σ : St}  {r : Int32} (C : Cx X (gC D cI ad) cX6_countStamped 5 RX6 3 72 0) (hr : RetI X (gC D cI ad) cX6_countStamped 5 0 r σ) (h : fX6_countStamped F σ = some r) : WP X (gC D cI ad) 5 0 0 σ [(0, .ref (ad 81))] [] := by
  unfold fX6_countStamped at h
  refine w_iconst C 0 dX6_countStamped_0 rfl (by decide) ?_
  refine w_istore_n C [(1, .int 0), (0, .ref (ad 81))] dX6_countStamped_1 rfl (by decide) rfl ?_
  refine w_iconst C 0 dX6_countStamped_2 rfl (by decide) ?_
  refine w_istore_n C [(2, .int 0), (1, .int 0), (0, .ref (ad 81))] dX6_countStamped_3 rfl (by decide) rfl ?_
  refine w_sub (lv' := [(2, .int 0), (1, .int 0), (0, .ref (ad 81))]) [0, 1, 2] rfl ?_
  refine lp_w (fun v1 : Int32 × Int32 => WP X (gC D cI ad) 5 0 4 σ [(2, .int v1.1), (1, .int v1.2), (0, .ref (ad 81))] []) (fun K2 hK3 v1 h => ?_) F _ h
  refine w_iload_n C dX6_countStamped_4 rfl 0 rfl ?_
  refine w_aload_n C dX6_countStamped_5 rfl 2 rfl ?_
  refine w_get C 81 0 (Nat.le_of_ble_eq_true rfl) rfl rfl inB_X6 (by decide) tw2_101 rfl dX6_countStamped_6 rfl ?_
  refine w_get C 2 0 (Nat.le_of_ble_eq_true rfl) rfl rfl inB_X0 (by decide) tw1_61 rfl dX6_countStamped_9 rfl ?_
  refine w_icmp_ge C (qt := 72) dX6_countStamped_12 (by decide) rfl h (fun _ h => ?_) (fun _ h => ?_)
  · refine w_iload_n C dX6_countStamped_72 rfl 1 rfl ?_
    exact w_ri1 hr h (by decide) dX6_countStamped_73
  · refine w_iconst C 0 dX6_countStamped_15 rfl (by decide) ?_
    refine w_istore_n C [(3, .int 0), (2, .int v1.1), (1, .int v1.2), (0, .ref (ad 81))] dX6_countStamped_16 rfl (by decide) rfl ?_
    refine w_iconst C 0 dX6_countStamped_17 rfl (by decide) ?_
    refine w_istore C [(4, .int 0), (3, .int 0), (2, .int v1.1), (1, .int v1.2), (0, .ref (ad 81))] dX6_countStamped_18 rfl (by decide) rfl ?_
    refine w_sub (lv' := [(4, .int 0), (3, .int 0), (2, .int v1.1), (1, .int v1.2), (0, .ref (ad 81))]) [0, 1, 2, 3, 4] rfl ?_
    refine lp_w (fun v4 : Int32 × Int32 => WP X (gC D cI ad) 5 0 20 σ [(4, .int v4.1), (3, .int v4.2), (2, .int v1.1), (1, .int v1.2), (0, .ref (ad 81))] []) (fun K5 hK6 v4 h => ?_) F _ h
    refine w_iload C dX6_countStamped_20 rfl 0 rfl ?_
    refine w_bipush C 8 dX6_countStamped_22 rfl (by decide) ?_
    refine w_icmp_ge C (qt := 54) dX6_countStamped_24 (by decide) rfl h (fun _ h => ?_) (fun _ h => ?_)
    · refine w_iload_n C dX6_countStamped_54 rfl 3 rfl ?_
      refine w_iload_n C dX6_countStamped_55 rfl 1 rfl ?_
      refine w_if_eq C (qt := 63) dX6_countStamped_56 (by decide) rfl h (fun _ h => ?_) (fun _ h => ?_)
      · refine w_iconst C 0 dX6_countStamped_63 rfl (by decide) ?_
        refine w_iadd C dX6_countStamped_64 rfl ?_
        refine w_nm h (fun x7 h => ?_)
        refine w_istore_n C [(1, .int x7), (4, .int v4.1), (3, .int v4.2), (2, .int v1.1), (0, .ref (ad 81))] dX6_countStamped_65 rfl (by decide) rfl ?_
        refine w_iinc (j := 3) C (v1.1 + 1) [(2, .int (v1.1 + 1)), (1, .int x7), (4, .int v4.1), (3, .int v4.2), (0, .ref (ad 81))] dX6_countStamped_66 rfl rfl rfl (by decide) rfl ?_
        refine w_goto (q := 4) C dX6_countStamped_69 (by decide) ?_
        exact w_sub (lv' := [(2, .int (v1.1 + 1)), (1, .int x7), (0, .ref (ad 81))]) [0, 1, 4] rfl (hK3 ((v1.1 + 1, x7)) h)
      · refine w_iconst C 1 dX6_countStamped_59 rfl (by decide) ?_
        refine w_goto (q := 64) C dX6_countStamped_60 (by decide) ?_
        refine w_iadd C dX6_countStamped_64 rfl ?_
        refine w_nm h (fun x8 h => ?_)
        refine w_istore_n C [(1, .int x8), (4, .int v4.1), (3, .int v4.2), (2, .int v1.1), (0, .ref (ad 81))] dX6_countStamped_65 rfl (by decide) rfl ?_
        refine w_iinc (j := 3) C (v1.1 + 1) [(2, .int (v1.1 + 1)), (1, .int x8), (4, .int v4.1), (3, .int v4.2), (0, .ref (ad 81))] dX6_countStamped_66 rfl rfl rfl (by decide) rfl ?_
        refine w_goto (q := 4) C dX6_countStamped_69 (by decide) ?_
        exact w_sub (lv' := [(2, .int (v1.1 + 1)), (1, .int x8), (0, .ref (ad 81))]) [0, 1, 4] rfl (hK3 ((v1.1 + 1, x8)) h)
    · refine w_iload_n C dX6_countStamped_27 rfl 1 rfl ?_
      refine w_if_ne C (qt := 42) dX6_countStamped_28 (by decide) rfl h (fun _ h => ?_) (fun _ h => ?_)
      · refine w_iconst C 1 dX6_countStamped_42 rfl (by decide) ?_
        refine w_goto (q := 47) C dX6_countStamped_43 (by decide) ?_
        refine w_istore_n C [(3, .int 1), (4, .int v4.1), (2, .int v1.1), (1, .int v1.2), (0, .ref (ad 81))] dX6_countStamped_47 rfl (by decide) rfl ?_
        refine w_iinc (j := 1) C (v4.1 + 1) [(4, .int (v4.1 + 1)), (3, .int 1), (2, .int v1.1), (1, .int v1.2), (0, .ref (ad 81))] dX6_countStamped_48 rfl rfl rfl (by decide) rfl ?_
        refine w_goto (q := 20) C dX6_countStamped_51 (by decide) ?_
        exact w_sub (lv' := [(4, .int (v4.1 + 1)), (3, .int 1), (2, .int v1.1), (1, .int v1.2), (0, .ref (ad 81))]) [0, 1, 2, 3, 4] rfl (hK6 ((v4.1 + 1, 1)) h)
      · refine w_aload_n C dX6_countStamped_31 rfl 4 rfl ?_
        refine w_iload_n C dX6_countStamped_32 rfl 2 rfl ?_
        refine w_iload C dX6_countStamped_33 rfl 0 rfl ?_
        refine w_iconst C 0 dX6_countStamped_35 rfl (by decide) ?_
        refine bd1_w h (fun r9 hc h => ?_)
        refine w_callVi C (n := 3) (As := [.int v1.1, .int v4.1, .int 0]) (st := []) 81 (Nat.le_of_ble_eq_true rfl) rfl rfl (cfX6_hasStamped D cI ad (l := X.2.1) C.2.2.1 hc) tw4_205 cy_X6_hasStamped (by decide +kernel) ⟨Nat.le_of_ble_eq_true rfl, Nat.le_of_ble_eq_true rfl⟩ (by decide) rfl rfl (Nat.le_of_ble_eq_true rfl) dX6_countStamped_36 rfl ?_
        refine w_if_eq C (qt := 46) dX6_countStamped_39 (by decide) rfl h (fun _ h => ?_) (fun _ h => ?_)
        · refine w_iconst C 0 dX6_countStamped_46 rfl (by decide) ?_
          refine w_istore_n C [(3, .int 0), (4, .int v4.1), (2, .int v1.1), (1, .int v1.2), (0, .ref (ad 81))] dX6_countStamped_47 rfl (by decide) rfl ?_
          refine w_iinc (j := 1) C (v4.1 + 1) [(4, .int (v4.1 + 1)), (3, .int 0), (2, .int v1.1), (1, .int v1.2), (0, .ref (ad 81))] dX6_countStamped_48 rfl rfl rfl (by decide) rfl ?_
          refine w_goto (q := 20) C dX6_countStamped_51 (by decide) ?_
          exact w_sub (lv' := [(4, .int (v4.1 + 1)), (3, .int 0), (2, .int v1.1), (1, .int v1.2), (0, .ref (ad 81))]) [0, 1, 2, 3, 4] rfl (hK6 ((v4.1 + 1, 0)) h)
        · refine w_iconst C 1 dX6_countStamped_42 rfl (by decide) ?_
          refine w_goto (q := 47) C dX6_countStamped_43 (by decide) ?_
          refine w_istore_n C [(3, .int 1), (4, .int v4.1), (2, .int v1.1), (1, .int v1.2), (0, .ref (ad 81))] dX6_countStamped_47 rfl (by decide) rfl ?_
          refine w_iinc (j := 1) C (v4.1 + 1) [(4, .int (v4.1 + 1)), (3, .int 1), (2, .int v1.1), (1, .int v1.2), (0, .ref (ad 81))] dX6_countStamped_48 rfl rfl rfl (by decide) rfl ?_
          refine w_goto (q := 20) C dX6_countStamped_51 (by decide) ?_
          exact w_sub (lv' := [(4, .int (v4.1 + 1)), (3, .int 1), (2, .int v1.1), (1, .int v1.2), (0, .ref (ad 81))]) [0, 1, 2, 3, 4] rfl (hK6 ((v4.1 + 1, 1)) h)
theorem cfX6_countStamped (D : va_G) (cI : ClassId) (ad : Nat → Nat) {l : Launch} (had : gAp (gC D cI ad)) {F : Nat} {σ : St}  {r : Int32} (h : fX6_countStamped F σ = some r) : MI l yX6_countStamped (wB yX6_countStamped cX6_countStamped 5 (some .int)) 3 72 (gC D cI ad) [.ref (ad 81)] σ r σ := mk_MI had (by decide +kernel) (Nat.le_of_ble_eq_true rfl) (fun X hX C hr => wfX6_countStamped C hr h)

def fX10_count (F : Nat) (σ : St) (a0 : Int32) : Option (Nat × Int32 × St) := if a0 = 0 then (some (0, σ 2 0, σ)) else if a0 = 1 then (some (0, σ 2 1, σ)) else if a0 = 2 then (some (0, σ 2 2, σ)) else if a0 = 3 then (some (0, σ 30 0, σ)) else if a0 = 4 then (bd2 (fX2_bindingBits F σ 0) fun r5 u6 => some (0, r5, u6)) else if a0 = 5 then (bd2 (fX2_bindingBits F σ 0) fun r8 u9 => bd1 (fX6_weighAll F u9 r8) fun u10 => bd1 (fX6_countStamped F u10) fun r11 => some (0, r11, u10)) else if a0 = 6 then (some (0, σ 30 1, σ)) else if a0 = 7 then (some (0, σ 30 2, σ)) else if a0 = 8 then (some (0, σ 0 1, σ)) else if a0 = 9 then (ckI (a0 - 9) 3 (some (0, σ 41 (Int32.toNatClampNeg (a0 - 9)), σ))) else if a0 = 10 then (ckI (a0 - 9) 3 (some (0, σ 41 (Int32.toNatClampNeg (a0 - 9)), σ))) else if a0 = 11 then (ckI (a0 - 9) 3 (some (0, σ 41 (Int32.toNatClampNeg (a0 - 9)), σ))) else some (1, 0, σ)
set_option maxRecDepth 20000 in
theorem wfX10_count {X : XT} {D : va_G} {cI : ClassId} {ad : Nat → Nat} {F : Nat} {σ : St} {a0 : Int32} {res : Nat × Int32 × St} (C : Cx X (gC D cI ad) cX10_count 2 RX10 7 140 1) (hr : RetXi X (gC D cI ad) cX10_count 2 1 res) (hx : ThrX X (gC D cI ad) cX10_count 2 1 res) (h : fX10_count F σ a0 = some res) : WP X (gC D cI ad) 2 0 0 σ [(0, .ref (ad 0)), (1, .int a0)] [] := by
  unfold fX10_count at h
  refine w_iload_n C dX10_count_0 rfl 1 rfl ?_
  refine if_w h (fun e1 h => ?_) (fun e1 h => ?_)
  · refine w_tsIn (q := 64) C 0 e1 dX10_count_1 (by decide) (by decide) rfl (by decide) ?_
    refine w_aload_n C dX10_count_64 rfl 0 rfl ?_
    refine w_get C 0 4 (Nat.le_of_ble_eq_true rfl) rfl rfl inB_X10 (by decide) tw2_176 rfl dX10_count_65 rfl ?_
    refine w_get C 2 0 (Nat.le_of_ble_eq_true rfl) rfl rfl inB_X0 (by decide) tw1_60 rfl dX10_count_68 rfl ?_
    exact w_rxi hr h (by decide) dX10_count_71
  refine if_w h (fun e2 h => ?_) (fun e2 h => ?_)
  · refine w_tsIn (q := 72) C 1 e2 dX10_count_1 (by decide) (by decide) rfl (by decide) ?_
    refine w_aload_n C dX10_count_72 rfl 0 rfl ?_
    refine w_get C 0 4 (Nat.le_of_ble_eq_true rfl) rfl rfl inB_X10 (by decide) tw2_176 rfl dX10_count_73 rfl ?_
    refine w_get C 2 1 (Nat.le_of_ble_eq_true rfl) rfl rfl inB_X0 (by decide) tw1_67 rfl dX10_count_76 rfl ?_
    exact w_rxi hr h (by decide) dX10_count_79
  refine if_w h (fun e3 h => ?_) (fun e3 h => ?_)
  · refine w_tsIn (q := 80) C 2 e3 dX10_count_1 (by decide) (by decide) rfl (by decide) ?_
    refine w_aload_n C dX10_count_80 rfl 0 rfl ?_
    refine w_get C 0 4 (Nat.le_of_ble_eq_true rfl) rfl rfl inB_X10 (by decide) tw2_176 rfl dX10_count_81 rfl ?_
    refine w_get C 2 2 (Nat.le_of_ble_eq_true rfl) rfl rfl inB_X0 (by decide) tw1_72 rfl dX10_count_84 rfl ?_
    exact w_rxi hr h (by decide) dX10_count_87
  refine if_w h (fun e4 h => ?_) (fun e4 h => ?_)
  · refine w_tsIn (q := 88) C 3 e4 dX10_count_1 (by decide) (by decide) rfl (by decide) ?_
    refine w_aload_n C dX10_count_88 rfl 0 rfl ?_
    refine w_get C 0 7 (Nat.le_of_ble_eq_true rfl) rfl rfl inB_X10 (by decide) tw2_179 rfl dX10_count_89 rfl ?_
    refine w_get C 30 0 (Nat.le_of_ble_eq_true rfl) rfl rfl inB_X9 (by decide) tw1_191 rfl dX10_count_92 rfl ?_
    exact w_rxi hr h (by decide) dX10_count_95
  refine if_w h (fun e7 h => ?_) (fun e7 h => ?_)
  · refine w_tsIn (q := 96) C 4 e7 dX10_count_1 (by decide) (by decide) rfl (by decide) ?_
    refine w_aload_n C dX10_count_96 rfl 0 rfl ?_
    refine w_get C 0 10 (Nat.le_of_ble_eq_true rfl) rfl rfl inB_X10 (by decide) tw2_182 rfl dX10_count_97 rfl ?_
    refine w_aload_n C dX10_count_100 rfl 0 rfl ?_
    refine w_get C 0 7 (Nat.le_of_ble_eq_true rfl) rfl rfl inB_X10 (by decide) tw2_179 rfl dX10_count_101 rfl ?_
    refine w_iconst C 0 dX10_count_104 rfl (by decide) ?_
    refine bd2_w h (fun r5 u6 hc h => ?_)
    refine w_callVi C (n := 2) (As := [.ref (ad 30), .int 0]) (st := []) 66 (Nat.le_of_ble_eq_true rfl) rfl rfl (cfX2_bindingBits D cI ad (l := X.2.1) C.2.2.1 hc) tw4_88 cy_X2_bindingBits (by decide +kernel) ⟨Nat.le_of_ble_eq_true rfl, Nat.le_of_ble_eq_true rfl⟩ (by decide) rfl rfl (Nat.le_of_ble_eq_true rfl) dX10_count_105 rfl ?_
    exact w_rxi hr h (by decide) dX10_count_108
  refine if_w h (fun e12 h => ?_) (fun e12 h => ?_)
  · refine w_tsIn (q := 109) C 5 e12 dX10_count_1 (by decide) (by decide) rfl (by decide) ?_
    refine w_aload_n C dX10_count_109 rfl 0 rfl ?_
    refine w_get C 0 12 (Nat.le_of_ble_eq_true rfl) rfl rfl inB_X10 (by decide) tw2_184 rfl dX10_count_110 rfl ?_
    refine w_aload_n C dX10_count_113 rfl 0 rfl ?_
    refine w_get C 0 10 (Nat.le_of_ble_eq_true rfl) rfl rfl inB_X10 (by decide) tw2_182 rfl dX10_count_114 rfl ?_
    refine w_aload_n C dX10_count_117 rfl 0 rfl ?_
    refine w_get C 0 7 (Nat.le_of_ble_eq_true rfl) rfl rfl inB_X10 (by decide) tw2_179 rfl dX10_count_118 rfl ?_
    refine w_iconst C 0 dX10_count_121 rfl (by decide) ?_
    refine bd2_w h (fun r8 u9 hc h => ?_)
    refine w_callVi C (n := 2) (As := [.ref (ad 30), .int 0]) (st := [.ref (ad 81)]) 66 (Nat.le_of_ble_eq_true rfl) rfl rfl (cfX2_bindingBits D cI ad (l := X.2.1) C.2.2.1 hc) tw4_88 cy_X2_bindingBits (by decide +kernel) ⟨Nat.le_of_ble_eq_true rfl, Nat.le_of_ble_eq_true rfl⟩ (by decide) rfl rfl (Nat.le_of_ble_eq_true rfl) dX10_count_122 rfl ?_
    refine bd1_w h (fun u10 hc h => ?_)
    refine w_callVv C (n := 1) (As := [.int r8]) (st := []) 81 (Nat.le_of_ble_eq_true rfl) rfl rfl (cfX6_weighAll D cI ad (l := X.2.1) C.2.2.1 hc) tw4_149 cy_X6_weighAll (by decide +kernel) ⟨Nat.le_of_ble_eq_true rfl, Nat.le_of_ble_eq_true rfl⟩ (by decide) rfl rfl (Nat.le_of_ble_eq_true rfl) dX10_count_125 rfl ?_
    refine w_aload_n C dX10_count_128 rfl 0 rfl ?_
    refine w_get C 0 12 (Nat.le_of_ble_eq_true rfl) rfl rfl inB_X10 (by decide) tw2_184 rfl dX10_count_129 rfl ?_
    refine bd1_w h (fun r11 hc h => ?_)
    refine w_callVi C (n := 0) (As := []) (st := []) 81 (Nat.le_of_ble_eq_true rfl) rfl rfl (cfX6_countStamped D cI ad (l := X.2.1) C.2.2.1 hc) tw4_201 cy_X6_countStamped (by decide +kernel) ⟨Nat.le_of_ble_eq_true rfl, Nat.le_of_ble_eq_true rfl⟩ (by decide) rfl rfl (Nat.le_of_ble_eq_true rfl) dX10_count_132 rfl ?_
    exact w_rxi hr h (by decide) dX10_count_135
  refine if_w h (fun e13 h => ?_) (fun e13 h => ?_)
  · refine w_tsIn (q := 136) C 6 e13 dX10_count_1 (by decide) (by decide) rfl (by decide) ?_
    refine w_aload_n C dX10_count_136 rfl 0 rfl ?_
    refine w_get C 0 7 (Nat.le_of_ble_eq_true rfl) rfl rfl inB_X10 (by decide) tw2_179 rfl dX10_count_137 rfl ?_
    refine w_get C 30 1 (Nat.le_of_ble_eq_true rfl) rfl rfl inB_X9 (by decide) tw1_193 rfl dX10_count_140 rfl ?_
    exact w_rxi hr h (by decide) dX10_count_143
  refine if_w h (fun e14 h => ?_) (fun e14 h => ?_)
  · refine w_tsIn (q := 144) C 7 e14 dX10_count_1 (by decide) (by decide) rfl (by decide) ?_
    refine w_aload_n C dX10_count_144 rfl 0 rfl ?_
    refine w_get C 0 7 (Nat.le_of_ble_eq_true rfl) rfl rfl inB_X10 (by decide) tw2_179 rfl dX10_count_145 rfl ?_
    refine w_get C 30 2 (Nat.le_of_ble_eq_true rfl) rfl rfl inB_X9 (by decide) tw1_195 rfl dX10_count_148 rfl ?_
    exact w_rxi hr h (by decide) dX10_count_151
  refine if_w h (fun e15 h => ?_) (fun e15 h => ?_)
  · refine w_tsIn (q := 152) C 8 e15 dX10_count_1 (by decide) (by decide) rfl (by decide) ?_
    refine w_aload_n C dX10_count_152 rfl 0 rfl ?_
    refine w_get C 0 1 (Nat.le_of_ble_eq_true rfl) rfl rfl inB_X10 (by decide) tw2_173 rfl dX10_count_153 rfl ?_
    exact w_rxi hr h (by decide) dX10_count_156
  refine if_w h (fun e16 h => ?_) (fun e16 h => ?_)
  · refine w_tsIn (q := 157) C 9 e16 dX10_count_1 (by decide) (by decide) rfl (by decide) ?_
    refine w_aload_n C dX10_count_157 rfl 0 rfl ?_
    refine w_get C 0 7 (Nat.le_of_ble_eq_true rfl) rfl rfl inB_X10 (by decide) tw2_179 rfl dX10_count_158 rfl ?_
    refine w_get C 30 13 (Nat.le_of_ble_eq_true rfl) rfl rfl inB_X9 (by decide) tw1_222 rfl dX10_count_161 rfl ?_
    refine w_iload_n C dX10_count_164 rfl 1 rfl ?_
    refine w_bipush C 9 dX10_count_165 rfl (by decide) ?_
    refine w_isub C dX10_count_167 rfl ?_
    refine w_iald C 41 3 0 (Nat.le_of_ble_eq_true rfl) (fun _ => rfl) rfl h dX10_count_168 rfl (fun h => ?_)
    exact w_rxi hr h (by decide) dX10_count_169
  refine if_w h (fun e17 h => ?_) (fun e17 h => ?_)
  · refine w_tsIn (q := 157) C 10 e17 dX10_count_1 (by decide) (by decide) rfl (by decide) ?_
    refine w_aload_n C dX10_count_157 rfl 0 rfl ?_
    refine w_get C 0 7 (Nat.le_of_ble_eq_true rfl) rfl rfl inB_X10 (by decide) tw2_179 rfl dX10_count_158 rfl ?_
    refine w_get C 30 13 (Nat.le_of_ble_eq_true rfl) rfl rfl inB_X9 (by decide) tw1_222 rfl dX10_count_161 rfl ?_
    refine w_iload_n C dX10_count_164 rfl 1 rfl ?_
    refine w_bipush C 9 dX10_count_165 rfl (by decide) ?_
    refine w_isub C dX10_count_167 rfl ?_
    refine w_iald C 41 3 0 (Nat.le_of_ble_eq_true rfl) (fun _ => rfl) rfl h dX10_count_168 rfl (fun h => ?_)
    exact w_rxi hr h (by decide) dX10_count_169
  refine if_w h (fun e18 h => ?_) (fun e18 h => ?_)
  · refine w_tsIn (q := 157) C 11 e18 dX10_count_1 (by decide) (by decide) rfl (by decide) ?_
    refine w_aload_n C dX10_count_157 rfl 0 rfl ?_
    refine w_get C 0 7 (Nat.le_of_ble_eq_true rfl) rfl rfl inB_X10 (by decide) tw2_179 rfl dX10_count_158 rfl ?_
    refine w_get C 30 13 (Nat.le_of_ble_eq_true rfl) rfl rfl inB_X9 (by decide) tw1_222 rfl dX10_count_161 rfl ?_
    refine w_iload_n C dX10_count_164 rfl 1 rfl ?_
    refine w_bipush C 9 dX10_count_165 rfl (by decide) ?_
    refine w_isub C dX10_count_167 rfl ?_
    refine w_iald C 41 3 0 (Nat.le_of_ble_eq_true rfl) (fun _ => rfl) rfl h dX10_count_168 rfl (fun h => ?_)
    exact w_rxi hr h (by decide) dX10_count_169
  refine w_tsOut (q := 170) C dX10_count_1 (ts_out (x := a0) (0) 11 (by decide) (fun k hk => by
    have hk : k = 0 ∨ k = 1 ∨ k = 2 ∨ k = 3 ∨ k = 4 ∨ k = 5 ∨ k = 6 ∨ k = 7 ∨ k = 8 ∨ k = 9 ∨ k = 10 ∨ k = 11 := by omega
    rcases hk with rfl | rfl | rfl | rfl | rfl | rfl | rfl | rfl | rfl | rfl | rfl | rfl
    · exact e1
    · exact e2
    · exact e3
    · exact e4
    · exact e7
    · exact e12
    · exact e13
    · exact e14
    · exact e15
    · exact e16
    · exact e17
    · exact e18)) (by decide) ?_
  exact w_thr1 hx (tx := "no such count") 101 (by decide) h (by decide) dX10_count_170 dX10_count_173 dX10_count_174 dX10_count_176 dX10_count_179
theorem cfX10_count (D : va_G) (cI : ClassId) (ad : Nat → Nat) {l : Launch} (had : gAp (gC D cI ad)) (hst : l.stackTraces = false) {F : Nat} {σ : St} {a0 : Int32} {res : Nat × Int32 × St} (h : fX10_count F σ a0 = some res) : MX l yX10_count (wB yX10_count cX10_count 2 (some .int)) 7 140 1 (gC D cI ad) [.ref (ad 0), .int a0] σ res := mk_MX had (by decide +kernel) (Nat.le_of_ble_eq_true rfl) hst rfl (by decide) (by decide) (fun X hX C hr hx => wfX10_count C hr hx h)

def fX10_checkValley (F : Nat) (σ : St) (a0 : Int32) : Option Nat := jn (fun v1 : Unit => some 1) fun J2 => if a0 < 0 then (J2 (())) else if a0 < (σ 2 0) then (some 0) else J2 (())
set_option maxRecDepth 20000 in
theorem wfX10_checkValley {X : XT} {D : va_G} {cI : ClassId} {ad : Nat → Nat} {F : Nat} {σ : St} {a0 : Int32} {res : Nat} (C : Cx X (gC D cI ad) cX10_checkValley 2 RX10 7 110 1) (hr : RetXv X (gC D cI ad) cX10_checkValley 2 1 σ res) (hx : ThrC X (gC D cI ad) cX10_checkValley 2 1 σ res) (h : fX10_checkValley F σ a0 = some res) : WP X (gC D cI ad) 2 0 0 σ [(0, .ref (ad 0)), (1, .int a0)] [] := by
  unfold fX10_checkValley at h
  refine w_iload_n C dX10_checkValley_0 rfl 1 rfl ?_
  refine jn_w (fun v1 : Unit => WP X (gC D cI ad) 2 0 15 σ [] []) h (fun v1 h => ?_) (fun J2 hJ3 h => ?_)
  · exact w_thcW1 hx (tx := "no such valley") 109 (by decide) h (by decide) dX10_checkValley_15 dX10_checkValley_18 dX10_checkValley_19 dX10_checkValley_22 dX10_checkValley_25
  · refine w_if_lt C (qt := 15) dX10_checkValley_1 (by decide) rfl h (fun _ h => ?_) (fun _ h => ?_)
    · exact w_sub (lv' := []) [] rfl (hJ3 (()) h)
    · refine w_iload_n C dX10_checkValley_4 rfl 1 rfl ?_
      refine w_aload_n C dX10_checkValley_5 rfl 0 rfl ?_
      refine w_get C 0 4 (Nat.le_of_ble_eq_true rfl) rfl rfl inB_X10 (by decide) tw2_176 rfl dX10_checkValley_6 rfl ?_
      refine w_get C 2 0 (Nat.le_of_ble_eq_true rfl) rfl rfl inB_X0 (by decide) tw1_60 rfl dX10_checkValley_9 rfl ?_
      refine w_icmp_lt C (qt := 26) dX10_checkValley_12 (by decide) rfl h (fun _ h => ?_) (fun _ h => ?_)
      · exact w_rxv hr h (by decide) dX10_checkValley_26
      · exact w_sub (lv' := []) [] rfl (hJ3 (()) h)
theorem cfX10_checkValley (D : va_G) (cI : ClassId) (ad : Nat → Nat) {l : Launch} (had : gAp (gC D cI ad)) (hst : l.stackTraces = false) {F : Nat} {σ : St} {a0 : Int32} {res : Nat} (h : fX10_checkValley F σ a0 = some res) : MC l yX10_checkValley (wB yX10_checkValley cX10_checkValley 2 none) 7 110 1 (gC D cI ad) [.ref (ad 0), .int a0] σ res := mk_MC had (by decide +kernel) (Nat.le_of_ble_eq_true rfl) hst rfl (by decide) (by decide) (fun X hX C hr hx => wfX10_checkValley C hr hx h)

def fX10_knees (F : Nat) (σ : St) (a0 : Int32) : Option (Nat × Int32 × St) := bd1 (fX10_checkValley F σ a0) fun t1 => if t1 = 0 then (ckI (a0) 6 (some (0, σ 3 (Int32.toNatClampNeg a0), σ))) else some (t1, 0, σ)
set_option maxRecDepth 20000 in
theorem wfX10_knees {X : XT} {D : va_G} {cI : ClassId} {ad : Nat → Nat} {F : Nat} {σ : St} {a0 : Int32} {res : Nat × Int32 × St} (C : Cx X (gC D cI ad) cX10_knees 2 RX10 8 131 1) (hr : RetXi X (gC D cI ad) cX10_knees 2 1 res) (hx : ThrX X (gC D cI ad) cX10_knees 2 1 res) (h : fX10_knees F σ a0 = some res) : WP X (gC D cI ad) 2 0 0 σ [(0, .ref (ad 0)), (1, .int a0)] [] := by
  unfold fX10_knees at h
  refine w_aload_n C dX10_knees_0 rfl 0 rfl ?_
  refine w_iload_n C dX10_knees_1 rfl 1 rfl ?_
  refine bd1_w h (fun t1 hc h => ?_)
  refine w_callX C hx (n := 1) (As := [.int a0]) (st := []) 0 (Nat.le_of_ble_eq_true rfl) rfl rfl (cfX10_checkValley D cI ad (l := X.2.1) C.2.2.1 hx.1 hc) tw5_0 cy_X10_checkValley (by decide +kernel) ⟨by decide, by decide⟩ (by decide) rfl rfl (Nat.le_of_ble_eq_true rfl) dX10_knees_2 rfl h (fun h => ?_)
  refine w_aload_n C dX10_knees_5 rfl 0 rfl ?_
  refine w_get C 0 4 (Nat.le_of_ble_eq_true rfl) rfl rfl inB_X10 (by decide) tw2_176 rfl dX10_knees_6 rfl ?_
  refine w_get C 2 5 (Nat.le_of_ble_eq_true rfl) rfl rfl inB_X0 (by decide) tw1_81 rfl dX10_knees_9 rfl ?_
  refine w_iload_n C dX10_knees_12 rfl 1 rfl ?_
  refine w_iald C 3 6 0 (Nat.le_of_ble_eq_true rfl) (fun _ => rfl) rfl h dX10_knees_13 rfl (fun h => ?_)
  exact w_rxi hr h (by decide) dX10_knees_14
theorem cfX10_knees (D : va_G) (cI : ClassId) (ad : Nat → Nat) {l : Launch} (had : gAp (gC D cI ad)) (hst : l.stackTraces = false) {F : Nat} {σ : St} {a0 : Int32} {res : Nat × Int32 × St} (h : fX10_knees F σ a0 = some res) : MX l yX10_knees (wB yX10_knees cX10_knees 2 (some .int)) 8 131 1 (gC D cI ad) [.ref (ad 0), .int a0] σ res := mk_MX had (by decide +kernel) (Nat.le_of_ble_eq_true rfl) hst rfl (by decide) (by decide) (fun X hX C hr hx => wfX10_knees C hr hx h)

def fX10_checkDance (F : Nat) (σ : St) (a0 : Int32) : Option Nat := jn (fun v1 : Unit => some 1) fun J2 => if a0 < 0 then (J2 (())) else if a0 < (σ 2 1) then (some 0) else J2 (())
set_option maxRecDepth 20000 in
theorem wfX10_checkDance {X : XT} {D : va_G} {cI : ClassId} {ad : Nat → Nat} {F : Nat} {σ : St} {a0 : Int32} {res : Nat} (C : Cx X (gC D cI ad) cX10_checkDance 2 RX10 7 110 1) (hr : RetXv X (gC D cI ad) cX10_checkDance 2 1 σ res) (hx : ThrC X (gC D cI ad) cX10_checkDance 2 1 σ res) (h : fX10_checkDance F σ a0 = some res) : WP X (gC D cI ad) 2 0 0 σ [(0, .ref (ad 0)), (1, .int a0)] [] := by
  unfold fX10_checkDance at h
  refine w_iload_n C dX10_checkDance_0 rfl 1 rfl ?_
  refine jn_w (fun v1 : Unit => WP X (gC D cI ad) 2 0 15 σ [] []) h (fun v1 h => ?_) (fun J2 hJ3 h => ?_)
  · exact w_thcW1 hx (tx := "no such dance") 110 (by decide) h (by decide) dX10_checkDance_15 dX10_checkDance_18 dX10_checkDance_19 dX10_checkDance_22 dX10_checkDance_25
  · refine w_if_lt C (qt := 15) dX10_checkDance_1 (by decide) rfl h (fun _ h => ?_) (fun _ h => ?_)
    · exact w_sub (lv' := []) [] rfl (hJ3 (()) h)
    · refine w_iload_n C dX10_checkDance_4 rfl 1 rfl ?_
      refine w_aload_n C dX10_checkDance_5 rfl 0 rfl ?_
      refine w_get C 0 4 (Nat.le_of_ble_eq_true rfl) rfl rfl inB_X10 (by decide) tw2_176 rfl dX10_checkDance_6 rfl ?_
      refine w_get C 2 1 (Nat.le_of_ble_eq_true rfl) rfl rfl inB_X0 (by decide) tw1_67 rfl dX10_checkDance_9 rfl ?_
      refine w_icmp_lt C (qt := 26) dX10_checkDance_12 (by decide) rfl h (fun _ h => ?_) (fun _ h => ?_)
      · exact w_rxv hr h (by decide) dX10_checkDance_26
      · exact w_sub (lv' := []) [] rfl (hJ3 (()) h)
theorem cfX10_checkDance (D : va_G) (cI : ClassId) (ad : Nat → Nat) {l : Launch} (had : gAp (gC D cI ad)) (hst : l.stackTraces = false) {F : Nat} {σ : St} {a0 : Int32} {res : Nat} (h : fX10_checkDance F σ a0 = some res) : MC l yX10_checkDance (wB yX10_checkDance cX10_checkDance 2 none) 7 110 1 (gC D cI ad) [.ref (ad 0), .int a0] σ res := mk_MC had (by decide +kernel) (Nat.le_of_ble_eq_true rfl) hst rfl (by decide) (by decide) (fun X hX C hr hx => wfX10_checkDance C hr hx h)

def fX10_isBinding (F : Nat) (σ : St) (a0 : Int32) : Option (Int32 × St) := bd1 (fX2_prepare F σ a0 0) fun u1 => ckI (a0) 8 (if (u1 32 (Int32.toNatClampNeg a0)) = 0 then (bd2 (fX2_endsFacing F u1) fun r2 u3 => if r2 = 0 then (some (0, u3)) else some (1, u3)) else some (0, u1))
set_option maxRecDepth 20000 in
theorem wfX10_isBinding {X : XT} {D : va_G} {cI : ClassId} {ad : Nat → Nat} {F : Nat} {σ : St} {a0 : Int32} {r : Int32} {σ' : St} (C : Cx X (gC D cI ad) cX10_isBinding 2 RX10 4 98 0) (hr : RetZ X (gC D cI ad) cX10_isBinding 2 0 r σ') (h : fX10_isBinding F σ a0 = some (r, σ')) : WP X (gC D cI ad) 2 0 0 σ [(0, .ref (ad 0)), (1, .int a0)] [] := by
  unfold fX10_isBinding at h
  refine w_aload_n C dX10_isBinding_0 rfl 0 rfl ?_
  refine w_get C 0 10 (Nat.le_of_ble_eq_true rfl) rfl rfl inB_X10 (by decide) tw2_182 rfl dX10_isBinding_1 rfl ?_
  refine w_aload_n C dX10_isBinding_4 rfl 0 rfl ?_
  refine w_get C 0 7 (Nat.le_of_ble_eq_true rfl) rfl rfl inB_X10 (by decide) tw2_179 rfl dX10_isBinding_5 rfl ?_
  refine w_iload_n C dX10_isBinding_8 rfl 1 rfl ?_
  refine w_iconst C 0 dX10_isBinding_9 rfl (by decide) ?_
  refine bd1_w h (fun u1 hc h => ?_)
  refine w_callVv C (n := 3) (As := [.ref (ad 30), .int a0, .int 0]) (st := []) 66 (Nat.le_of_ble_eq_true rfl) rfl rfl (cfX2_prepare D cI ad (l := X.2.1) C.2.2.1 hc) tw5_23 cy_X2_prepare (by decide +kernel) ⟨Nat.le_of_ble_eq_true rfl, Nat.le_of_ble_eq_true rfl⟩ (by decide) rfl rfl (Nat.le_of_ble_eq_true rfl) dX10_isBinding_10 rfl ?_
  refine w_aload_n C dX10_isBinding_13 rfl 0 rfl ?_
  refine w_get C 0 7 (Nat.le_of_ble_eq_true rfl) rfl rfl inB_X10 (by decide) tw2_179 rfl dX10_isBinding_14 rfl ?_
  refine w_get C 30 4 (Nat.le_of_ble_eq_true rfl) rfl rfl inB_X9 (by decide) tw1_202 rfl dX10_isBinding_17 rfl ?_
  refine w_iload_n C dX10_isBinding_20 rfl 1 rfl ?_
  refine w_iald C 32 8 0 (Nat.le_of_ble_eq_true rfl) (fun _ => rfl) rfl h dX10_isBinding_21 rfl (fun h => ?_)
  refine w_if_ne C (qt := 39) dX10_isBinding_22 (by decide) rfl h (fun _ h => ?_) (fun _ h => ?_)
  · refine w_iconst C 0 dX10_isBinding_39 rfl (by decide) ?_
    exact w_rz2 hr (by decide) h (by decide) dX10_isBinding_40
  · refine w_aload_n C dX10_isBinding_25 rfl 0 rfl ?_
    refine w_get C 0 10 (Nat.le_of_ble_eq_true rfl) rfl rfl inB_X10 (by decide) tw2_182 rfl dX10_isBinding_26 rfl ?_
    refine bd2_w h (fun r2 u3 hc h => ?_)
    refine w_callVi C (n := 0) (As := []) (st := []) 66 (Nat.le_of_ble_eq_true rfl) rfl rfl (cfX2_endsFacing D cI ad (l := X.2.1) C.2.2.1 hc) tw5_24 cy_X2_endsFacing (by decide +kernel) ⟨Nat.le_of_ble_eq_true rfl, Nat.le_of_ble_eq_true rfl⟩ (by decide) rfl rfl (Nat.le_of_ble_eq_true rfl) dX10_isBinding_29 rfl ?_
    refine w_if_eq C (qt := 39) dX10_isBinding_32 (by decide) rfl h (fun _ h => ?_) (fun _ h => ?_)
    · refine w_iconst C 0 dX10_isBinding_39 rfl (by decide) ?_
      exact w_rz2 hr (by decide) h (by decide) dX10_isBinding_40
    · refine w_iconst C 1 dX10_isBinding_35 rfl (by decide) ?_
      refine w_goto (q := 40) C dX10_isBinding_36 (by decide) ?_
      exact w_rz2 hr (by decide) h (by decide) dX10_isBinding_40
theorem cfX10_isBinding (D : va_G) (cI : ClassId) (ad : Nat → Nat) {l : Launch} (had : gAp (gC D cI ad)) {F : Nat} {σ : St} {a0 : Int32} {r : Int32} {σ' : St} (h : fX10_isBinding F σ a0 = some (r, σ')) : MI l yX10_isBinding (wB yX10_isBinding cX10_isBinding 2 (some .boolean)) 4 98 (gC D cI ad) [.ref (ad 0), .int a0] σ r σ' := mk_MZ had (by decide +kernel) (Nat.le_of_ble_eq_true rfl) (fun X hX C hr => wfX10_isBinding C hr h)

def fX2_walkAll (F : Nat) (σ : St) : Option (Int32 × St) := bd1 (fX3_begin F σ (σ 2 2)) fun u1 => bd2 (fX2_walk F u1 0 (u1 66 4)) fun r2 u3 => some (r2, u3)
set_option maxRecDepth 20000 in
theorem wfX2_walkAll {X : XT} {D : va_G} {cI : ClassId} {ad : Nat → Nat} {F : Nat} {σ : St}  {r : Int32} {σ' : St} (C : Cx X (gC D cI ad) cX2_walkAll 1 RX2 3 78 0) (hr : RetI X (gC D cI ad) cX2_walkAll 1 0 r σ') (h : fX2_walkAll F σ = some (r, σ')) : WP X (gC D cI ad) 1 0 0 σ [(0, .ref (ad 66))] [] := by
  unfold fX2_walkAll at h
  refine w_aload_n C dX2_walkAll_0 rfl 0 rfl ?_
  refine w_get C 66 1 (Nat.le_of_ble_eq_true rfl) rfl rfl inB_X2 (by decide) tw2_40 rfl dX2_walkAll_1 rfl ?_
  refine w_aload_n C dX2_walkAll_4 rfl 0 rfl ?_
  refine w_get C 66 0 (Nat.le_of_ble_eq_true rfl) rfl rfl inB_X2 (by decide) tw2_39 rfl dX2_walkAll_5 rfl ?_
  refine w_get C 2 2 (Nat.le_of_ble_eq_true rfl) rfl rfl inB_X0 (by decide) tw1_70 rfl dX2_walkAll_8 rfl ?_
  refine bd1_w h (fun u1 hc h => ?_)
  refine w_callVv C (n := 1) (As := [.int (σ 2 2)]) (st := []) 67 (Nat.le_of_ble_eq_true rfl) rfl rfl (cfX3_begin D cI ad (l := X.2.1) C.2.2.1 hc) tw4_113 cy_X3_begin (by decide +kernel) ⟨Nat.le_of_ble_eq_true rfl, Nat.le_of_ble_eq_true rfl⟩ (by decide) rfl rfl (Nat.le_of_ble_eq_true rfl) dX2_walkAll_11 rfl ?_
  refine w_aload_n C dX2_walkAll_14 rfl 0 rfl ?_
  refine w_iconst C 0 dX2_walkAll_15 rfl (by decide) ?_
  refine w_aload_n C dX2_walkAll_16 rfl 0 rfl ?_
  refine w_get C 66 4 (Nat.le_of_ble_eq_true rfl) rfl rfl inB_X2 (by decide) tw2_47 rfl dX2_walkAll_17 rfl ?_
  refine bd2_w h (fun r2 u3 hc h => ?_)
  refine w_callVi C (n := 2) (As := [.int 0, .int (u1 66 4)]) (st := []) 66 (Nat.le_of_ble_eq_true rfl) rfl rfl (cfX2_walk D cI ad (l := X.2.1) C.2.2.1 hc) tw4_117 cy_X2_walk (by decide +kernel) ⟨Nat.le_of_ble_eq_true rfl, Nat.le_of_ble_eq_true rfl⟩ (by decide) rfl rfl (Nat.le_of_ble_eq_true rfl) dX2_walkAll_20 rfl ?_
  exact w_ri2 hr h (by decide) dX2_walkAll_23
theorem cfX2_walkAll (D : va_G) (cI : ClassId) (ad : Nat → Nat) {l : Launch} (had : gAp (gC D cI ad)) {F : Nat} {σ : St}  {r : Int32} {σ' : St} (h : fX2_walkAll F σ = some (r, σ')) : MI l yX2_walkAll (wB yX2_walkAll cX2_walkAll 1 (some .int)) 3 78 (gC D cI ad) [.ref (ad 66)] σ r σ' := mk_MI had (by decide +kernel) (Nat.le_of_ble_eq_true rfl) (fun X hX C hr => wfX2_walkAll C hr h)

def fX10_dance (F : Nat) (σ : St) (a0 : Int32) (a1 : Int32) : Option (Nat × Int32 × St) := bd1 (fX10_checkDance F σ a0) fun t1 => if t1 = 0 then (if a1 = 0 then (bd1 (fX0_envoy F σ a0 0) fun r2 => some (0, r2, σ)) else if a1 = 1 then (bd1 (fX0_envoy F σ a0 1) fun r4 => some (0, r4, σ)) else if a1 = 2 then (ckI (a0) 8 (some (0, σ 6 (Int32.toNatClampNeg a0), σ))) else if a1 = 3 then (ckI (a0) 8 (some (0, σ 7 (Int32.toNatClampNeg a0), σ))) else if a1 = 4 then (bd1 (fX9_since F σ a0) fun r8 => some (0, r8, σ)) else if a1 = 5 then (ckI (a0) 8 (some (0, σ 32 (Int32.toNatClampNeg a0), σ))) else if a1 = 6 then (bd2 (fX10_isBinding F σ a0) fun r11 u12 => if r11 = 0 then (some (0, 0, u12)) else some (0, 1, u12)) else if a1 = 7 then (bd1 (fX2_prepare F σ a0 0) fun u14 => bd2 (fX2_walkAll F u14) fun r15 u16 => some (0, r15, u16)) else some (1, 0, σ)) else some (t1, 0, σ)
set_option maxRecDepth 20000 in
theorem wfX10_dance {X : XT} {D : va_G} {cI : ClassId} {ad : Nat → Nat} {F : Nat} {σ : St} {a0 : Int32} {a1 : Int32} {res : Nat × Int32 × St} (C : Cx X (gC D cI ad) cX10_dance 3 RX10 8 131 2) (hr : RetXi X (gC D cI ad) cX10_dance 3 2 res) (hx : ThrX X (gC D cI ad) cX10_dance 3 2 res) (h : fX10_dance F σ a0 a1 = some res) : WP X (gC D cI ad) 3 0 0 σ [(0, .ref (ad 0)), (1, .int a0), (2, .int a1)] [] := by
  unfold fX10_dance at h
  refine w_aload_n C dX10_dance_0 rfl 0 rfl ?_
  refine w_iload_n C dX10_dance_1 rfl 1 rfl ?_
  refine bd1_w h (fun t1 hc h => ?_)
  refine w_callX C hx (n := 1) (As := [.int a0]) (st := []) 0 (Nat.le_of_ble_eq_true rfl) rfl rfl (cfX10_checkDance D cI ad (l := X.2.1) C.2.2.1 hx.1 hc) tw5_12 cy_X10_checkDance (by decide +kernel) ⟨by decide, by decide⟩ (by decide) rfl rfl (Nat.le_of_ble_eq_true rfl) dX10_dance_2 rfl h (fun h => ?_)
  refine w_iload_n C dX10_dance_5 rfl 2 rfl ?_
  refine if_w h (fun e3 h => ?_) (fun e3 h => ?_)
  · refine w_tsIn (q := 52) C 0 e3 dX10_dance_6 (by decide) (by decide) rfl (by decide) ?_
    refine w_aload_n C dX10_dance_52 rfl 0 rfl ?_
    refine w_get C 0 4 (Nat.le_of_ble_eq_true rfl) rfl rfl inB_X10 (by decide) tw2_176 rfl dX10_dance_53 rfl ?_
    refine w_iload_n C dX10_dance_56 rfl 1 rfl ?_
    refine w_iconst C 0 dX10_dance_57 rfl (by decide) ?_
    refine bd1_w h (fun r2 hc h => ?_)
    refine w_callVi C (n := 2) (As := [.int a0, .int 0]) (st := []) 2 (Nat.le_of_ble_eq_true rfl) rfl rfl (cfX0_envoy D cI ad (l := X.2.1) C.2.2.1 hc) tw5_17 cy_X0_envoy (by decide +kernel) ⟨Nat.le_of_ble_eq_true rfl, Nat.le_of_ble_eq_true rfl⟩ (by decide) rfl rfl (Nat.le_of_ble_eq_true rfl) dX10_dance_58 rfl ?_
    exact w_rxi hr h (by decide) dX10_dance_61
  refine if_w h (fun e5 h => ?_) (fun e5 h => ?_)
  · refine w_tsIn (q := 62) C 1 e5 dX10_dance_6 (by decide) (by decide) rfl (by decide) ?_
    refine w_aload_n C dX10_dance_62 rfl 0 rfl ?_
    refine w_get C 0 4 (Nat.le_of_ble_eq_true rfl) rfl rfl inB_X10 (by decide) tw2_176 rfl dX10_dance_63 rfl ?_
    refine w_iload_n C dX10_dance_66 rfl 1 rfl ?_
    refine w_iconst C 1 dX10_dance_67 rfl (by decide) ?_
    refine bd1_w h (fun r4 hc h => ?_)
    refine w_callVi C (n := 2) (As := [.int a0, .int 1]) (st := []) 2 (Nat.le_of_ble_eq_true rfl) rfl rfl (cfX0_envoy D cI ad (l := X.2.1) C.2.2.1 hc) tw5_17 cy_X0_envoy (by decide +kernel) ⟨Nat.le_of_ble_eq_true rfl, Nat.le_of_ble_eq_true rfl⟩ (by decide) rfl rfl (Nat.le_of_ble_eq_true rfl) dX10_dance_68 rfl ?_
    exact w_rxi hr h (by decide) dX10_dance_71
  refine if_w h (fun e6 h => ?_) (fun e6 h => ?_)
  · refine w_tsIn (q := 72) C 2 e6 dX10_dance_6 (by decide) (by decide) rfl (by decide) ?_
    refine w_aload_n C dX10_dance_72 rfl 0 rfl ?_
    refine w_get C 0 4 (Nat.le_of_ble_eq_true rfl) rfl rfl inB_X10 (by decide) tw2_176 rfl dX10_dance_73 rfl ?_
    refine w_get C 2 8 (Nat.le_of_ble_eq_true rfl) rfl rfl inB_X0 (by decide) tw1_94 rfl dX10_dance_76 rfl ?_
    refine w_iload_n C dX10_dance_79 rfl 1 rfl ?_
    refine w_iald C 6 8 0 (Nat.le_of_ble_eq_true rfl) (fun _ => rfl) rfl h dX10_dance_80 rfl (fun h => ?_)
    exact w_rxi hr h (by decide) dX10_dance_81
  refine if_w h (fun e7 h => ?_) (fun e7 h => ?_)
  · refine w_tsIn (q := 82) C 3 e7 dX10_dance_6 (by decide) (by decide) rfl (by decide) ?_
    refine w_aload_n C dX10_dance_82 rfl 0 rfl ?_
    refine w_get C 0 4 (Nat.le_of_ble_eq_true rfl) rfl rfl inB_X10 (by decide) tw2_176 rfl dX10_dance_83 rfl ?_
    refine w_get C 2 9 (Nat.le_of_ble_eq_true rfl) rfl rfl inB_X0 (by decide) tw1_99 rfl dX10_dance_86 rfl ?_
    refine w_iload_n C dX10_dance_89 rfl 1 rfl ?_
    refine w_iald C 7 8 0 (Nat.le_of_ble_eq_true rfl) (fun _ => rfl) rfl h dX10_dance_90 rfl (fun h => ?_)
    exact w_rxi hr h (by decide) dX10_dance_91
  refine if_w h (fun e9 h => ?_) (fun e9 h => ?_)
  · refine w_tsIn (q := 92) C 4 e9 dX10_dance_6 (by decide) (by decide) rfl (by decide) ?_
    refine w_aload_n C dX10_dance_92 rfl 0 rfl ?_
    refine w_get C 0 7 (Nat.le_of_ble_eq_true rfl) rfl rfl inB_X10 (by decide) tw2_179 rfl dX10_dance_93 rfl ?_
    refine w_iload_n C dX10_dance_96 rfl 1 rfl ?_
    refine bd1_w h (fun r8 hc h => ?_)
    refine w_callVi C (n := 1) (As := [.int a0]) (st := []) 30 (Nat.le_of_ble_eq_true rfl) rfl rfl (cfX9_since D cI ad (l := X.2.1) C.2.2.1 hc) tw5_18 cy_X9_since (by decide +kernel) ⟨Nat.le_of_ble_eq_true rfl, Nat.le_of_ble_eq_true rfl⟩ (by decide) rfl rfl (Nat.le_of_ble_eq_true rfl) dX10_dance_97 rfl ?_
    exact w_rxi hr h (by decide) dX10_dance_100
  refine if_w h (fun e10 h => ?_) (fun e10 h => ?_)
  · refine w_tsIn (q := 101) C 5 e10 dX10_dance_6 (by decide) (by decide) rfl (by decide) ?_
    refine w_aload_n C dX10_dance_101 rfl 0 rfl ?_
    refine w_get C 0 7 (Nat.le_of_ble_eq_true rfl) rfl rfl inB_X10 (by decide) tw2_179 rfl dX10_dance_102 rfl ?_
    refine w_get C 30 4 (Nat.le_of_ble_eq_true rfl) rfl rfl inB_X9 (by decide) tw1_202 rfl dX10_dance_105 rfl ?_
    refine w_iload_n C dX10_dance_108 rfl 1 rfl ?_
    refine w_iald C 32 8 0 (Nat.le_of_ble_eq_true rfl) (fun _ => rfl) rfl h dX10_dance_109 rfl (fun h => ?_)
    exact w_rxi hr h (by decide) dX10_dance_110
  refine if_w h (fun e13 h => ?_) (fun e13 h => ?_)
  · refine w_tsIn (q := 111) C 6 e13 dX10_dance_6 (by decide) (by decide) rfl (by decide) ?_
    refine w_aload_n C dX10_dance_111 rfl 0 rfl ?_
    refine w_iload_n C dX10_dance_112 rfl 1 rfl ?_
    refine bd2_w h (fun r11 u12 hc h => ?_)
    refine w_callVi C (n := 1) (As := [.int a0]) (st := []) 0 (Nat.le_of_ble_eq_true rfl) rfl rfl (cfX10_isBinding D cI ad (l := X.2.1) C.2.2.1 hc) tw5_19 cy_X10_isBinding (by decide +kernel) ⟨Nat.le_of_ble_eq_true rfl, Nat.le_of_ble_eq_true rfl⟩ (by decide) rfl rfl (Nat.le_of_ble_eq_true rfl) dX10_dance_113 rfl ?_
    refine w_if_eq C (qt := 123) dX10_dance_116 (by decide) rfl h (fun _ h => ?_) (fun _ h => ?_)
    · refine w_iconst C 0 dX10_dance_123 rfl (by decide) ?_
      exact w_rxi hr h (by decide) dX10_dance_124
    · refine w_iconst C 1 dX10_dance_119 rfl (by decide) ?_
      refine w_goto (q := 124) C dX10_dance_120 (by decide) ?_
      exact w_rxi hr h (by decide) dX10_dance_124
  refine if_w h (fun e17 h => ?_) (fun e17 h => ?_)
  · refine w_tsIn (q := 125) C 7 e17 dX10_dance_6 (by decide) (by decide) rfl (by decide) ?_
    refine w_aload_n C dX10_dance_125 rfl 0 rfl ?_
    refine w_get C 0 10 (Nat.le_of_ble_eq_true rfl) rfl rfl inB_X10 (by decide) tw2_182 rfl dX10_dance_126 rfl ?_
    refine w_aload_n C dX10_dance_129 rfl 0 rfl ?_
    refine w_get C 0 7 (Nat.le_of_ble_eq_true rfl) rfl rfl inB_X10 (by decide) tw2_179 rfl dX10_dance_130 rfl ?_
    refine w_iload_n C dX10_dance_133 rfl 1 rfl ?_
    refine w_iconst C 0 dX10_dance_134 rfl (by decide) ?_
    refine bd1_w h (fun u14 hc h => ?_)
    refine w_callVv C (n := 3) (As := [.ref (ad 30), .int a0, .int 0]) (st := []) 66 (Nat.le_of_ble_eq_true rfl) rfl rfl (cfX2_prepare D cI ad (l := X.2.1) C.2.2.1 hc) tw5_23 cy_X2_prepare (by decide +kernel) ⟨Nat.le_of_ble_eq_true rfl, Nat.le_of_ble_eq_true rfl⟩ (by decide) rfl rfl (Nat.le_of_ble_eq_true rfl) dX10_dance_135 rfl ?_
    refine w_aload_n C dX10_dance_138 rfl 0 rfl ?_
    refine w_get C 0 10 (Nat.le_of_ble_eq_true rfl) rfl rfl inB_X10 (by decide) tw2_182 rfl dX10_dance_139 rfl ?_
    refine bd2_w h (fun r15 u16 hc h => ?_)
    refine w_callVi C (n := 0) (As := []) (st := []) 66 (Nat.le_of_ble_eq_true rfl) rfl rfl (cfX2_walkAll D cI ad (l := X.2.1) C.2.2.1 hc) tw5_25 cy_X2_walkAll (by decide +kernel) ⟨Nat.le_of_ble_eq_true rfl, Nat.le_of_ble_eq_true rfl⟩ (by decide) rfl rfl (Nat.le_of_ble_eq_true rfl) dX10_dance_142 rfl ?_
    exact w_rxi hr h (by decide) dX10_dance_145
  refine w_tsOut (q := 146) C dX10_dance_6 (ts_out (x := a1) (0) 7 (by decide) (fun k hk => by
    have hk : k = 0 ∨ k = 1 ∨ k = 2 ∨ k = 3 ∨ k = 4 ∨ k = 5 ∨ k = 6 ∨ k = 7 := by omega
    rcases hk with rfl | rfl | rfl | rfl | rfl | rfl | rfl | rfl
    · exact e3
    · exact e5
    · exact e6
    · exact e7
    · exact e9
    · exact e10
    · exact e13
    · exact e17)) (by decide) ?_
  exact w_thr1 hx (tx := "no such thing of a dance") 102 (by decide) h (by decide) dX10_dance_146 dX10_dance_149 dX10_dance_150 dX10_dance_152 dX10_dance_155
theorem cfX10_dance (D : va_G) (cI : ClassId) (ad : Nat → Nat) {l : Launch} (had : gAp (gC D cI ad)) (hst : l.stackTraces = false) {F : Nat} {σ : St} {a0 : Int32} {a1 : Int32} {res : Nat × Int32 × St} (h : fX10_dance F σ a0 a1 = some res) : MX l yX10_dance (wB yX10_dance cX10_dance 3 (some .int)) 8 131 2 (gC D cI ad) [.ref (ad 0), .int a0, .int a1] σ res := mk_MX had (by decide +kernel) (Nat.le_of_ble_eq_true rfl) hst rfl (by decide) (by decide) (fun X hX C hr hx => wfX10_dance C hr hx h)

def fX10_checkStep (F : Nat) (σ : St) (a0 : Int32) (a1 : Int32) : Option Nat := bd1 (fX10_checkDance F σ a0) fun t1 => if t1 = 0 then (jn (fun v2 : Unit => some 1) fun J3 => if a1 < 0 then (J3 (())) else ckI (a0) 8 (if a1 < (σ 7 (Int32.toNatClampNeg a0)) then (some 0) else J3 (()))) else some t1
set_option maxRecDepth 20000 in
theorem wfX10_checkStep {X : XT} {D : va_G} {cI : ClassId} {ad : Nat → Nat} {F : Nat} {σ : St} {a0 : Int32} {a1 : Int32} {res : Nat} (C : Cx X (gC D cI ad) cX10_checkStep 3 RX10 8 131 2) (hr : RetXv X (gC D cI ad) cX10_checkStep 3 2 σ res) (hx : ThrC X (gC D cI ad) cX10_checkStep 3 2 σ res) (h : fX10_checkStep F σ a0 a1 = some res) : WP X (gC D cI ad) 3 0 0 σ [(0, .ref (ad 0)), (1, .int a0), (2, .int a1)] [] := by
  unfold fX10_checkStep at h
  refine w_aload_n C dX10_checkStep_0 rfl 0 rfl ?_
  refine w_iload_n C dX10_checkStep_1 rfl 1 rfl ?_
  refine bd1_w h (fun t1 hc h => ?_)
  refine w_callXc C hx (n := 1) (As := [.int a0]) (st := []) 0 (Nat.le_of_ble_eq_true rfl) rfl rfl (cfX10_checkDance D cI ad (l := X.2.1) C.2.2.1 hx.1 hc) tw5_12 cy_X10_checkDance (by decide +kernel) ⟨by decide, by decide⟩ (by decide) rfl rfl (Nat.le_of_ble_eq_true rfl) dX10_checkStep_2 rfl h (fun h => ?_)
  refine w_iload_n C dX10_checkStep_5 rfl 2 rfl ?_
  refine jn_w (fun v2 : Unit => WP X (gC D cI ad) 3 1 22 σ [] []) h (fun v2 h => ?_) (fun J3 hJ4 h => ?_)
  · exact w_thcW1 hx (tx := "no such step") 111 (by decide) h (by decide) dX10_checkStep_22 dX10_checkStep_25 dX10_checkStep_26 dX10_checkStep_29 dX10_checkStep_32
  · refine w_if_lt C (qt := 22) dX10_checkStep_6 (by decide) rfl h (fun _ h => ?_) (fun _ h => ?_)
    · exact w_sub (lv' := []) [] rfl (hJ4 (()) h)
    · refine w_iload_n C dX10_checkStep_9 rfl 2 rfl ?_
      refine w_aload_n C dX10_checkStep_10 rfl 0 rfl ?_
      refine w_get C 0 4 (Nat.le_of_ble_eq_true rfl) rfl rfl inB_X10 (by decide) tw2_176 rfl dX10_checkStep_11 rfl ?_
      refine w_get C 2 9 (Nat.le_of_ble_eq_true rfl) rfl rfl inB_X0 (by decide) tw1_99 rfl dX10_checkStep_14 rfl ?_
      refine w_iload_n C dX10_checkStep_17 rfl 1 rfl ?_
      refine w_iald C 7 8 0 (Nat.le_of_ble_eq_true rfl) (fun _ => rfl) rfl h dX10_checkStep_18 rfl (fun h => ?_)
      refine w_icmp_lt C (qt := 33) dX10_checkStep_19 (by decide) rfl h (fun _ h => ?_) (fun _ h => ?_)
      · exact w_rxv hr h (by decide) dX10_checkStep_33
      · exact w_sub (lv' := []) [] rfl (hJ4 (()) h)
theorem cfX10_checkStep (D : va_G) (cI : ClassId) (ad : Nat → Nat) {l : Launch} (had : gAp (gC D cI ad)) (hst : l.stackTraces = false) {F : Nat} {σ : St} {a0 : Int32} {a1 : Int32} {res : Nat} (h : fX10_checkStep F σ a0 a1 = some res) : MC l yX10_checkStep (wB yX10_checkStep cX10_checkStep 3 none) 8 131 2 (gC D cI ad) [.ref (ad 0), .int a0, .int a1] σ res := mk_MC had (by decide +kernel) (Nat.le_of_ble_eq_true rfl) hst rfl (by decide) (by decide) (fun X hX C hr hx => wfX10_checkStep C hr hx h)

def fX10_step (F : Nat) (σ : St) (a0 : Int32) (a1 : Int32) (a2 : Int32) : Option (Nat × Int32 × St) := bd1 (fX10_checkStep F σ a0 a1) fun t1 => if t1 = 0 then (bd1 (fX10_placeOf F σ a0 a1) fun r2 => if a2 = 0 then (ckI (r2) 80 (some (0, σ 8 (Int32.toNatClampNeg r2), σ))) else if a2 = 1 then (ckI (r2) 80 (some (0, σ 9 (Int32.toNatClampNeg r2), σ))) else if a2 = 2 then (ckI (r2) 80 (some (0, σ 33 (Int32.toNatClampNeg r2), σ))) else if a2 = 3 then (ckI (r2) 80 (some (0, σ 11 (Int32.toNatClampNeg r2), σ))) else some (1, 0, σ)) else some (t1, 0, σ)
set_option maxRecDepth 20000 in
theorem wfX10_step {X : XT} {D : va_G} {cI : ClassId} {ad : Nat → Nat} {F : Nat} {σ : St} {a0 : Int32} {a1 : Int32} {a2 : Int32} {res : Nat × Int32 × St} (C : Cx X (gC D cI ad) cX10_step 5 RX10 9 153 3) (hr : RetXi X (gC D cI ad) cX10_step 5 3 res) (hx : ThrX X (gC D cI ad) cX10_step 5 3 res) (h : fX10_step F σ a0 a1 a2 = some res) : WP X (gC D cI ad) 5 0 0 σ [(0, .ref (ad 0)), (1, .int a0), (2, .int a1), (3, .int a2)] [] := by
  unfold fX10_step at h
  refine w_aload_n C dX10_step_0 rfl 0 rfl ?_
  refine w_iload_n C dX10_step_1 rfl 1 rfl ?_
  refine w_iload_n C dX10_step_2 rfl 2 rfl ?_
  refine bd1_w h (fun t1 hc h => ?_)
  refine w_callX C hx (n := 2) (As := [.int a0, .int a1]) (st := []) 0 (Nat.le_of_ble_eq_true rfl) rfl rfl (cfX10_checkStep D cI ad (l := X.2.1) C.2.2.1 hx.1 hc) tw5_37 cy_X10_checkStep (by decide +kernel) ⟨by decide, by decide⟩ (by decide) rfl rfl (Nat.le_of_ble_eq_true rfl) dX10_step_3 rfl h (fun h => ?_)
  refine w_iload_n C dX10_step_6 rfl 1 rfl ?_
  refine w_iload_n C dX10_step_7 rfl 2 rfl ?_
  refine bd1_w h (fun r2 hc h => ?_)
  refine w_callSi C (n := 2) (As := [.int a0, .int a1]) (st := []) (cfX10_placeOf D cI ad (l := X.2.1) C.2.2.1 hc) tw5_42 cs_X10_placeOf (by decide +kernel) ⟨Nat.le_of_ble_eq_true rfl, Nat.le_of_ble_eq_true rfl⟩ (by decide) rfl rfl (Nat.le_of_ble_eq_true rfl) dX10_step_8 rfl ?_
  refine w_istore C [(4, .int r2), (0, .ref (ad 0)), (1, .int a0), (2, .int a1), (3, .int a2)] dX10_step_11 rfl (by decide) rfl ?_
  refine w_iload_n C dX10_step_13 rfl 4 rfl ?_
  refine if_w h (fun e3 h => ?_) (fun e3 h => ?_)
  · refine w_tsIn (q := 44) C 0 e3 dX10_step_14 (by decide) (by decide) rfl (by decide) ?_
    refine w_aload_n C dX10_step_44 rfl 1 rfl ?_
    refine w_get C 0 4 (Nat.le_of_ble_eq_true rfl) rfl rfl inB_X10 (by decide) tw2_176 rfl dX10_step_45 rfl ?_
    refine w_get C 2 10 (Nat.le_of_ble_eq_true rfl) rfl rfl inB_X0 (by decide) tw1_103 rfl dX10_step_48 rfl ?_
    refine w_iload C dX10_step_51 rfl 0 rfl ?_
    refine w_iald C 8 80 0 (Nat.le_of_ble_eq_true rfl) (fun _ => rfl) rfl h dX10_step_53 rfl (fun h => ?_)
    exact w_rxi hr h (by decide) dX10_step_54
  refine if_w h (fun e4 h => ?_) (fun e4 h => ?_)
  · refine w_tsIn (q := 55) C 1 e4 dX10_step_14 (by decide) (by decide) rfl (by decide) ?_
    refine w_aload_n C dX10_step_55 rfl 1 rfl ?_
    refine w_get C 0 4 (Nat.le_of_ble_eq_true rfl) rfl rfl inB_X10 (by decide) tw2_176 rfl dX10_step_56 rfl ?_
    refine w_get C 2 11 (Nat.le_of_ble_eq_true rfl) rfl rfl inB_X0 (by decide) tw1_107 rfl dX10_step_59 rfl ?_
    refine w_iload C dX10_step_62 rfl 0 rfl ?_
    refine w_iald C 9 80 0 (Nat.le_of_ble_eq_true rfl) (fun _ => rfl) rfl h dX10_step_64 rfl (fun h => ?_)
    exact w_rxi hr h (by decide) dX10_step_65
  refine if_w h (fun e5 h => ?_) (fun e5 h => ?_)
  · refine w_tsIn (q := 66) C 2 e5 dX10_step_14 (by decide) (by decide) rfl (by decide) ?_
    refine w_aload_n C dX10_step_66 rfl 1 rfl ?_
    refine w_get C 0 7 (Nat.le_of_ble_eq_true rfl) rfl rfl inB_X10 (by decide) tw2_179 rfl dX10_step_67 rfl ?_
    refine w_get C 30 5 (Nat.le_of_ble_eq_true rfl) rfl rfl inB_X9 (by decide) tw1_206 rfl dX10_step_70 rfl ?_
    refine w_iload C dX10_step_73 rfl 0 rfl ?_
    refine w_iald C 33 80 0 (Nat.le_of_ble_eq_true rfl) (fun _ => rfl) rfl h dX10_step_75 rfl (fun h => ?_)
    exact w_rxi hr h (by decide) dX10_step_76
  refine if_w h (fun e6 h => ?_) (fun e6 h => ?_)
  · refine w_tsIn (q := 77) C 3 e6 dX10_step_14 (by decide) (by decide) rfl (by decide) ?_
    refine w_aload_n C dX10_step_77 rfl 1 rfl ?_
    refine w_get C 0 4 (Nat.le_of_ble_eq_true rfl) rfl rfl inB_X10 (by decide) tw2_176 rfl dX10_step_78 rfl ?_
    refine w_get C 2 13 (Nat.le_of_ble_eq_true rfl) rfl rfl inB_X0 (by decide) tw1_114 rfl dX10_step_81 rfl ?_
    refine w_iload C dX10_step_84 rfl 0 rfl ?_
    refine w_iald C 11 80 0 (Nat.le_of_ble_eq_true rfl) (fun _ => rfl) rfl h dX10_step_86 rfl (fun h => ?_)
    exact w_rxi hr h (by decide) dX10_step_87
  refine w_tsOut (q := 88) C dX10_step_14 (ts_out (x := a2) (0) 3 (by decide) (fun k hk => by
    have hk : k = 0 ∨ k = 1 ∨ k = 2 ∨ k = 3 := by omega
    rcases hk with rfl | rfl | rfl | rfl
    · exact e3
    · exact e4
    · exact e5
    · exact e6)) (by decide) ?_
  exact w_thr1 hx (tx := "no such thing of a step") 103 (by decide) h (by decide) dX10_step_88 dX10_step_91 dX10_step_92 dX10_step_94 dX10_step_97
theorem cfX10_step (D : va_G) (cI : ClassId) (ad : Nat → Nat) {l : Launch} (had : gAp (gC D cI ad)) (hst : l.stackTraces = false) {F : Nat} {σ : St} {a0 : Int32} {a1 : Int32} {a2 : Int32} {res : Nat × Int32 × St} (h : fX10_step F σ a0 a1 a2 = some res) : MX l yX10_step (wB yX10_step cX10_step 5 (some .int)) 9 153 3 (gC D cI ad) [.ref (ad 0), .int a0, .int a1, .int a2] σ res := mk_MX had (by decide +kernel) (Nat.le_of_ble_eq_true rfl) hst rfl (by decide) (by decide) (fun X hX C hr hx => wfX10_step C hr hx h)

def fX10_checkBelow (F : Nat) (σ : St) (a0 : Int32) (a1 : Int32) : Option Nat := jn (fun v1 : Unit => some 1) fun J2 => if a0 < 0 then (J2 (())) else if a0 < a1 then (some 0) else J2 (())
set_option maxRecDepth 20000 in
theorem wfX10_checkBelow {X : XT} {D : va_G} {cI : ClassId} {ad : Nat → Nat} {F : Nat} {σ : St} {a0 : Int32} {a1 : Int32} {res : Nat} (C : Cx X (gC D cI ad) cX10_checkBelow 3 RX10 7 110 1) (hr : RetXv X (gC D cI ad) cX10_checkBelow 3 1 σ res) (hx : ThrC X (gC D cI ad) cX10_checkBelow 3 1 σ res) (h : fX10_checkBelow F σ a0 a1 = some res) : WP X (gC D cI ad) 3 0 0 σ [(0, .ref (ad 0)), (1, .int a0), (2, .int a1)] [] := by
  unfold fX10_checkBelow at h
  refine w_iload_n C dX10_checkBelow_0 rfl 1 rfl ?_
  refine jn_w (fun v1 : Unit => WP X (gC D cI ad) 3 0 9 σ [] []) h (fun v1 h => ?_) (fun J2 hJ3 h => ?_)
  · exact w_thcW1 hx (tx := "no such thing") 112 (by decide) h (by decide) dX10_checkBelow_9 dX10_checkBelow_12 dX10_checkBelow_13 dX10_checkBelow_16 dX10_checkBelow_19
  · refine w_if_lt C (qt := 9) dX10_checkBelow_1 (by decide) rfl h (fun _ h => ?_) (fun _ h => ?_)
    · exact w_sub (lv' := []) [] rfl (hJ3 (()) h)
    · refine w_iload_n C dX10_checkBelow_4 rfl 1 rfl ?_
      refine w_iload_n C dX10_checkBelow_5 rfl 2 rfl ?_
      refine w_icmp_lt C (qt := 20) dX10_checkBelow_6 (by decide) rfl h (fun _ h => ?_) (fun _ h => ?_)
      · exact w_rxv hr h (by decide) dX10_checkBelow_20
      · exact w_sub (lv' := []) [] rfl (hJ3 (()) h)
theorem cfX10_checkBelow (D : va_G) (cI : ClassId) (ad : Nat → Nat) {l : Launch} (had : gAp (gC D cI ad)) (hst : l.stackTraces = false) {F : Nat} {σ : St} {a0 : Int32} {a1 : Int32} {res : Nat} (h : fX10_checkBelow F σ a0 a1 = some res) : MC l yX10_checkBelow (wB yX10_checkBelow cX10_checkBelow 3 none) 7 110 1 (gC D cI ad) [.ref (ad 0), .int a0, .int a1] σ res := mk_MC had (by decide +kernel) (Nat.le_of_ble_eq_true rfl) hst rfl (by decide) (by decide) (fun X hX C hr hx => wfX10_checkBelow C hr hx h)

def fX10_where (F : Nat) (σ : St) (a0 : Int32) (a1 : Int32) (a2 : Int32) (a3 : Int32) : Option (Nat × Int32 × St) := bd1 (fX10_checkDance F σ a0) fun t1 => if t1 = 0 then (jn (fun v2 : Unit => bd1 (fX10_checkBelow F σ a2 2) fun t5 => if t5 = 0 then (bd1 (fX10_checkBelow F σ a3 3) fun t6 => if t6 = 0 then (bd1 (fX2_prepare F σ a0 0) fun u7 => bd1 (fX3_begin F u7 (u7 2 2)) fun u8 => bd2 (fX2_walk F u8 0 (a1 + 1)) fun r9 u10 => if r9 = (-1 : Int32) then (if a3 = 0 then (ckI (a2) 2 (some (0, u10 68 (Int32.toNatClampNeg a2), u10))) else if a3 = (1 : Int32) then (ckI (a2) 2 (some (0, u10 69 (Int32.toNatClampNeg a2), u10))) else ckI (a2) 2 (some (0, u10 70 (Int32.toNatClampNeg a2), u10))) else some (1, 0, u10)) else some (t6, 0, σ)) else some (t5, 0, σ)) fun J3 => if a1 = (-1 : Int32) then (J3 (())) else bd1 (fX10_checkStep F σ a0 a1) fun t11 => if t11 = 0 then (J3 (())) else some (t11, 0, σ)) else some (t1, 0, σ)
set_option maxRecDepth 20000 in
theorem wfX10_where {X : XT} {D : va_G} {cI : ClassId} {ad : Nat → Nat} {F : Nat} {σ : St} {a0 : Int32} {a1 : Int32} {a2 : Int32} {a3 : Int32} {res : Nat × Int32 × St} (C : Cx X (gC D cI ad) cX10_where 5 RX10 9 153 6) (hr : RetXi X (gC D cI ad) cX10_where 5 6 res) (hx : ThrX X (gC D cI ad) cX10_where 5 6 res) (h : fX10_where F σ a0 a1 a2 a3 = some res) : WP X (gC D cI ad) 5 0 0 σ [(0, .ref (ad 0)), (1, .int a0), (2, .int a1), (3, .int a2), (4, .int a3)] [] := by
  unfold fX10_where at h
  refine w_aload_n C dX10_where_0 rfl 0 rfl ?_
  refine w_iload_n C dX10_where_1 rfl 1 rfl ?_
  refine bd1_w h (fun t1 hc h => ?_)
  refine w_callX C hx (n := 1) (As := [.int a0]) (st := []) 0 (Nat.le_of_ble_eq_true rfl) rfl rfl (cfX10_checkDance D cI ad (l := X.2.1) C.2.2.1 hx.1 hc) tw5_12 cy_X10_checkDance (by decide +kernel) ⟨by decide, by decide⟩ (by decide) rfl rfl (Nat.le_of_ble_eq_true rfl) dX10_where_2 rfl h (fun h => ?_)
  refine w_iload_n C dX10_where_5 rfl 2 rfl ?_
  refine w_iconst C (-1) dX10_where_6 rfl (by decide) ?_
  refine jn_w (fun v2 : Unit => WP X (gC D cI ad) 5 3 16 σ [(0, .ref (ad 0)), (1, .int a0), (2, .int a1), (3, .int a2), (4, .int a3)] []) h (fun v2 h => ?_) (fun J3 hJ4 h => ?_)
  · refine w_aload_n C dX10_where_16 rfl 0 rfl ?_
    refine w_iload_n C dX10_where_17 rfl 3 rfl ?_
    refine w_iconst C 2 dX10_where_18 rfl (by decide) ?_
    refine bd1_w h (fun t5 hc h => ?_)
    refine w_callX C hx (n := 2) (As := [.int a2, .int 2]) (st := []) 0 (Nat.le_of_ble_eq_true rfl) rfl rfl (cfX10_checkBelow D cI ad (l := X.2.1) C.2.2.1 hx.1 hc) tw5_51 cy_X10_checkBelow (by decide +kernel) ⟨by decide, by decide⟩ (by decide) rfl rfl (Nat.le_of_ble_eq_true rfl) dX10_where_19 rfl h (fun h => ?_)
    refine w_aload_n C dX10_where_22 rfl 0 rfl ?_
    refine w_iload C dX10_where_23 rfl 4 rfl ?_
    refine w_iconst C 3 dX10_where_25 rfl (by decide) ?_
    refine bd1_w h (fun t6 hc h => ?_)
    refine w_callX C hx (n := 2) (As := [.int a3, .int 3]) (st := []) 0 (Nat.le_of_ble_eq_true rfl) rfl rfl (cfX10_checkBelow D cI ad (l := X.2.1) C.2.2.1 hx.1 hc) tw5_51 cy_X10_checkBelow (by decide +kernel) ⟨by decide, by decide⟩ (by decide) rfl rfl (Nat.le_of_ble_eq_true rfl) dX10_where_26 rfl h (fun h => ?_)
    refine w_aload_n C dX10_where_29 rfl 0 rfl ?_
    refine w_get C 0 10 (Nat.le_of_ble_eq_true rfl) rfl rfl inB_X10 (by decide) tw2_182 rfl dX10_where_30 rfl ?_
    refine w_aload_n C dX10_where_33 rfl 0 rfl ?_
    refine w_get C 0 7 (Nat.le_of_ble_eq_true rfl) rfl rfl inB_X10 (by decide) tw2_179 rfl dX10_where_34 rfl ?_
    refine w_iload_n C dX10_where_37 rfl 1 rfl ?_
    refine w_iconst C 0 dX10_where_38 rfl (by decide) ?_
    refine bd1_w h (fun u7 hc h => ?_)
    refine w_callVv C (n := 3) (As := [.ref (ad 30), .int a0, .int 0]) (st := []) 66 (Nat.le_of_ble_eq_true rfl) rfl rfl (cfX2_prepare D cI ad (l := X.2.1) C.2.2.1 hc) tw5_23 cy_X2_prepare (by decide +kernel) ⟨Nat.le_of_ble_eq_true rfl, Nat.le_of_ble_eq_true rfl⟩ (by decide) rfl rfl (Nat.le_of_ble_eq_true rfl) dX10_where_39 rfl ?_
    refine w_aload_n C dX10_where_42 rfl 0 rfl ?_
    refine w_get C 0 10 (Nat.le_of_ble_eq_true rfl) rfl rfl inB_X10 (by decide) tw2_182 rfl dX10_where_43 rfl ?_
    refine w_get C 66 1 (Nat.le_of_ble_eq_true rfl) rfl rfl inB_X2 (by decide) tw2_42 rfl dX10_where_46 rfl ?_
    refine w_aload_n C dX10_where_49 rfl 0 rfl ?_
    refine w_get C 0 4 (Nat.le_of_ble_eq_true rfl) rfl rfl inB_X10 (by decide) tw2_176 rfl dX10_where_50 rfl ?_
    refine w_get C 2 2 (Nat.le_of_ble_eq_true rfl) rfl rfl inB_X0 (by decide) tw1_72 rfl dX10_where_53 rfl ?_
    refine bd1_w h (fun u8 hc h => ?_)
    refine w_callVv C (n := 1) (As := [.int (u7 2 2)]) (st := []) 67 (Nat.le_of_ble_eq_true rfl) rfl rfl (cfX3_begin D cI ad (l := X.2.1) C.2.2.1 hc) tw5_56 cy_X3_begin (by decide +kernel) ⟨Nat.le_of_ble_eq_true rfl, Nat.le_of_ble_eq_true rfl⟩ (by decide) rfl rfl (Nat.le_of_ble_eq_true rfl) dX10_where_56 rfl ?_
    refine w_aload_n C dX10_where_59 rfl 0 rfl ?_
    refine w_get C 0 10 (Nat.le_of_ble_eq_true rfl) rfl rfl inB_X10 (by decide) tw2_182 rfl dX10_where_60 rfl ?_
    refine w_iconst C 0 dX10_where_63 rfl (by decide) ?_
    refine w_iload_n C dX10_where_64 rfl 2 rfl ?_
    refine w_iconst C 1 dX10_where_65 rfl (by decide) ?_
    refine w_iadd C dX10_where_66 rfl ?_
    refine bd2_w h (fun r9 u10 hc h => ?_)
    refine w_callVi C (n := 2) (As := [.int 0, .int (a1 + 1)]) (st := []) 66 (Nat.le_of_ble_eq_true rfl) rfl rfl (cfX2_walk D cI ad (l := X.2.1) C.2.2.1 hc) tw5_57 cy_X2_walk (by decide +kernel) ⟨Nat.le_of_ble_eq_true rfl, Nat.le_of_ble_eq_true rfl⟩ (by decide) rfl rfl (Nat.le_of_ble_eq_true rfl) dX10_where_67 rfl ?_
    refine w_iconst C (-1) dX10_where_70 rfl (by decide) ?_
    refine w_icmp_eq C (qt := 84) dX10_where_71 (by decide) rfl h (fun _ h => ?_) (fun _ h => ?_)
    · refine w_iload C dX10_where_84 rfl 4 rfl ?_
      refine w_if_ne C (qt := 102) dX10_where_86 (by decide) rfl h (fun _ h => ?_) (fun _ h => ?_)
      · refine w_iload C dX10_where_102 rfl 4 rfl ?_
        refine w_iconst C 1 dX10_where_104 rfl (by decide) ?_
        refine w_icmp_ne C (qt := 123) dX10_where_105 (by decide) rfl h (fun _ h => ?_) (fun _ h => ?_)
        · refine w_aload_n C dX10_where_123 rfl 0 rfl ?_
          refine w_get C 0 10 (Nat.le_of_ble_eq_true rfl) rfl rfl inB_X10 (by decide) tw2_182 rfl dX10_where_124 rfl ?_
          refine w_get C 66 1 (Nat.le_of_ble_eq_true rfl) rfl rfl inB_X2 (by decide) tw2_42 rfl dX10_where_127 rfl ?_
          refine w_get C 67 2 (Nat.le_of_ble_eq_true rfl) rfl rfl inB_X3 (by decide) tw2_31 rfl dX10_where_130 rfl ?_
          refine w_iload_n C dX10_where_133 rfl 3 rfl ?_
          refine w_iald C 70 2 0 (Nat.le_of_ble_eq_true rfl) (fun _ => rfl) rfl h dX10_where_134 rfl (fun h => ?_)
          exact w_rxi hr h (by decide) dX10_where_135
        · refine w_aload_n C dX10_where_108 rfl 0 rfl ?_
          refine w_get C 0 10 (Nat.le_of_ble_eq_true rfl) rfl rfl inB_X10 (by decide) tw2_182 rfl dX10_where_109 rfl ?_
          refine w_get C 66 1 (Nat.le_of_ble_eq_true rfl) rfl rfl inB_X2 (by decide) tw2_42 rfl dX10_where_112 rfl ?_
          refine w_get C 67 1 (Nat.le_of_ble_eq_true rfl) rfl rfl inB_X3 (by decide) tw2_28 rfl dX10_where_115 rfl ?_
          refine w_iload_n C dX10_where_118 rfl 3 rfl ?_
          refine w_iald C 69 2 0 (Nat.le_of_ble_eq_true rfl) (fun _ => rfl) rfl h dX10_where_119 rfl (fun h => ?_)
          refine w_goto (q := 135) C dX10_where_120 (by decide) ?_
          exact w_rxi hr h (by decide) dX10_where_135
      · refine w_aload_n C dX10_where_89 rfl 0 rfl ?_
        refine w_get C 0 10 (Nat.le_of_ble_eq_true rfl) rfl rfl inB_X10 (by decide) tw2_182 rfl dX10_where_90 rfl ?_
        refine w_get C 66 1 (Nat.le_of_ble_eq_true rfl) rfl rfl inB_X2 (by decide) tw2_42 rfl dX10_where_93 rfl ?_
        refine w_get C 67 0 (Nat.le_of_ble_eq_true rfl) rfl rfl inB_X3 (by decide) tw2_25 rfl dX10_where_96 rfl ?_
        refine w_iload_n C dX10_where_99 rfl 3 rfl ?_
        refine w_iald C 68 2 0 (Nat.le_of_ble_eq_true rfl) (fun _ => rfl) rfl h dX10_where_100 rfl (fun h => ?_)
        exact w_rxi hr h (by decide) dX10_where_101
    · exact w_thr1 hx (tx := "that step isn\'t come to") 104 (by decide) h (by decide) dX10_where_74 dX10_where_77 dX10_where_78 dX10_where_80 dX10_where_83
  · refine w_icmp_eq C (qt := 16) dX10_where_7 (by decide) rfl h (fun _ h => ?_) (fun _ h => ?_)
    · refine w_wid (k := 3) (by decide) ?_
      exact w_sub (lv' := [(0, .ref (ad 0)), (1, .int a0), (2, .int a1), (3, .int a2), (4, .int a3)]) [0, 1, 2, 3, 4] rfl (hJ4 (()) h)
    · refine w_aload_n C dX10_where_10 rfl 0 rfl ?_
      refine w_iload_n C dX10_where_11 rfl 1 rfl ?_
      refine w_iload_n C dX10_where_12 rfl 2 rfl ?_
      refine bd1_w h (fun t11 hc h => ?_)
      refine w_callX C hx (n := 2) (As := [.int a0, .int a1]) (st := []) 0 (Nat.le_of_ble_eq_true rfl) rfl rfl (cfX10_checkStep D cI ad (l := X.2.1) C.2.2.1 hx.1 hc) tw5_37 cy_X10_checkStep (by decide +kernel) ⟨by decide, by decide⟩ (by decide) rfl rfl (Nat.le_of_ble_eq_true rfl) dX10_where_13 rfl h (fun h => ?_)
      exact w_sub (lv' := [(0, .ref (ad 0)), (1, .int a0), (2, .int a1), (3, .int a2), (4, .int a3)]) [0, 1, 2, 3, 4] rfl (hJ4 (()) h)
theorem cfX10_where (D : va_G) (cI : ClassId) (ad : Nat → Nat) {l : Launch} (had : gAp (gC D cI ad)) (hst : l.stackTraces = false) {F : Nat} {σ : St} {a0 : Int32} {a1 : Int32} {a2 : Int32} {a3 : Int32} {res : Nat × Int32 × St} (h : fX10_where F σ a0 a1 a2 a3 = some res) : MX l yX10_where (wB yX10_where cX10_where 5 (some .int)) 9 153 6 (gC D cI ad) [.ref (ad 0), .int a0, .int a1, .int a2, .int a3] σ res := mk_MX had (by decide +kernel) (Nat.le_of_ble_eq_true rfl) hst rfl (by decide) (by decide) (fun X hX C hr hx => wfX10_where C hr hx h)

def fX10_bound (F : Nat) (σ : St) (a0 : Int32) (a1 : Int32) : Option (Nat × Int32 × St) := bd1 (fX10_checkValley F σ a0) fun t1 => if t1 = 0 then (bd1 (fX10_checkBelow F σ a1 8) fun t2 => if t2 = 0 then (bd2 (fX2_bindingBits F σ 0) fun r3 u4 => bd1 (fX6_weighAll F u4 r3) fun u5 => bd1 (fX6_boundTo F u5 a0 a1) fun r6 => some (0, r6, u5)) else some (t2, 0, σ)) else some (t1, 0, σ)
set_option maxRecDepth 20000 in
theorem wfX10_bound {X : XT} {D : va_G} {cI : ClassId} {ad : Nat → Nat} {F : Nat} {σ : St} {a0 : Int32} {a1 : Int32} {res : Nat × Int32 × St} (C : Cx X (gC D cI ad) cX10_bound 3 RX10 8 140 2) (hr : RetXi X (gC D cI ad) cX10_bound 3 2 res) (hx : ThrX X (gC D cI ad) cX10_bound 3 2 res) (h : fX10_bound F σ a0 a1 = some res) : WP X (gC D cI ad) 3 0 0 σ [(0, .ref (ad 0)), (1, .int a0), (2, .int a1)] [] := by
  unfold fX10_bound at h
  refine w_aload_n C dX10_bound_0 rfl 0 rfl ?_
  refine w_iload_n C dX10_bound_1 rfl 1 rfl ?_
  refine bd1_w h (fun t1 hc h => ?_)
  refine w_callX C hx (n := 1) (As := [.int a0]) (st := []) 0 (Nat.le_of_ble_eq_true rfl) rfl rfl (cfX10_checkValley D cI ad (l := X.2.1) C.2.2.1 hx.1 hc) tw5_0 cy_X10_checkValley (by decide +kernel) ⟨by decide, by decide⟩ (by decide) rfl rfl (Nat.le_of_ble_eq_true rfl) dX10_bound_2 rfl h (fun h => ?_)
  refine w_aload_n C dX10_bound_5 rfl 0 rfl ?_
  refine w_iload_n C dX10_bound_6 rfl 2 rfl ?_
  refine w_bipush C 8 dX10_bound_7 rfl (by decide) ?_
  refine bd1_w h (fun t2 hc h => ?_)
  refine w_callX C hx (n := 2) (As := [.int a1, .int 8]) (st := []) 0 (Nat.le_of_ble_eq_true rfl) rfl rfl (cfX10_checkBelow D cI ad (l := X.2.1) C.2.2.1 hx.1 hc) tw5_51 cy_X10_checkBelow (by decide +kernel) ⟨by decide, by decide⟩ (by decide) rfl rfl (Nat.le_of_ble_eq_true rfl) dX10_bound_9 rfl h (fun h => ?_)
  refine w_aload_n C dX10_bound_12 rfl 0 rfl ?_
  refine w_get C 0 12 (Nat.le_of_ble_eq_true rfl) rfl rfl inB_X10 (by decide) tw2_184 rfl dX10_bound_13 rfl ?_
  refine w_aload_n C dX10_bound_16 rfl 0 rfl ?_
  refine w_get C 0 10 (Nat.le_of_ble_eq_true rfl) rfl rfl inB_X10 (by decide) tw2_182 rfl dX10_bound_17 rfl ?_
  refine w_aload_n C dX10_bound_20 rfl 0 rfl ?_
  refine w_get C 0 7 (Nat.le_of_ble_eq_true rfl) rfl rfl inB_X10 (by decide) tw2_179 rfl dX10_bound_21 rfl ?_
  refine w_iconst C 0 dX10_bound_24 rfl (by decide) ?_
  refine bd2_w h (fun r3 u4 hc h => ?_)
  refine w_callVi C (n := 2) (As := [.ref (ad 30), .int 0]) (st := [.ref (ad 81)]) 66 (Nat.le_of_ble_eq_true rfl) rfl rfl (cfX2_bindingBits D cI ad (l := X.2.1) C.2.2.1 hc) tw4_88 cy_X2_bindingBits (by decide +kernel) ⟨Nat.le_of_ble_eq_true rfl, Nat.le_of_ble_eq_true rfl⟩ (by decide) rfl rfl (Nat.le_of_ble_eq_true rfl) dX10_bound_25 rfl ?_
  refine bd1_w h (fun u5 hc h => ?_)
  refine w_callVv C (n := 1) (As := [.int r3]) (st := []) 81 (Nat.le_of_ble_eq_true rfl) rfl rfl (cfX6_weighAll D cI ad (l := X.2.1) C.2.2.1 hc) tw4_149 cy_X6_weighAll (by decide +kernel) ⟨Nat.le_of_ble_eq_true rfl, Nat.le_of_ble_eq_true rfl⟩ (by decide) rfl rfl (Nat.le_of_ble_eq_true rfl) dX10_bound_28 rfl ?_
  refine w_aload_n C dX10_bound_31 rfl 0 rfl ?_
  refine w_get C 0 12 (Nat.le_of_ble_eq_true rfl) rfl rfl inB_X10 (by decide) tw2_184 rfl dX10_bound_32 rfl ?_
  refine w_iload_n C dX10_bound_35 rfl 1 rfl ?_
  refine w_iload_n C dX10_bound_36 rfl 2 rfl ?_
  refine bd1_w h (fun r6 hc h => ?_)
  refine w_callVi C (n := 2) (As := [.int a0, .int a1]) (st := []) 81 (Nat.le_of_ble_eq_true rfl) rfl rfl (cfX6_boundTo D cI ad (l := X.2.1) C.2.2.1 hc) tw5_66 cy_X6_boundTo (by decide +kernel) ⟨Nat.le_of_ble_eq_true rfl, Nat.le_of_ble_eq_true rfl⟩ (by decide) rfl rfl (Nat.le_of_ble_eq_true rfl) dX10_bound_37 rfl ?_
  exact w_rxi hr h (by decide) dX10_bound_40
theorem cfX10_bound (D : va_G) (cI : ClassId) (ad : Nat → Nat) {l : Launch} (had : gAp (gC D cI ad)) (hst : l.stackTraces = false) {F : Nat} {σ : St} {a0 : Int32} {a1 : Int32} {res : Nat × Int32 × St} (h : fX10_bound F σ a0 a1 = some res) : MX l yX10_bound (wB yX10_bound cX10_bound 3 (some .int)) 8 140 2 (gC D cI ad) [.ref (ad 0), .int a0, .int a1] σ res := mk_MX had (by decide +kernel) (Nat.le_of_ble_eq_true rfl) hst rfl (by decide) (by decide) (fun X hX C hr hx => wfX10_bound C hr hx h)

def fX6_countIn (F : Nat) (σ : St) (a0 : Int32) (a1 : Int32) (a2 : Int32) : Option Int32 := lp (fun (K2 : (Int32 × Int32) → Option Int32) (v1 : Int32 × Int32) => ckI (a0) 8 (if (σ 7 (Int32.toNatClampNeg a0)) ≤ v1.1 then (some v1.2) else bd1 (fX10_placeOf F σ a0 v1.1) fun r4 => ckI (r4) 80 (nm (σ 8 (Int32.toNatClampNeg r4)) fun x5 => jn (fun v6 : Int32 => if v6 = 0 then (nm (v1.2 + 0) fun x9 => K2 ((v1.1 + 1, x9))) else nm (v1.2 + 1) fun x10 => K2 ((v1.1 + 1, x10))) fun J7 => jn (fun v11 : Unit => J7 1) fun J12 => jn (fun v14 : Unit => jn (fun v17 : Unit => jn (fun v20 : Unit => J7 0) fun J21 => if a2 = (2 : Int32) then (if x5 = (3 : Int32) then (bd1 (fX0_isOf F σ a0 v1.1 a1) fun r23 => if r23 = 0 then (J21 (())) else J12 (())) else J21 (())) else J21 (())) fun J18 => if a2 = (1 : Int32) then (if x5 = (2 : Int32) then (bd1 (fX6_isClause F σ a0 v1.1) fun r24 => if r24 = 0 then (J18 (())) else bd1 (fX0_isOf F σ a0 v1.1 a1) fun r25 => if r25 = 0 then (J12 (())) else J18 (())) else J18 (())) else J18 (())) fun J15 => if a2 = 0 then (bd1 (fX6_isBoundBy F σ a0 v1.1 a1) fun r26 => if r26 = 0 then (J15 (())) else J12 (())) else J15 (())))) F ((0, 0))
set_option maxRecDepth 20000 in
theorem wfX6_countIn {X : XT} {D : va_G} {cI : ClassId} {ad : Nat → Nat} {F : Nat} {σ : St} {a0 : Int32} {a1 : Int32} {a2 : Int32} {r : Int32} (C : Cx X (gC D cI ad) cX6_countIn 8 RX6 4 93 0) (hr : RetI X (gC D cI ad) cX6_countIn 8 0 r σ) (h : fX6_countIn F σ a0 a1 a2 = some r) : WP X (gC D cI ad) 8 0 0 σ [(0, .ref (ad 81)), (1, .int a0), (2, .int a1), (3, .int a2)] [] := by
  unfold fX6_countIn at h
  refine w_iconst C 0 dX6_countIn_0 rfl (by decide) ?_
  refine w_istore C [(4, .int 0), (0, .ref (ad 81)), (1, .int a0), (2, .int a1), (3, .int a2)] dX6_countIn_1 rfl (by decide) rfl ?_
  refine w_iconst C 0 dX6_countIn_3 rfl (by decide) ?_
  refine w_istore C [(5, .int 0), (4, .int 0), (0, .ref (ad 81)), (1, .int a0), (2, .int a1), (3, .int a2)] dX6_countIn_4 rfl (by decide) rfl ?_
  refine w_sub (lv' := [(5, .int 0), (4, .int 0), (0, .ref (ad 81)), (1, .int a0), (2, .int a1), (3, .int a2)]) [0, 1, 2, 3, 4, 5] rfl ?_
  refine lp_w (fun v1 : Int32 × Int32 => WP X (gC D cI ad) 8 0 6 σ [(5, .int v1.1), (4, .int v1.2), (0, .ref (ad 81)), (1, .int a0), (2, .int a1), (3, .int a2)] []) (fun K2 hK3 v1 h => ?_) F _ h
  refine w_iload C dX6_countIn_6 rfl 0 rfl ?_
  refine w_aload_n C dX6_countIn_8 rfl 2 rfl ?_
  refine w_get C 81 0 (Nat.le_of_ble_eq_true rfl) rfl rfl inB_X6 (by decide) tw2_101 rfl dX6_countIn_9 rfl ?_
  refine w_get C 2 9 (Nat.le_of_ble_eq_true rfl) rfl rfl inB_X0 (by decide) tw1_97 rfl dX6_countIn_12 rfl ?_
  refine w_iload_n C dX6_countIn_15 rfl 3 rfl ?_
  refine w_iald C 7 8 0 (Nat.le_of_ble_eq_true rfl) (fun _ => rfl) rfl h dX6_countIn_16 rfl (fun h => ?_)
  refine w_icmp_ge C (qt := 139) dX6_countIn_17 (by decide) rfl h (fun _ h => ?_) (fun _ h => ?_)
  · refine w_iload C dX6_countIn_139 rfl 1 rfl ?_
    exact w_ri1 hr h (by decide) dX6_countIn_141
  · refine w_aload_n C dX6_countIn_20 rfl 2 rfl ?_
    refine w_get C 81 0 (Nat.le_of_ble_eq_true rfl) rfl rfl inB_X6 (by decide) tw2_101 rfl dX6_countIn_21 rfl ?_
    refine w_get C 2 10 (Nat.le_of_ble_eq_true rfl) rfl rfl inB_X0 (by decide) tw1_102 rfl dX6_countIn_24 rfl ?_
    refine w_iload_n C dX6_countIn_27 rfl 3 rfl ?_
    refine w_iload C dX6_countIn_28 rfl 0 rfl ?_
    refine bd1_w h (fun r4 hc h => ?_)
    refine w_callNi C (n := 2) (As := [.int a0, .int v1.1]) (st := [.ref (ad 8)]) (host := RX10) (cfX10_placeOf D cI ad (l := X.2.1) C.2.2.1 hc) (by decide +kernel) cs_X10_placeOf (by decide +kernel) ⟨Nat.le_of_ble_eq_true rfl, Nat.le_of_ble_eq_true rfl⟩ (by decide) rfl rfl (Nat.le_of_ble_eq_true rfl) dX6_countIn_30 rfl ?_
    refine w_iald C 8 80 0 (Nat.le_of_ble_eq_true rfl) (fun _ => rfl) rfl h dX6_countIn_33 rfl (fun h => ?_)
    refine w_nm h (fun x5 h => ?_)
    refine w_istore C [(6, .int x5), (5, .int v1.1), (4, .int v1.2), (0, .ref (ad 81)), (1, .int a0), (2, .int a1), (3, .int a2)] dX6_countIn_34 rfl (by decide) rfl ?_
    refine w_iload_n C dX6_countIn_36 rfl 6 rfl ?_
    refine jn_w (fun v6 : Int32 => WP X (gC D cI ad) 8 0 116 σ [(5, .int v1.1), (4, .int v1.2), (0, .ref (ad 81)), (1, .int a0), (2, .int a1), (3, .int a2)] [.int v6]) h (fun v6 h => ?_) (fun J7 hJ8 h => ?_)
    · refine w_istore C [(7, .int v6), (5, .int v1.1), (4, .int v1.2), (0, .ref (ad 81)), (1, .int a0), (2, .int a1), (3, .int a2)] dX6_countIn_116 rfl (by decide) rfl ?_
      refine w_iload C dX6_countIn_118 rfl 2 rfl ?_
      refine w_iload C dX6_countIn_120 rfl 0 rfl ?_
      refine w_if_eq C (qt := 129) dX6_countIn_122 (by decide) rfl h (fun _ h => ?_) (fun _ h => ?_)
      · refine w_iconst C 0 dX6_countIn_129 rfl (by decide) ?_
        refine w_iadd C dX6_countIn_130 rfl ?_
        refine w_nm h (fun x9 h => ?_)
        refine w_istore C [(4, .int x9), (7, .int v6), (5, .int v1.1), (0, .ref (ad 81)), (1, .int a0), (2, .int a1), (3, .int a2)] dX6_countIn_131 rfl (by decide) rfl ?_
        refine w_iinc (j := 2) C (v1.1 + 1) [(5, .int (v1.1 + 1)), (4, .int x9), (7, .int v6), (0, .ref (ad 81)), (1, .int a0), (2, .int a1), (3, .int a2)] dX6_countIn_133 rfl rfl rfl (by decide) rfl ?_
        refine w_goto (q := 6) C dX6_countIn_136 (by decide) ?_
        exact w_sub (lv' := [(5, .int (v1.1 + 1)), (4, .int x9), (0, .ref (ad 81)), (1, .int a0), (2, .int a1), (3, .int a2)]) [0, 1, 3, 4, 5, 6] rfl (hK3 ((v1.1 + 1, x9)) h)
      · refine w_iconst C 1 dX6_countIn_125 rfl (by decide) ?_
        refine w_goto (q := 130) C dX6_countIn_126 (by decide) ?_
        refine w_iadd C dX6_countIn_130 rfl ?_
        refine w_nm h (fun x10 h => ?_)
        refine w_istore C [(4, .int x10), (7, .int v6), (5, .int v1.1), (0, .ref (ad 81)), (1, .int a0), (2, .int a1), (3, .int a2)] dX6_countIn_131 rfl (by decide) rfl ?_
        refine w_iinc (j := 2) C (v1.1 + 1) [(5, .int (v1.1 + 1)), (4, .int x10), (7, .int v6), (0, .ref (ad 81)), (1, .int a0), (2, .int a1), (3, .int a2)] dX6_countIn_133 rfl rfl rfl (by decide) rfl ?_
        refine w_goto (q := 6) C dX6_countIn_136 (by decide) ?_
        exact w_sub (lv' := [(5, .int (v1.1 + 1)), (4, .int x10), (0, .ref (ad 81)), (1, .int a0), (2, .int a1), (3, .int a2)]) [0, 1, 3, 4, 5, 6] rfl (hK3 ((v1.1 + 1, x10)) h)
    · refine jn_w (fun v11 : Unit => WP X (gC D cI ad) 8 0 111 σ [(5, .int v1.1), (4, .int v1.2), (0, .ref (ad 81)), (1, .int a0), (2, .int a1), (3, .int a2)] []) h (fun v11 h => ?_) (fun J12 hJ13 h => ?_)
      · refine w_iconst C 1 dX6_countIn_111 rfl (by decide) ?_
        refine w_goto (q := 116) C dX6_countIn_112 (by decide) ?_
        exact w_sub (lv' := [(5, .int v1.1), (4, .int v1.2), (0, .ref (ad 81)), (1, .int a0), (2, .int a1), (3, .int a2)]) [0, 1, 2, 3, 4, 5] rfl (hJ8 1 h)
      · refine jn_w (fun v14 : Unit => WP X (gC D cI ad) 8 0 51 σ [(6, .int x5), (5, .int v1.1), (4, .int v1.2), (0, .ref (ad 81)), (1, .int a0), (2, .int a1), (3, .int a2)] []) h (fun v14 h => ?_) (fun J15 hJ16 h => ?_)
        · refine w_iload_n C dX6_countIn_51 rfl 6 rfl ?_
          refine w_iconst C 1 dX6_countIn_52 rfl (by decide) ?_
          refine jn_w (fun v17 : Unit => WP X (gC D cI ad) 8 0 86 σ [(6, .int x5), (5, .int v1.1), (4, .int v1.2), (0, .ref (ad 81)), (1, .int a0), (2, .int a1), (3, .int a2)] []) h (fun v17 h => ?_) (fun J18 hJ19 h => ?_)
          · refine w_iload_n C dX6_countIn_86 rfl 6 rfl ?_
            refine w_iconst C 2 dX6_countIn_87 rfl (by decide) ?_
            refine jn_w (fun v20 : Unit => WP X (gC D cI ad) 8 0 115 σ [(5, .int v1.1), (4, .int v1.2), (0, .ref (ad 81)), (1, .int a0), (2, .int a1), (3, .int a2)] []) h (fun v20 h => ?_) (fun J21 hJ22 h => ?_)
            · refine w_iconst C 0 dX6_countIn_115 rfl (by decide) ?_
              exact w_sub (lv' := [(5, .int v1.1), (4, .int v1.2), (0, .ref (ad 81)), (1, .int a0), (2, .int a1), (3, .int a2)]) [0, 1, 2, 3, 4, 5] rfl (hJ8 0 h)
            · refine w_icmp_ne C (qt := 115) dX6_countIn_88 (by decide) rfl h (fun _ h => ?_) (fun _ h => ?_)
              · exact w_sub (lv' := [(5, .int v1.1), (4, .int v1.2), (0, .ref (ad 81)), (1, .int a0), (2, .int a1), (3, .int a2)]) [1, 2, 3, 4, 5, 6] rfl (hJ22 (()) h)
              · refine w_iload C dX6_countIn_91 rfl 0 rfl ?_
                refine w_iconst C 3 dX6_countIn_93 rfl (by decide) ?_
                refine w_icmp_ne C (qt := 115) dX6_countIn_94 (by decide) rfl h (fun _ h => ?_) (fun _ h => ?_)
                · exact w_sub (lv' := [(5, .int v1.1), (4, .int v1.2), (0, .ref (ad 81)), (1, .int a0), (2, .int a1), (3, .int a2)]) [1, 2, 3, 4, 5, 6] rfl (hJ22 (()) h)
                · refine w_aload_n C dX6_countIn_97 rfl 3 rfl ?_
                  refine w_get C 81 0 (Nat.le_of_ble_eq_true rfl) rfl rfl inB_X6 (by decide) tw2_101 rfl dX6_countIn_98 rfl ?_
                  refine w_iload_n C dX6_countIn_101 rfl 4 rfl ?_
                  refine w_iload C dX6_countIn_102 rfl 1 rfl ?_
                  refine w_iload_n C dX6_countIn_104 rfl 5 rfl ?_
                  refine bd1_w h (fun r23 hc h => ?_)
                  refine w_callVi C (n := 3) (As := [.int a0, .int v1.1, .int a1]) (st := []) 2 (Nat.le_of_ble_eq_true rfl) rfl rfl (cfX0_isOf D cI ad (l := X.2.1) C.2.2.1 hc) tw4_172 cy_X0_isOf (by decide +kernel) ⟨Nat.le_of_ble_eq_true rfl, Nat.le_of_ble_eq_true rfl⟩ (by decide) rfl rfl (Nat.le_of_ble_eq_true rfl) dX6_countIn_105 rfl ?_
                  refine w_if_eq C (qt := 115) dX6_countIn_108 (by decide) rfl h (fun _ h => ?_) (fun _ h => ?_)
                  · exact w_sub (lv' := [(5, .int v1.1), (4, .int v1.2), (0, .ref (ad 81)), (1, .int a0), (2, .int a1), (3, .int a2)]) [1, 2, 3, 4, 5, 6] rfl (hJ22 (()) h)
                  · exact w_sub (lv' := [(5, .int v1.1), (4, .int v1.2), (0, .ref (ad 81)), (1, .int a0), (2, .int a1), (3, .int a2)]) [1, 2, 3, 4, 5, 6] rfl (hJ13 (()) h)
          · refine w_icmp_ne C (qt := 86) dX6_countIn_53 (by decide) rfl h (fun _ h => ?_) (fun _ h => ?_)
            · exact w_sub (lv' := [(6, .int x5), (5, .int v1.1), (4, .int v1.2), (0, .ref (ad 81)), (1, .int a0), (2, .int a1), (3, .int a2)]) [0, 1, 2, 3, 4, 5, 6] rfl (hJ19 (()) h)
            · refine w_iload C dX6_countIn_56 rfl 0 rfl ?_
              refine w_iconst C 2 dX6_countIn_58 rfl (by decide) ?_
              refine w_icmp_ne C (qt := 86) dX6_countIn_59 (by decide) rfl h (fun _ h => ?_) (fun _ h => ?_)
              · exact w_sub (lv' := [(6, .int x5), (5, .int v1.1), (4, .int v1.2), (0, .ref (ad 81)), (1, .int a0), (2, .int a1), (3, .int a2)]) [0, 1, 2, 3, 4, 5, 6] rfl (hJ19 (()) h)
              · refine w_aload_n C dX6_countIn_62 rfl 3 rfl ?_
                refine w_iload_n C dX6_countIn_63 rfl 4 rfl ?_
                refine w_iload C dX6_countIn_64 rfl 1 rfl ?_
                refine bd1_w h (fun r24 hc h => ?_)
                refine w_callVi C (n := 2) (As := [.int a0, .int v1.1]) (st := []) 81 (Nat.le_of_ble_eq_true rfl) rfl rfl (cfX6_isClause D cI ad (l := X.2.1) C.2.2.1 hc) tw4_162 cy_X6_isClause (by decide +kernel) ⟨Nat.le_of_ble_eq_true rfl, Nat.le_of_ble_eq_true rfl⟩ (by decide) rfl rfl (Nat.le_of_ble_eq_true rfl) dX6_countIn_66 rfl ?_
                refine w_if_eq C (qt := 86) dX6_countIn_69 (by decide) rfl h (fun _ h => ?_) (fun _ h => ?_)
                · exact w_sub (lv' := [(6, .int x5), (5, .int v1.1), (4, .int v1.2), (0, .ref (ad 81)), (1, .int a0), (2, .int a1), (3, .int a2)]) [0, 1, 2, 3, 4, 5, 6] rfl (hJ19 (()) h)
                · refine w_aload_n C dX6_countIn_72 rfl 3 rfl ?_
                  refine w_get C 81 0 (Nat.le_of_ble_eq_true rfl) rfl rfl inB_X6 (by decide) tw2_101 rfl dX6_countIn_73 rfl ?_
                  refine w_iload_n C dX6_countIn_76 rfl 4 rfl ?_
                  refine w_iload C dX6_countIn_77 rfl 1 rfl ?_
                  refine w_iload_n C dX6_countIn_79 rfl 5 rfl ?_
                  refine bd1_w h (fun r25 hc h => ?_)
                  refine w_callVi C (n := 3) (As := [.int a0, .int v1.1, .int a1]) (st := []) 2 (Nat.le_of_ble_eq_true rfl) rfl rfl (cfX0_isOf D cI ad (l := X.2.1) C.2.2.1 hc) tw4_172 cy_X0_isOf (by decide +kernel) ⟨Nat.le_of_ble_eq_true rfl, Nat.le_of_ble_eq_true rfl⟩ (by decide) rfl rfl (Nat.le_of_ble_eq_true rfl) dX6_countIn_80 rfl ?_
                  refine w_if_eq C (qt := 111) dX6_countIn_83 (by decide) rfl h (fun _ h => ?_) (fun _ h => ?_)
                  · exact w_sub (lv' := [(5, .int v1.1), (4, .int v1.2), (0, .ref (ad 81)), (1, .int a0), (2, .int a1), (3, .int a2)]) [1, 2, 3, 4, 5, 6] rfl (hJ13 (()) h)
                  · exact w_sub (lv' := [(6, .int x5), (5, .int v1.1), (4, .int v1.2), (0, .ref (ad 81)), (1, .int a0), (2, .int a1), (3, .int a2)]) [0, 1, 2, 3, 4, 5, 6] rfl (hJ19 (()) h)
        · refine w_if_ne C (qt := 51) dX6_countIn_37 (by decide) rfl h (fun _ h => ?_) (fun _ h => ?_)
          · exact w_sub (lv' := [(6, .int x5), (5, .int v1.1), (4, .int v1.2), (0, .ref (ad 81)), (1, .int a0), (2, .int a1), (3, .int a2)]) [0, 1, 2, 3, 4, 5, 6] rfl (hJ16 (()) h)
          · refine w_aload_n C dX6_countIn_40 rfl 3 rfl ?_
            refine w_iload_n C dX6_countIn_41 rfl 4 rfl ?_
            refine w_iload C dX6_countIn_42 rfl 1 rfl ?_
            refine w_iload_n C dX6_countIn_44 rfl 5 rfl ?_
            refine bd1_w h (fun r26 hc h => ?_)
            refine w_callVi C (n := 3) (As := [.int a0, .int v1.1, .int a1]) (st := []) 81 (Nat.le_of_ble_eq_true rfl) rfl rfl (cfX6_isBoundBy D cI ad (l := X.2.1) C.2.2.1 hc) tw4_158 cy_X6_isBoundBy (by decide +kernel) ⟨Nat.le_of_ble_eq_true rfl, Nat.le_of_ble_eq_true rfl⟩ (by decide) rfl rfl (Nat.le_of_ble_eq_true rfl) dX6_countIn_45 rfl ?_
            refine w_if_ne C (qt := 111) dX6_countIn_48 (by decide) rfl h (fun _ h => ?_) (fun _ h => ?_)
            · exact w_sub (lv' := [(5, .int v1.1), (4, .int v1.2), (0, .ref (ad 81)), (1, .int a0), (2, .int a1), (3, .int a2)]) [1, 2, 3, 4, 5, 6] rfl (hJ13 (()) h)
            · exact w_sub (lv' := [(6, .int x5), (5, .int v1.1), (4, .int v1.2), (0, .ref (ad 81)), (1, .int a0), (2, .int a1), (3, .int a2)]) [0, 1, 2, 3, 4, 5, 6] rfl (hJ16 (()) h)
theorem cfX6_countIn (D : va_G) (cI : ClassId) (ad : Nat → Nat) {l : Launch} (had : gAp (gC D cI ad)) {F : Nat} {σ : St} {a0 : Int32} {a1 : Int32} {a2 : Int32} {r : Int32} (h : fX6_countIn F σ a0 a1 a2 = some r) : MI l yX6_countIn (wB yX6_countIn cX6_countIn 8 (some .int)) 4 93 (gC D cI ad) [.ref (ad 81), .int a0, .int a1, .int a2] σ r σ := mk_MI had (by decide +kernel) (Nat.le_of_ble_eq_true rfl) (fun X hX C hr => wfX6_countIn C hr h)

def fX6_countOf (F : Nat) (σ : St) (a0 : Int32) (a1 : Int32) (a2 : Int32) : Option Int32 := lp (fun (K2 : (Int32 × Int32) → Option Int32) (v1 : Int32 × Int32) => if (σ 2 1) ≤ v1.1 then (some v1.2) else bd1 (fX6_sideOf F σ v1.1 a0) fun r4 => if r4 = (-1 : Int32) then (K2 ((v1.1 + 1, v1.2))) else if ((a2 >>> (v1.1 &&& 31)) &&& 1) = 0 then (K2 ((v1.1 + 1, v1.2))) else bd1 (fX6_countIn F σ v1.1 r4 a1) fun r5 => nm (v1.2 + r5) fun x6 => K2 ((v1.1 + 1, x6))) F ((0, 0))
set_option maxRecDepth 20000 in
theorem wfX6_countOf {X : XT} {D : va_G} {cI : ClassId} {ad : Nat → Nat} {F : Nat} {σ : St} {a0 : Int32} {a1 : Int32} {a2 : Int32} {r : Int32} (C : Cx X (gC D cI ad) cX6_countOf 7 RX6 5 120 0) (hr : RetI X (gC D cI ad) cX6_countOf 7 0 r σ) (h : fX6_countOf F σ a0 a1 a2 = some r) : WP X (gC D cI ad) 7 0 0 σ [(0, .ref (ad 81)), (1, .int a0), (2, .int a1), (3, .int a2)] [] := by
  unfold fX6_countOf at h
  refine w_iconst C 0 dX6_countOf_0 rfl (by decide) ?_
  refine w_istore C [(4, .int 0), (0, .ref (ad 81)), (1, .int a0), (2, .int a1), (3, .int a2)] dX6_countOf_1 rfl (by decide) rfl ?_
  refine w_iconst C 0 dX6_countOf_3 rfl (by decide) ?_
  refine w_istore C [(5, .int 0), (4, .int 0), (0, .ref (ad 81)), (1, .int a0), (2, .int a1), (3, .int a2)] dX6_countOf_4 rfl (by decide) rfl ?_
  refine w_sub (lv' := [(5, .int 0), (4, .int 0), (0, .ref (ad 81)), (1, .int a0), (2, .int a1), (3, .int a2)]) [0, 1, 2, 3, 4, 5] rfl ?_
  refine lp_w (fun v1 : Int32 × Int32 => WP X (gC D cI ad) 7 0 6 σ [(5, .int v1.1), (4, .int v1.2), (0, .ref (ad 81)), (1, .int a0), (2, .int a1), (3, .int a2)] []) (fun K2 hK3 v1 h => ?_) F _ h
  refine w_iload C dX6_countOf_6 rfl 0 rfl ?_
  refine w_aload_n C dX6_countOf_8 rfl 2 rfl ?_
  refine w_get C 81 0 (Nat.le_of_ble_eq_true rfl) rfl rfl inB_X6 (by decide) tw2_101 rfl dX6_countOf_9 rfl ?_
  refine w_get C 2 1 (Nat.le_of_ble_eq_true rfl) rfl rfl inB_X0 (by decide) tw1_65 rfl dX6_countOf_12 rfl ?_
  refine w_icmp_ge C (qt := 62) dX6_countOf_15 (by decide) rfl h (fun _ h => ?_) (fun _ h => ?_)
  · refine w_iload C dX6_countOf_62 rfl 1 rfl ?_
    exact w_ri1 hr h (by decide) dX6_countOf_64
  · refine w_aload_n C dX6_countOf_18 rfl 2 rfl ?_
    refine w_iload C dX6_countOf_19 rfl 0 rfl ?_
    refine w_iload_n C dX6_countOf_21 rfl 3 rfl ?_
    refine bd1_w h (fun r4 hc h => ?_)
    refine w_callVi C (n := 2) (As := [.int v1.1, .int a0]) (st := []) 81 (Nat.le_of_ble_eq_true rfl) rfl rfl (cfX6_sideOf D cI ad (l := X.2.1) C.2.2.1 hc) tw4_213 cy_X6_sideOf (by decide +kernel) ⟨Nat.le_of_ble_eq_true rfl, Nat.le_of_ble_eq_true rfl⟩ (by decide) rfl rfl (Nat.le_of_ble_eq_true rfl) dX6_countOf_22 rfl ?_
    refine w_istore C [(6, .int r4), (5, .int v1.1), (4, .int v1.2), (0, .ref (ad 81)), (1, .int a0), (2, .int a1), (3, .int a2)] dX6_countOf_25 rfl (by decide) rfl ?_
    refine w_iload C dX6_countOf_27 rfl 0 rfl ?_
    refine w_iconst C (-1) dX6_countOf_29 rfl (by decide) ?_
    refine w_icmp_eq C (qt := 56) dX6_countOf_30 (by decide) rfl h (fun _ h => ?_) (fun _ h => ?_)
    · refine w_iinc (j := 1) C (v1.1 + 1) [(5, .int (v1.1 + 1)), (6, .int r4), (4, .int v1.2), (0, .ref (ad 81)), (1, .int a0), (2, .int a1), (3, .int a2)] dX6_countOf_56 rfl rfl rfl (by decide) rfl ?_
      refine w_goto (q := 6) C dX6_countOf_59 (by decide) ?_
      exact w_sub (lv' := [(5, .int (v1.1 + 1)), (4, .int v1.2), (0, .ref (ad 81)), (1, .int a0), (2, .int a1), (3, .int a2)]) [0, 2, 3, 4, 5, 6] rfl (hK3 ((v1.1 + 1, v1.2)) h)
    · refine w_iload_n C dX6_countOf_33 rfl 6 rfl ?_
      refine w_iload C dX6_countOf_34 rfl 1 rfl ?_
      refine w_ishr C dX6_countOf_36 rfl ?_
      refine w_iconst C 1 dX6_countOf_37 rfl (by decide) ?_
      refine w_iand C dX6_countOf_38 rfl ?_
      refine w_if_eq C (qt := 56) dX6_countOf_39 (by decide) rfl h (fun _ h => ?_) (fun _ h => ?_)
      · refine w_iinc (j := 1) C (v1.1 + 1) [(5, .int (v1.1 + 1)), (6, .int r4), (4, .int v1.2), (0, .ref (ad 81)), (1, .int a0), (2, .int a1), (3, .int a2)] dX6_countOf_56 rfl rfl rfl (by decide) rfl ?_
        refine w_goto (q := 6) C dX6_countOf_59 (by decide) ?_
        exact w_sub (lv' := [(5, .int (v1.1 + 1)), (4, .int v1.2), (0, .ref (ad 81)), (1, .int a0), (2, .int a1), (3, .int a2)]) [0, 2, 3, 4, 5, 6] rfl (hK3 ((v1.1 + 1, v1.2)) h)
      · refine w_iload C dX6_countOf_42 rfl 2 rfl ?_
        refine w_aload_n C dX6_countOf_44 rfl 3 rfl ?_
        refine w_iload C dX6_countOf_45 rfl 1 rfl ?_
        refine w_iload C dX6_countOf_47 rfl 0 rfl ?_
        refine w_iload_n C dX6_countOf_49 rfl 5 rfl ?_
        refine bd1_w h (fun r5 hc h => ?_)
        refine w_callVi C (n := 3) (As := [.int v1.1, .int r4, .int a1]) (st := [.int v1.2]) 81 (Nat.le_of_ble_eq_true rfl) rfl rfl (cfX6_countIn D cI ad (l := X.2.1) C.2.2.1 hc) tw5_78 cy_X6_countIn (by decide +kernel) ⟨Nat.le_of_ble_eq_true rfl, Nat.le_of_ble_eq_true rfl⟩ (by decide) rfl rfl (Nat.le_of_ble_eq_true rfl) dX6_countOf_50 rfl ?_
        refine w_iadd C dX6_countOf_53 rfl ?_
        refine w_nm h (fun x6 h => ?_)
        refine w_istore C [(4, .int x6), (6, .int r4), (5, .int v1.1), (0, .ref (ad 81)), (1, .int a0), (2, .int a1), (3, .int a2)] dX6_countOf_54 rfl (by decide) rfl ?_
        refine w_iinc (j := 2) C (v1.1 + 1) [(5, .int (v1.1 + 1)), (4, .int x6), (6, .int r4), (0, .ref (ad 81)), (1, .int a0), (2, .int a1), (3, .int a2)] dX6_countOf_56 rfl rfl rfl (by decide) rfl ?_
        refine w_goto (q := 6) C dX6_countOf_59 (by decide) ?_
        exact w_sub (lv' := [(5, .int (v1.1 + 1)), (4, .int x6), (0, .ref (ad 81)), (1, .int a0), (2, .int a1), (3, .int a2)]) [0, 1, 3, 4, 5, 6] rfl (hK3 ((v1.1 + 1, x6)) h)
theorem cfX6_countOf (D : va_G) (cI : ClassId) (ad : Nat → Nat) {l : Launch} (had : gAp (gC D cI ad)) {F : Nat} {σ : St} {a0 : Int32} {a1 : Int32} {a2 : Int32} {r : Int32} (h : fX6_countOf F σ a0 a1 a2 = some r) : MI l yX6_countOf (wB yX6_countOf cX6_countOf 7 (some .int)) 5 120 (gC D cI ad) [.ref (ad 81), .int a0, .int a1, .int a2] σ r σ := mk_MI had (by decide +kernel) (Nat.le_of_ble_eq_true rfl) (fun X hX C hr => wfX6_countOf C hr h)

