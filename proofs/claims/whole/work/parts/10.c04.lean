def fX6_weigh (F : Nat) (σ : St) (a0 : Int32) (a1 : Int32) : Option St := lp (fun (K2 : (St × Int32) → Option St) (v1 : St × Int32) => ckI (a0) 8 (if (v1.1 7 (Int32.toNatClampNeg a0)) ≤ v1.2 then (some v1.1) else bd1 (fX6_isBoundBy F v1.1 a0 v1.2 a1) fun r4 => if r4 = 0 then (K2 ((v1.1, v1.2 + 1))) else bd1 (fX10_placeOf F v1.1 a0 v1.2) fun r5 => ckI (r5) 80 (bd1 (fX6_rowOf F v1.1 a0 a1 (v1.1 11 (Int32.toNatClampNeg r5))) fun r6 => ckI (a0) 8 (bd2 (fX6_limitOf F v1.1 a0 v1.2 a1 (v1.1 6 (Int32.toNatClampNeg a0))) fun r7 u8 => ckI (r6) 128 (if (u8 83 (Int32.toNatClampNeg r6)) = ((-1)) then (ckI (r6) 128 (nm (up u8 83 (Int32.toNatClampNeg r6) r7) fun u9 => K2 ((u9, v1.2 + 1)))) else ckI (r6) 128 (if (u8 83 (Int32.toNatClampNeg r6)) ≤ r7 then (K2 ((u8, v1.2 + 1))) else ckI (r6) 128 (nm (up u8 83 (Int32.toNatClampNeg r6) r7) fun u10 => K2 ((u10, v1.2 + 1))))))))) F ((σ, 0))
set_option maxRecDepth 20000 in
theorem wfX6_weigh {X : XT} {D : va_G} {cI : ClassId} {ad : Nat → Nat} {F : Nat} {σ : St} {a0 : Int32} {a1 : Int32} {σ' : St} (C : Cx X (gC D cI ad) cX6_weigh 6 RX6 4 93 0) (hr : RetV X (gC D cI ad) cX6_weigh 6 0 σ') (h : fX6_weigh F σ a0 a1 = some σ') : WP X (gC D cI ad) 6 0 0 σ [(0, .ref (ad 81)), (1, .int a0), (2, .int a1)] [] := by
  unfold fX6_weigh at h
  refine w_iconst C 0 dX6_weigh_0 rfl (by decide) ?_
  refine w_istore_n C [(3, .int 0), (0, .ref (ad 81)), (1, .int a0), (2, .int a1)] dX6_weigh_1 rfl (by decide) rfl ?_
  refine w_sub [0, 1, 2, 3] rfl ?_
  refine lp_w (fun v1 : St × Int32 => WP X (gC D cI ad) 6 0 2 v1.1 [(3, .int v1.2), (0, .ref (ad 81)), (1, .int a0), (2, .int a1)] []) (fun K2 hK3 v1 h => ?_) F _ h
  refine w_iload_n C dX6_weigh_2 rfl 0 rfl ?_
  refine w_aload_n C dX6_weigh_3 rfl 1 rfl ?_
  refine w_get C 81 0 (Nat.le_of_ble_eq_true rfl) rfl rfl inB_X6 (by decide) tw2_101 rfl dX6_weigh_4 rfl ?_
  refine w_get C 2 9 (Nat.le_of_ble_eq_true rfl) rfl rfl inB_X0 (by decide) tw1_97 rfl dX6_weigh_7 rfl ?_
  refine w_iload_n C dX6_weigh_10 rfl 2 rfl ?_
  refine w_iald C 7 8 0 (Nat.le_of_ble_eq_true rfl) (fun _ => rfl) rfl h dX6_weigh_11 rfl (fun h => ?_)
  refine w_icmp_ge C (qt := 101) dX6_weigh_12 (by decide) rfl h (fun _ h => ?_) (fun _ h => ?_)
  · exact w_rv hr h (by decide) dX6_weigh_101
  · refine w_aload_n C dX6_weigh_15 rfl 1 rfl ?_
    refine w_iload_n C dX6_weigh_16 rfl 2 rfl ?_
    refine w_iload_n C dX6_weigh_17 rfl 0 rfl ?_
    refine w_iload_n C dX6_weigh_18 rfl 3 rfl ?_
    refine bd1_w h (fun r4 hc h => ?_)
    refine w_callVi C (As := [.int a0, .int v1.2, .int a1]) (st := []) 81 (Nat.le_of_ble_eq_true rfl) rfl rfl (cfX6_isBoundBy D cI ad (l := X.2.1) C.2.2.1 hc) tw4_158 cy_X6_isBoundBy (by decide +kernel) ⟨Nat.le_of_ble_eq_true rfl, Nat.le_of_ble_eq_true rfl⟩ (by decide) rfl rfl (Nat.le_of_ble_eq_true rfl) dX6_weigh_19 rfl ?_
    refine w_if_eq C (qt := 95) dX6_weigh_22 (by decide) rfl h (fun _ h => ?_) (fun _ h => ?_)
    · refine w_iinc (j := 0) C (v1.2 + 1) [(3, .int (v1.2 + 1)), (0, .ref (ad 81)), (1, .int a0), (2, .int a1)] dX6_weigh_95 rfl rfl rfl (by decide) rfl ?_
      refine w_goto (q := 2) C dX6_weigh_98 (by decide) ?_
      exact w_sub [0, 1, 2, 3] rfl (hK3 _ h)
    · refine w_iload_n C dX6_weigh_25 rfl 2 rfl ?_
      refine w_iload_n C dX6_weigh_26 rfl 3 rfl ?_
      refine w_aload_n C dX6_weigh_27 rfl 1 rfl ?_
      refine w_get C 81 0 (Nat.le_of_ble_eq_true rfl) rfl rfl inB_X6 (by decide) tw2_101 rfl dX6_weigh_28 rfl ?_
      refine w_get C 2 13 (Nat.le_of_ble_eq_true rfl) rfl rfl inB_X0 (by decide) tw1_113 rfl dX6_weigh_31 rfl ?_
      refine w_iload_n C dX6_weigh_34 rfl 2 rfl ?_
      refine w_iload_n C dX6_weigh_35 rfl 0 rfl ?_
      refine bd1_w h (fun r5 hc h => ?_)
      refine w_callNi C (As := [.int a0, .int v1.2]) (st := [.ref (ad 11), .int a1, .int a0]) (host := RX10) (cfX10_placeOf D cI ad (l := X.2.1) C.2.2.1 hc) (by decide +kernel) cs_X10_placeOf (by decide +kernel) ⟨Nat.le_of_ble_eq_true rfl, Nat.le_of_ble_eq_true rfl⟩ (by decide) rfl rfl (Nat.le_of_ble_eq_true rfl) dX6_weigh_36 rfl ?_
      refine w_iald C 11 80 0 (Nat.le_of_ble_eq_true rfl) (fun _ => rfl) rfl h dX6_weigh_39 rfl (fun h => ?_)
      refine bd1_w h (fun r6 hc h => ?_)
      refine w_callSi C (As := [.int a0, .int a1, .int (v1.1 11 (Int32.toNatClampNeg r5))]) (st := []) (cfX6_rowOf D cI ad (l := X.2.1) C.2.2.1 hc) tw4_180 cs_X6_rowOf (by decide +kernel) ⟨Nat.le_of_ble_eq_true rfl, Nat.le_of_ble_eq_true rfl⟩ (by decide) rfl rfl (Nat.le_of_ble_eq_true rfl) dX6_weigh_40 rfl ?_
      refine w_istore C [(4, .int r6), (3, .int v1.2), (0, .ref (ad 81)), (1, .int a0), (2, .int a1)] dX6_weigh_43 rfl (by decide) rfl ?_
      refine w_aload_n C dX6_weigh_45 rfl 2 rfl ?_
      refine w_iload_n C dX6_weigh_46 rfl 3 rfl ?_
      refine w_iload_n C dX6_weigh_47 rfl 1 rfl ?_
      refine w_iload_n C dX6_weigh_48 rfl 4 rfl ?_
      refine w_aload_n C dX6_weigh_49 rfl 2 rfl ?_
      refine w_get C 81 0 (Nat.le_of_ble_eq_true rfl) rfl rfl inB_X6 (by decide) tw2_101 rfl dX6_weigh_50 rfl ?_
      refine w_get C 2 8 (Nat.le_of_ble_eq_true rfl) rfl rfl inB_X0 (by decide) tw1_91 rfl dX6_weigh_53 rfl ?_
      refine w_iload_n C dX6_weigh_56 rfl 3 rfl ?_
      refine w_iald C 6 8 0 (Nat.le_of_ble_eq_true rfl) (fun _ => rfl) rfl h dX6_weigh_57 rfl (fun h => ?_)
      refine bd2_w h (fun r7 u8 hc h => ?_)
      refine w_callVi C (As := [.int a0, .int v1.2, .int a1, .int (v1.1 6 (Int32.toNatClampNeg a0))]) (st := []) 81 (Nat.le_of_ble_eq_true rfl) rfl rfl (cfX6_limitOf D cI ad (l := X.2.1) C.2.2.1 hc) tw4_183 cy_X6_limitOf (by decide +kernel) ⟨Nat.le_of_ble_eq_true rfl, Nat.le_of_ble_eq_true rfl⟩ (by decide) rfl rfl (Nat.le_of_ble_eq_true rfl) dX6_weigh_58 rfl ?_
      refine w_istore C [(5, .int r7), (4, .int r6), (3, .int v1.2), (0, .ref (ad 81)), (1, .int a0), (2, .int a1)] dX6_weigh_61 rfl (by decide) rfl ?_
      refine w_aload_n C dX6_weigh_63 rfl 3 rfl ?_
      refine w_get C 81 3 (Nat.le_of_ble_eq_true rfl) rfl rfl inB_X6 (by decide) tw2_104 rfl dX6_weigh_64 rfl ?_
      refine w_iload C dX6_weigh_67 rfl 1 rfl ?_
      refine w_iald C 83 128 0 (Nat.le_of_ble_eq_true rfl) (fun _ => rfl) rfl h dX6_weigh_69 rfl (fun h => ?_)
      refine w_iconst C (-1) dX6_weigh_70 rfl (by decide) ?_
      refine w_icmp_eq C (qt := 86) dX6_weigh_71 (by decide) rfl h (fun _ h => ?_) (fun _ h => ?_)
      · refine w_aload_n C dX6_weigh_86 rfl 3 rfl ?_
        refine w_get C 81 3 (Nat.le_of_ble_eq_true rfl) rfl rfl inB_X6 (by decide) tw2_104 rfl dX6_weigh_87 rfl ?_
        refine w_iload C dX6_weigh_90 rfl 1 rfl ?_
        refine w_iload C dX6_weigh_92 rfl 0 rfl ?_
        refine w_iast C 83 128 0 (Nat.le_of_ble_eq_true rfl) (fun _ => rfl) rfl h dX6_weigh_94 rfl (fun h => ?_)
        refine w_nst h (fun u9 h => ?_)
        refine w_iinc (j := 2) C (v1.2 + 1) [(3, .int (v1.2 + 1)), (5, .int r7), (4, .int r6), (0, .ref (ad 81)), (1, .int a0), (2, .int a1)] dX6_weigh_95 rfl rfl rfl (by decide) rfl ?_
        refine w_goto (q := 2) C dX6_weigh_98 (by decide) ?_
        exact w_sub [0, 3, 4, 5] rfl (hK3 _ h)
      · refine w_iload C dX6_weigh_74 rfl 0 rfl ?_
        refine w_aload_n C dX6_weigh_76 rfl 3 rfl ?_
        refine w_get C 81 3 (Nat.le_of_ble_eq_true rfl) rfl rfl inB_X6 (by decide) tw2_104 rfl dX6_weigh_77 rfl ?_
        refine w_iload C dX6_weigh_80 rfl 1 rfl ?_
        refine w_iald C 83 128 0 (Nat.le_of_ble_eq_true rfl) (fun _ => rfl) rfl h dX6_weigh_82 rfl (fun h => ?_)
        refine w_icmp_ge C (qt := 95) dX6_weigh_83 (by decide) rfl h (fun _ h => ?_) (fun _ h => ?_)
        · refine w_iinc (j := 2) C (v1.2 + 1) [(3, .int (v1.2 + 1)), (5, .int r7), (4, .int r6), (0, .ref (ad 81)), (1, .int a0), (2, .int a1)] dX6_weigh_95 rfl rfl rfl (by decide) rfl ?_
          refine w_goto (q := 2) C dX6_weigh_98 (by decide) ?_
          exact w_sub [0, 3, 4, 5] rfl (hK3 _ h)
        · refine w_aload_n C dX6_weigh_86 rfl 3 rfl ?_
          refine w_get C 81 3 (Nat.le_of_ble_eq_true rfl) rfl rfl inB_X6 (by decide) tw2_104 rfl dX6_weigh_87 rfl ?_
          refine w_iload C dX6_weigh_90 rfl 1 rfl ?_
          refine w_iload C dX6_weigh_92 rfl 0 rfl ?_
          refine w_iast C 83 128 0 (Nat.le_of_ble_eq_true rfl) (fun _ => rfl) rfl h dX6_weigh_94 rfl (fun h => ?_)
          refine w_nst h (fun u10 h => ?_)
          refine w_iinc (j := 2) C (v1.2 + 1) [(3, .int (v1.2 + 1)), (5, .int r7), (4, .int r6), (0, .ref (ad 81)), (1, .int a0), (2, .int a1)] dX6_weigh_95 rfl rfl rfl (by decide) rfl ?_
          refine w_goto (q := 2) C dX6_weigh_98 (by decide) ?_
          exact w_sub [0, 3, 4, 5] rfl (hK3 _ h)
theorem cfX6_weigh (D : va_G) (cI : ClassId) (ad : Nat → Nat) {l : Launch} (had : gAp (gC D cI ad)) {F : Nat} {σ : St} {a0 : Int32} {a1 : Int32} {σ' : St} (h : fX6_weigh F σ a0 a1 = some σ') : MV l yX6_weigh (wB yX6_weigh cX6_weigh 6 none) 4 93 (gC D cI ad) [.ref (ad 81), .int a0, .int a1] σ σ' := mk_MV had (by decide +kernel) (Nat.le_of_ble_eq_true rfl) (fun X hX C hr => wfX6_weigh C hr h)

def fX6_weighAll (F : Nat) (σ : St) (a0 : Int32) : Option St := bd1 (fJ7_fill_53178_4 F σ ((-1))) fun u1 => lp (fun (K3 : (St × Int32) → Option St) (v2 : St × Int32) => if (v2.1 2 1) ≤ v2.2 then (some v2.1) else if ((a0 >>> (v2.2 &&& 31)) &&& 1) = 0 then (K3 ((v2.1, v2.2 + 1))) else bd1 (fX6_weigh F v2.1 v2.2 0) fun u5 => bd1 (fX6_weigh F u5 v2.2 1) fun u6 => K3 ((u6, v2.2 + 1))) F ((u1, 0))
set_option maxRecDepth 20000 in
theorem wfX6_weighAll {X : XT} {D : va_G} {cI : ClassId} {ad : Nat → Nat} {F : Nat} {σ : St} {a0 : Int32} {σ' : St} (C : Cx X (gC D cI ad) cX6_weighAll 3 RX6 5 118 0) (hr : RetV X (gC D cI ad) cX6_weighAll 3 0 σ') (h : fX6_weighAll F σ a0 = some σ') : WP X (gC D cI ad) 3 0 0 σ [(0, .ref (ad 81)), (1, .int a0)] [] := by
  unfold fX6_weighAll at h
  refine w_aload_n C dX6_weighAll_0 rfl 0 rfl ?_
  refine w_get C 81 3 (Nat.le_of_ble_eq_true rfl) rfl rfl inB_X6 (by decide) tw2_104 rfl dX6_weighAll_1 rfl ?_
  refine w_iconst C (-1) dX6_weighAll_4 rfl (by decide) ?_
  refine bd1_w h (fun u1 hc h => ?_)
  refine w_callSv C (As := [.ref (ad 83), .int ((-1))]) (st := []) (cfJ7_fill_53178_4 D cI ad (l := X.2.1) C.2.2.1 hc) tw4_153 cs_J7_fill_53178 (by decide +kernel) ⟨Nat.le_of_ble_eq_true rfl, Nat.le_of_ble_eq_true rfl⟩ (by decide) rfl rfl (Nat.le_of_ble_eq_true rfl) dX6_weighAll_5 rfl ?_
  refine w_iconst C 0 dX6_weighAll_8 rfl (by decide) ?_
  refine w_istore_n C [(2, .int 0), (0, .ref (ad 81)), (1, .int a0)] dX6_weighAll_9 rfl (by decide) rfl ?_
  refine w_sub [0, 1, 2] rfl ?_
  refine lp_w (fun v2 : St × Int32 => WP X (gC D cI ad) 3 0 10 v2.1 [(2, .int v2.2), (0, .ref (ad 81)), (1, .int a0)] []) (fun K3 hK4 v2 h => ?_) F _ h
  refine w_iload_n C dX6_weighAll_10 rfl 0 rfl ?_
  refine w_aload_n C dX6_weighAll_11 rfl 1 rfl ?_
  refine w_get C 81 0 (Nat.le_of_ble_eq_true rfl) rfl rfl inB_X6 (by decide) tw2_101 rfl dX6_weighAll_12 rfl ?_
  refine w_get C 2 1 (Nat.le_of_ble_eq_true rfl) rfl rfl inB_X0 (by decide) tw1_65 rfl dX6_weighAll_15 rfl ?_
  refine w_icmp_ge C (qt := 47) dX6_weighAll_18 (by decide) rfl h (fun _ h => ?_) (fun _ h => ?_)
  · exact w_rv hr h (by decide) dX6_weighAll_47
  · refine w_iload_n C dX6_weighAll_21 rfl 2 rfl ?_
    refine w_iload_n C dX6_weighAll_22 rfl 0 rfl ?_
    refine w_ishr C dX6_weighAll_23 rfl ?_
    refine w_iconst C 1 dX6_weighAll_24 rfl (by decide) ?_
    refine w_iand C dX6_weighAll_25 rfl ?_
    refine w_if_eq C (qt := 41) dX6_weighAll_26 (by decide) rfl h (fun _ h => ?_) (fun _ h => ?_)
    · refine w_iinc (j := 0) C (v2.2 + 1) [(2, .int (v2.2 + 1)), (0, .ref (ad 81)), (1, .int a0)] dX6_weighAll_41 rfl rfl rfl (by decide) rfl ?_
      refine w_goto (q := 10) C dX6_weighAll_44 (by decide) ?_
      exact w_sub [0, 1, 2] rfl (hK4 _ h)
    · refine w_aload_n C dX6_weighAll_29 rfl 1 rfl ?_
      refine w_iload_n C dX6_weighAll_30 rfl 0 rfl ?_
      refine w_iconst C 0 dX6_weighAll_31 rfl (by decide) ?_
      refine bd1_w h (fun u5 hc h => ?_)
      refine w_callVv C (As := [.int v2.2, .int 0]) (st := []) 81 (Nat.le_of_ble_eq_true rfl) rfl rfl (cfX6_weigh D cI ad (l := X.2.1) C.2.2.1 hc) tw4_154 cy_X6_weigh (by decide +kernel) ⟨Nat.le_of_ble_eq_true rfl, Nat.le_of_ble_eq_true rfl⟩ (by decide) rfl rfl (Nat.le_of_ble_eq_true rfl) dX6_weighAll_32 rfl ?_
      refine w_aload_n C dX6_weighAll_35 rfl 1 rfl ?_
      refine w_iload_n C dX6_weighAll_36 rfl 0 rfl ?_
      refine w_iconst C 1 dX6_weighAll_37 rfl (by decide) ?_
      refine bd1_w h (fun u6 hc h => ?_)
      refine w_callVv C (As := [.int v2.2, .int 1]) (st := []) 81 (Nat.le_of_ble_eq_true rfl) rfl rfl (cfX6_weigh D cI ad (l := X.2.1) C.2.2.1 hc) tw4_154 cy_X6_weigh (by decide +kernel) ⟨Nat.le_of_ble_eq_true rfl, Nat.le_of_ble_eq_true rfl⟩ (by decide) rfl rfl (Nat.le_of_ble_eq_true rfl) dX6_weighAll_38 rfl ?_
      refine w_iinc (j := 0) C (v2.2 + 1) [(2, .int (v2.2 + 1)), (0, .ref (ad 81)), (1, .int a0)] dX6_weighAll_41 rfl rfl rfl (by decide) rfl ?_
      refine w_goto (q := 10) C dX6_weighAll_44 (by decide) ?_
      exact w_sub [0, 1, 2] rfl (hK4 _ h)
theorem cfX6_weighAll (D : va_G) (cI : ClassId) (ad : Nat → Nat) {l : Launch} (had : gAp (gC D cI ad)) {F : Nat} {σ : St} {a0 : Int32} {σ' : St} (h : fX6_weighAll F σ a0 = some σ') : MV l yX6_weighAll (wB yX6_weighAll cX6_weighAll 3 none) 5 118 (gC D cI ad) [.ref (ad 81), .int a0] σ σ' := mk_MV had (by decide +kernel) (Nat.le_of_ble_eq_true rfl) (fun X hX C hr => wfX6_weighAll C hr h)

def fX6_sideOf (F : Nat) (σ : St) (a0 : Int32) (a1 : Int32) : Option Int32 := ckI (a0) 8 (if (σ 4 (Int32.toNatClampNeg a0)) = a1 then (some 0) else ckI (a0) 8 (if (σ 5 (Int32.toNatClampNeg a0)) = a1 then (some 1) else some ((-1))))
set_option maxRecDepth 20000 in
theorem wfX6_sideOf {X : XT} {D : va_G} {cI : ClassId} {ad : Nat → Nat} {F : Nat} {σ : St} {a0 : Int32} {a1 : Int32} {r : Int32} (C : Cx X (gC D cI ad) cX6_sideOf 3 RX6 0 0 0) (hr : RetI X (gC D cI ad) cX6_sideOf 3 0 r σ) (h : fX6_sideOf F σ a0 a1 = some r) : WP X (gC D cI ad) 3 0 0 σ [(0, .ref (ad 81)), (1, .int a0), (2, .int a1)] [] := by
  unfold fX6_sideOf at h
  refine w_aload_n C dX6_sideOf_0 rfl 0 rfl ?_
  refine w_get C 81 0 (Nat.le_of_ble_eq_true rfl) rfl rfl inB_X6 (by decide) tw2_101 rfl dX6_sideOf_1 rfl ?_
  refine w_get C 2 6 (Nat.le_of_ble_eq_true rfl) rfl rfl inB_X0 (by decide) tw1_85 rfl dX6_sideOf_4 rfl ?_
  refine w_iload_n C dX6_sideOf_7 rfl 1 rfl ?_
  refine w_iald C 4 8 0 (Nat.le_of_ble_eq_true rfl) (fun _ => rfl) rfl h dX6_sideOf_8 rfl (fun h => ?_)
  refine w_iload_n C dX6_sideOf_9 rfl 2 rfl ?_
  refine w_icmp_ne C (qt := 15) dX6_sideOf_10 (by decide) rfl h (fun _ h => ?_) (fun _ h => ?_)
  · refine w_aload_n C dX6_sideOf_15 rfl 0 rfl ?_
    refine w_get C 81 0 (Nat.le_of_ble_eq_true rfl) rfl rfl inB_X6 (by decide) tw2_101 rfl dX6_sideOf_16 rfl ?_
    refine w_get C 2 7 (Nat.le_of_ble_eq_true rfl) rfl rfl inB_X0 (by decide) tw1_89 rfl dX6_sideOf_19 rfl ?_
    refine w_iload_n C dX6_sideOf_22 rfl 1 rfl ?_
    refine w_iald C 5 8 0 (Nat.le_of_ble_eq_true rfl) (fun _ => rfl) rfl h dX6_sideOf_23 rfl (fun h => ?_)
    refine w_iload_n C dX6_sideOf_24 rfl 2 rfl ?_
    refine w_icmp_ne C (qt := 32) dX6_sideOf_25 (by decide) rfl h (fun _ h => ?_) (fun _ h => ?_)
    · refine w_iconst C (-1) dX6_sideOf_32 rfl (by decide) ?_
      exact w_ri1 hr h (by decide) dX6_sideOf_33
    · refine w_iconst C 1 dX6_sideOf_28 rfl (by decide) ?_
      refine w_goto (q := 33) C dX6_sideOf_29 (by decide) ?_
      exact w_ri1 hr h (by decide) dX6_sideOf_33
  · refine w_iconst C 0 dX6_sideOf_13 rfl (by decide) ?_
    exact w_ri1 hr h (by decide) dX6_sideOf_14
theorem cfX6_sideOf (D : va_G) (cI : ClassId) (ad : Nat → Nat) {l : Launch} (had : gAp (gC D cI ad)) {F : Nat} {σ : St} {a0 : Int32} {a1 : Int32} {r : Int32} (h : fX6_sideOf F σ a0 a1 = some r) : MI l yX6_sideOf (wB yX6_sideOf cX6_sideOf 3 (some .int)) 0 0 (gC D cI ad) [.ref (ad 81), .int a0, .int a1] σ r σ := mk_MI had (by decide +kernel) (Nat.le_of_ble_eq_true rfl) (fun X hX C hr => wfX6_sideOf C hr h)

def fX6_boundTo (F : Nat) (σ : St) (a0 : Int32) (a1 : Int32) : Option Int32 := lp (fun (K2 : (Int32 × Int32) → Option Int32) (v1 : Int32 × Int32) => if (σ 2 1) ≤ v1.1 then (some v1.2) else bd1 (fX6_sideOf F σ v1.1 a0) fun r4 => jn (fun v5 : Int32 => if v5 = ((-1)) then (K2 ((v1.1 + 1, v1.2))) else if v1.2 = ((-1)) then (K2 ((v1.1 + 1, v5))) else if v1.2 ≤ v5 then (K2 ((v1.1 + 1, v1.2))) else K2 ((v1.1 + 1, v5))) fun J6 => if r4 = ((-1)) then (J6 ((-1))) else bd1 (fX6_rowOf F σ v1.1 r4 a1) fun r8 => ckI (r8) 128 (J6 (σ 83 (Int32.toNatClampNeg r8)))) F ((0, (-1)))
set_option maxRecDepth 20000 in
theorem wfX6_boundTo {X : XT} {D : va_G} {cI : ClassId} {ad : Nat → Nat} {F : Nat} {σ : St} {a0 : Int32} {a1 : Int32} {r : Int32} (C : Cx X (gC D cI ad) cX6_boundTo 7 RX6 1 22 0) (hr : RetI X (gC D cI ad) cX6_boundTo 7 0 r σ) (h : fX6_boundTo F σ a0 a1 = some r) : WP X (gC D cI ad) 7 0 0 σ [(0, .ref (ad 81)), (1, .int a0), (2, .int a1)] [] := by
  unfold fX6_boundTo at h
  refine w_iconst C (-1) dX6_boundTo_0 rfl (by decide) ?_
  refine w_istore_n C [(3, .int ((-1))), (0, .ref (ad 81)), (1, .int a0), (2, .int a1)] dX6_boundTo_1 rfl (by decide) rfl ?_
  refine w_iconst C 0 dX6_boundTo_2 rfl (by decide) ?_
  refine w_istore C [(4, .int 0), (3, .int ((-1))), (0, .ref (ad 81)), (1, .int a0), (2, .int a1)] dX6_boundTo_3 rfl (by decide) rfl ?_
  refine w_sub [0, 1, 2, 3, 4] rfl ?_
  refine lp_w (fun v1 : Int32 × Int32 => WP X (gC D cI ad) 7 0 5 σ [(4, .int v1.1), (3, .int v1.2), (0, .ref (ad 81)), (1, .int a0), (2, .int a1)] []) (fun K2 hK3 v1 h => ?_) F _ h
  refine w_iload C dX6_boundTo_5 rfl 0 rfl ?_
  refine w_aload_n C dX6_boundTo_7 rfl 2 rfl ?_
  refine w_get C 81 0 (Nat.le_of_ble_eq_true rfl) rfl rfl inB_X6 (by decide) tw2_101 rfl dX6_boundTo_8 rfl ?_
  refine w_get C 2 1 (Nat.le_of_ble_eq_true rfl) rfl rfl inB_X0 (by decide) tw1_65 rfl dX6_boundTo_11 rfl ?_
  refine w_icmp_ge C (qt := 77) dX6_boundTo_14 (by decide) rfl h (fun _ h => ?_) (fun _ h => ?_)
  · refine w_iload_n C dX6_boundTo_77 rfl 1 rfl ?_
    exact w_ri1 hr h (by decide) dX6_boundTo_78
  · refine w_aload_n C dX6_boundTo_17 rfl 2 rfl ?_
    refine w_iload C dX6_boundTo_18 rfl 0 rfl ?_
    refine w_iload_n C dX6_boundTo_20 rfl 3 rfl ?_
    refine bd1_w h (fun r4 hc h => ?_)
    refine w_callVi C (As := [.int v1.1, .int a0]) (st := []) 81 (Nat.le_of_ble_eq_true rfl) rfl rfl (cfX6_sideOf D cI ad (l := X.2.1) C.2.2.1 hc) tw4_213 cy_X6_sideOf (by decide +kernel) ⟨Nat.le_of_ble_eq_true rfl, Nat.le_of_ble_eq_true rfl⟩ (by decide) rfl rfl (Nat.le_of_ble_eq_true rfl) dX6_boundTo_21 rfl ?_
    refine w_istore C [(5, .int r4), (4, .int v1.1), (3, .int v1.2), (0, .ref (ad 81)), (1, .int a0), (2, .int a1)] dX6_boundTo_24 rfl (by decide) rfl ?_
    refine w_iload C dX6_boundTo_26 rfl 0 rfl ?_
    refine w_iconst C (-1) dX6_boundTo_28 rfl (by decide) ?_
    refine jn_w (fun v5 : Int32 => WP X (gC D cI ad) 7 0 49 σ [(4, .int v1.1), (3, .int v1.2), (0, .ref (ad 81)), (1, .int a0), (2, .int a1)] [.int v5]) h (fun v5 h => ?_) (fun J6 hJ7 h => ?_)
    · refine w_istore C [(6, .int v5), (4, .int v1.1), (3, .int v1.2), (0, .ref (ad 81)), (1, .int a0), (2, .int a1)] dX6_boundTo_49 rfl (by decide) rfl ?_
      refine w_iload C dX6_boundTo_51 rfl 0 rfl ?_
      refine w_iconst C (-1) dX6_boundTo_53 rfl (by decide) ?_
      refine w_icmp_eq C (qt := 71) dX6_boundTo_54 (by decide) rfl h (fun _ h => ?_) (fun _ h => ?_)
      · refine w_iinc (j := 1) C (v1.1 + 1) [(4, .int (v1.1 + 1)), (6, .int v5), (3, .int v1.2), (0, .ref (ad 81)), (1, .int a0), (2, .int a1)] dX6_boundTo_71 rfl rfl rfl (by decide) rfl ?_
        refine w_goto (q := 5) C dX6_boundTo_74 (by decide) ?_
        exact w_sub [0, 2, 3, 4, 5] rfl (hK3 _ h)
      · refine w_iload_n C dX6_boundTo_57 rfl 2 rfl ?_
        refine w_iconst C (-1) dX6_boundTo_58 rfl (by decide) ?_
        refine w_icmp_eq C (qt := 68) dX6_boundTo_59 (by decide) rfl h (fun _ h => ?_) (fun _ h => ?_)
        · refine w_iload C dX6_boundTo_68 rfl 0 rfl ?_
          refine w_istore_n C [(3, .int v5), (6, .int v5), (4, .int v1.1), (0, .ref (ad 81)), (1, .int a0), (2, .int a1)] dX6_boundTo_70 rfl (by decide) rfl ?_
          refine w_iinc (j := 2) C (v1.1 + 1) [(4, .int (v1.1 + 1)), (3, .int v5), (6, .int v5), (0, .ref (ad 81)), (1, .int a0), (2, .int a1)] dX6_boundTo_71 rfl rfl rfl (by decide) rfl ?_
          refine w_goto (q := 5) C dX6_boundTo_74 (by decide) ?_
          exact w_sub [0, 1, 3, 4, 5] rfl (hK3 _ h)
        · refine w_iload C dX6_boundTo_62 rfl 0 rfl ?_
          refine w_iload_n C dX6_boundTo_64 rfl 2 rfl ?_
          refine w_icmp_ge C (qt := 71) dX6_boundTo_65 (by decide) rfl h (fun _ h => ?_) (fun _ h => ?_)
          · refine w_iinc (j := 1) C (v1.1 + 1) [(4, .int (v1.1 + 1)), (6, .int v5), (3, .int v1.2), (0, .ref (ad 81)), (1, .int a0), (2, .int a1)] dX6_boundTo_71 rfl rfl rfl (by decide) rfl ?_
            refine w_goto (q := 5) C dX6_boundTo_74 (by decide) ?_
            exact w_sub [0, 2, 3, 4, 5] rfl (hK3 _ h)
          · refine w_iload C dX6_boundTo_68 rfl 0 rfl ?_
            refine w_istore_n C [(3, .int v5), (6, .int v5), (4, .int v1.1), (0, .ref (ad 81)), (1, .int a0), (2, .int a1)] dX6_boundTo_70 rfl (by decide) rfl ?_
            refine w_iinc (j := 2) C (v1.1 + 1) [(4, .int (v1.1 + 1)), (3, .int v5), (6, .int v5), (0, .ref (ad 81)), (1, .int a0), (2, .int a1)] dX6_boundTo_71 rfl rfl rfl (by decide) rfl ?_
            refine w_goto (q := 5) C dX6_boundTo_74 (by decide) ?_
            exact w_sub [0, 1, 3, 4, 5] rfl (hK3 _ h)
    · refine w_icmp_ne C (qt := 36) dX6_boundTo_29 (by decide) rfl h (fun _ h => ?_) (fun _ h => ?_)
      · refine w_aload_n C dX6_boundTo_36 rfl 3 rfl ?_
        refine w_get C 81 3 (Nat.le_of_ble_eq_true rfl) rfl rfl inB_X6 (by decide) tw2_104 rfl dX6_boundTo_37 rfl ?_
        refine w_iload C dX6_boundTo_40 rfl 1 rfl ?_
        refine w_iload C dX6_boundTo_42 rfl 0 rfl ?_
        refine w_iload_n C dX6_boundTo_44 rfl 5 rfl ?_
        refine bd1_w h (fun r8 hc h => ?_)
        refine w_callSi C (As := [.int v1.1, .int r4, .int a1]) (st := [.ref (ad 83)]) (cfX6_rowOf D cI ad (l := X.2.1) C.2.2.1 hc) tw4_180 cs_X6_rowOf (by decide +kernel) ⟨Nat.le_of_ble_eq_true rfl, Nat.le_of_ble_eq_true rfl⟩ (by decide) rfl rfl (Nat.le_of_ble_eq_true rfl) dX6_boundTo_45 rfl ?_
        refine w_iald C 83 128 0 (Nat.le_of_ble_eq_true rfl) (fun _ => rfl) rfl h dX6_boundTo_48 rfl (fun h => ?_)
        exact w_sub [1, 2, 3, 4, 5] rfl (hJ7 _ h)
      · refine w_iconst C (-1) dX6_boundTo_32 rfl (by decide) ?_
        refine w_goto (q := 49) C dX6_boundTo_33 (by decide) ?_
        exact w_sub [1, 2, 3, 4, 5] rfl (hJ7 _ h)
theorem cfX6_boundTo (D : va_G) (cI : ClassId) (ad : Nat → Nat) {l : Launch} (had : gAp (gC D cI ad)) {F : Nat} {σ : St} {a0 : Int32} {a1 : Int32} {r : Int32} (h : fX6_boundTo F σ a0 a1 = some r) : MI l yX6_boundTo (wB yX6_boundTo cX6_boundTo 7 (some .int)) 1 22 (gC D cI ad) [.ref (ad 81), .int a0, .int a1] σ r σ := mk_MI had (by decide +kernel) (Nat.le_of_ble_eq_true rfl) (fun X hX C hr => wfX6_boundTo C hr h)

def fX6_hasStamped (F : Nat) (σ : St) (a0 : Int32) (a1 : Int32) (a2 : Int32) : Option Int32 := bd1 (fX6_boundTo F σ a0 a1) fun r1 => if r1 = ((-1)) then (some 0) else ckI ((a0 * 8) + a1) 48 (if ((σ 34 (Int32.toNatClampNeg ((a0 * 8) + a1))) + a2) ≤ r1 then (some 0) else some 1)
set_option maxRecDepth 20000 in
theorem wfX6_hasStamped {X : XT} {D : va_G} {cI : ClassId} {ad : Nat → Nat} {F : Nat} {σ : St} {a0 : Int32} {a1 : Int32} {a2 : Int32} {r : Int32} (C : Cx X (gC D cI ad) cX6_hasStamped 5 RX6 2 48 0) (hr : RetZ X (gC D cI ad) cX6_hasStamped 5 0 r σ) (h : fX6_hasStamped F σ a0 a1 a2 = some r) : WP X (gC D cI ad) 5 0 0 σ [(0, .ref (ad 81)), (1, .int a0), (2, .int a1), (3, .int a2)] [] := by
  unfold fX6_hasStamped at h
  refine w_aload_n C dX6_hasStamped_0 rfl 0 rfl ?_
  refine w_iload_n C dX6_hasStamped_1 rfl 1 rfl ?_
  refine w_iload_n C dX6_hasStamped_2 rfl 2 rfl ?_
  refine bd1_w h (fun r1 hc h => ?_)
  refine w_callVi C (As := [.int a0, .int a1]) (st := []) 81 (Nat.le_of_ble_eq_true rfl) rfl rfl (cfX6_boundTo D cI ad (l := X.2.1) C.2.2.1 hc) tw4_209 cy_X6_boundTo (by decide +kernel) ⟨Nat.le_of_ble_eq_true rfl, Nat.le_of_ble_eq_true rfl⟩ (by decide) rfl rfl (Nat.le_of_ble_eq_true rfl) dX6_hasStamped_3 rfl ?_
  refine w_istore C [(4, .int r1), (0, .ref (ad 81)), (1, .int a0), (2, .int a1), (3, .int a2)] dX6_hasStamped_6 rfl (by decide) rfl ?_
  refine w_iload C dX6_hasStamped_8 rfl 0 rfl ?_
  refine w_iconst C (-1) dX6_hasStamped_10 rfl (by decide) ?_
  refine w_icmp_eq C (qt := 39) dX6_hasStamped_11 (by decide) rfl h (fun _ h => ?_) (fun _ h => ?_)
  · refine w_iconst C 0 dX6_hasStamped_39 rfl (by decide) ?_
    exact w_rz1 hr (by decide) h (by decide) dX6_hasStamped_40
  · refine w_aload_n C dX6_hasStamped_14 rfl 1 rfl ?_
    refine w_get C 81 1 (Nat.le_of_ble_eq_true rfl) rfl rfl inB_X6 (by decide) tw2_102 rfl dX6_hasStamped_15 rfl ?_
    refine w_get C 30 6 (Nat.le_of_ble_eq_true rfl) rfl rfl inB_X9 (by decide) tw1_208 rfl dX6_hasStamped_18 rfl ?_
    refine w_iload_n C dX6_hasStamped_21 rfl 2 rfl ?_
    refine w_bipush C 8 dX6_hasStamped_22 rfl (by decide) ?_
    refine w_imul C dX6_hasStamped_24 rfl ?_
    refine w_iload_n C dX6_hasStamped_25 rfl 3 rfl ?_
    refine w_iadd C dX6_hasStamped_26 rfl ?_
    refine w_iald C 34 48 0 (Nat.le_of_ble_eq_true rfl) (fun _ => rfl) rfl h dX6_hasStamped_27 rfl (fun h => ?_)
    refine w_iload_n C dX6_hasStamped_28 rfl 4 rfl ?_
    refine w_iadd C dX6_hasStamped_29 rfl ?_
    refine w_iload C dX6_hasStamped_30 rfl 0 rfl ?_
    refine w_icmp_le C (qt := 39) dX6_hasStamped_32 (by decide) rfl h (fun _ h => ?_) (fun _ h => ?_)
    · refine w_iconst C 0 dX6_hasStamped_39 rfl (by decide) ?_
      exact w_rz1 hr (by decide) h (by decide) dX6_hasStamped_40
    · refine w_iconst C 1 dX6_hasStamped_35 rfl (by decide) ?_
      refine w_goto (q := 40) C dX6_hasStamped_36 (by decide) ?_
      exact w_rz1 hr (by decide) h (by decide) dX6_hasStamped_40
theorem cfX6_hasStamped (D : va_G) (cI : ClassId) (ad : Nat → Nat) {l : Launch} (had : gAp (gC D cI ad)) {F : Nat} {σ : St} {a0 : Int32} {a1 : Int32} {a2 : Int32} {r : Int32} (h : fX6_hasStamped F σ a0 a1 a2 = some r) : MI l yX6_hasStamped (wB yX6_hasStamped cX6_hasStamped 5 (some .boolean)) 2 48 (gC D cI ad) [.ref (ad 81), .int a0, .int a1, .int a2] σ r σ := mk_MZ had (by decide +kernel) (Nat.le_of_ble_eq_true rfl) (fun X hX C hr => wfX6_hasStamped C hr h)

def fX6_countStamped (F : Nat) (σ : St) : Option Int32 := lp (fun (K2 : (Int32 × Int32) → Option Int32) (v1 : Int32 × Int32) => if (σ 2 0) ≤ v1.1 then (some v1.2) else lp (fun (K5 : (Int32 × Int32) → Option Int32) (v4 : Int32 × Int32) => if 8 ≤ v4.1 then (if v4.2 = 0 then (nm (v1.2 + 0) fun x7 => K2 ((v1.1 + 1, x7))) else nm (v1.2 + 1) fun x8 => K2 ((v1.1 + 1, x8))) else if v4.2 = 0 then (bd1 (fX6_hasStamped F σ v1.1 v4.1 0) fun r9 => if r9 = 0 then (K5 ((v4.1 + 1, 0))) else K5 ((v4.1 + 1, 1))) else K5 ((v4.1 + 1, 1))) F ((0, 0))) F ((0, 0))
set_option maxRecDepth 20000 in
theorem wfX6_countStamped {X : XT} {D : va_G} {cI : ClassId} {ad : Nat → Nat} {F : Nat} {σ : St}  {r : Int32} (C : Cx X (gC D cI ad) cX6_countStamped 5 RX6 3 72 0) (hr : RetI X (gC D cI ad) cX6_countStamped 5 0 r σ) (h : fX6_countStamped F σ = some r) : WP X (gC D cI ad) 5 0 0 σ [(0, .ref (ad 81))] [] := by
  unfold fX6_countStamped at h
  refine w_iconst C 0 dX6_countStamped_0 rfl (by decide) ?_
  refine w_istore_n C [(1, .int 0), (0, .ref (ad 81))] dX6_countStamped_1 rfl (by decide) rfl ?_
  refine w_iconst C 0 dX6_countStamped_2 rfl (by decide) ?_
  refine w_istore_n C [(2, .int 0), (1, .int 0), (0, .ref (ad 81))] dX6_countStamped_3 rfl (by decide) rfl ?_
  refine w_sub [0, 1, 2] rfl ?_
  refine lp_w (fun v1 : Int32 × Int32 => WP X (gC D cI ad) 5 0 4 σ [(2, .int v1.1), (1, .int v1.2), (0, .ref (ad 81))] []) (fun K2 hK3 v1 h => ?_) F _ h
  refine w_iload_n C dX6_countStamped_4 rfl 0 rfl ?_
  refine w_aload_n C dX6_countStamped_5 rfl 2 rfl ?_
  refine w_get C 81 0 (Nat.le_of_ble_eq_true rfl) rfl rfl inB_X6 (by decide) tw2_101 rfl dX6_countStamped_6 rfl ?_
  refine w_get C 2 0 (Nat.le_of_ble_eq_true rfl) rfl rfl inB_X0 (by decide) tw1_61 rfl dX6_countStamped_9 rfl ?_
  refine w_icmp_ge C (qt := 72) dX6_countStamped_12 (by decide) rfl h (fun _ h => ?_) (fun _ h => ?_)
  · refine w_iload_n C dX6_countStamped_72 rfl 1 rfl ?_
    exact w_ri1 hr h (by decide) dX6_countStamped_73
  · refine w_iconst C 0 dX6_countStamped_15 rfl (by decide) ?_
    refine w_istore_n C [(3, .int 0), (2, .int v1.1), (1, .int v1.2), (0, .ref (ad 81))] dX6_countStamped_16 rfl (by decide) rfl ?_
    refine w_iconst C 0 dX6_countStamped_17 rfl (by decide) ?_
    refine w_istore C [(4, .int 0), (3, .int 0), (2, .int v1.1), (1, .int v1.2), (0, .ref (ad 81))] dX6_countStamped_18 rfl (by decide) rfl ?_
    refine w_sub [0, 1, 2, 3, 4] rfl ?_
    refine lp_w (fun v4 : Int32 × Int32 => WP X (gC D cI ad) 5 0 20 σ [(4, .int v4.1), (3, .int v4.2), (2, .int v1.1), (1, .int v1.2), (0, .ref (ad 81))] []) (fun K5 hK6 v4 h => ?_) F _ h
    refine w_iload C dX6_countStamped_20 rfl 0 rfl ?_
    refine w_bipush C 8 dX6_countStamped_22 rfl (by decide) ?_
    refine w_icmp_ge C (qt := 54) dX6_countStamped_24 (by decide) rfl h (fun _ h => ?_) (fun _ h => ?_)
    · refine w_iload_n C dX6_countStamped_54 rfl 3 rfl ?_
      refine w_iload_n C dX6_countStamped_55 rfl 1 rfl ?_
      refine w_if_eq C (qt := 63) dX6_countStamped_56 (by decide) rfl h (fun _ h => ?_) (fun _ h => ?_)
      · refine w_iconst C 0 dX6_countStamped_63 rfl (by decide) ?_
        refine w_iadd C dX6_countStamped_64 rfl ?_
        refine w_nm h (fun x7 h => ?_)
        refine w_istore_n C [(1, .int x7), (4, .int v4.1), (3, .int v4.2), (2, .int v1.1), (0, .ref (ad 81))] dX6_countStamped_65 rfl (by decide) rfl ?_
        refine w_iinc (j := 3) C (v1.1 + 1) [(2, .int (v1.1 + 1)), (1, .int x7), (4, .int v4.1), (3, .int v4.2), (0, .ref (ad 81))] dX6_countStamped_66 rfl rfl rfl (by decide) rfl ?_
        refine w_goto (q := 4) C dX6_countStamped_69 (by decide) ?_
        exact w_sub [0, 1, 4] rfl (hK3 _ h)
      · refine w_iconst C 1 dX6_countStamped_59 rfl (by decide) ?_
        refine w_goto (q := 64) C dX6_countStamped_60 (by decide) ?_
        refine w_iadd C dX6_countStamped_64 rfl ?_
        refine w_nm h (fun x8 h => ?_)
        refine w_istore_n C [(1, .int x8), (4, .int v4.1), (3, .int v4.2), (2, .int v1.1), (0, .ref (ad 81))] dX6_countStamped_65 rfl (by decide) rfl ?_
        refine w_iinc (j := 3) C (v1.1 + 1) [(2, .int (v1.1 + 1)), (1, .int x8), (4, .int v4.1), (3, .int v4.2), (0, .ref (ad 81))] dX6_countStamped_66 rfl rfl rfl (by decide) rfl ?_
        refine w_goto (q := 4) C dX6_countStamped_69 (by decide) ?_
        exact w_sub [0, 1, 4] rfl (hK3 _ h)
    · refine w_iload_n C dX6_countStamped_27 rfl 1 rfl ?_
      refine w_if_ne C (qt := 42) dX6_countStamped_28 (by decide) rfl h (fun _ h => ?_) (fun _ h => ?_)
      · refine w_iconst C 1 dX6_countStamped_42 rfl (by decide) ?_
        refine w_goto (q := 47) C dX6_countStamped_43 (by decide) ?_
        refine w_istore_n C [(3, .int 1), (4, .int v4.1), (2, .int v1.1), (1, .int v1.2), (0, .ref (ad 81))] dX6_countStamped_47 rfl (by decide) rfl ?_
        refine w_iinc (j := 1) C (v4.1 + 1) [(4, .int (v4.1 + 1)), (3, .int 1), (2, .int v1.1), (1, .int v1.2), (0, .ref (ad 81))] dX6_countStamped_48 rfl rfl rfl (by decide) rfl ?_
        refine w_goto (q := 20) C dX6_countStamped_51 (by decide) ?_
        exact w_sub [0, 1, 2, 3, 4] rfl (hK6 _ h)
      · refine w_aload_n C dX6_countStamped_31 rfl 4 rfl ?_
        refine w_iload_n C dX6_countStamped_32 rfl 2 rfl ?_
        refine w_iload C dX6_countStamped_33 rfl 0 rfl ?_
        refine w_iconst C 0 dX6_countStamped_35 rfl (by decide) ?_
        refine bd1_w h (fun r9 hc h => ?_)
        refine w_callVi C (As := [.int v1.1, .int v4.1, .int 0]) (st := []) 81 (Nat.le_of_ble_eq_true rfl) rfl rfl (cfX6_hasStamped D cI ad (l := X.2.1) C.2.2.1 hc) tw4_205 cy_X6_hasStamped (by decide +kernel) ⟨Nat.le_of_ble_eq_true rfl, Nat.le_of_ble_eq_true rfl⟩ (by decide) rfl rfl (Nat.le_of_ble_eq_true rfl) dX6_countStamped_36 rfl ?_
        refine w_if_eq C (qt := 46) dX6_countStamped_39 (by decide) rfl h (fun _ h => ?_) (fun _ h => ?_)
        · refine w_iconst C 0 dX6_countStamped_46 rfl (by decide) ?_
          refine w_istore_n C [(3, .int 0), (4, .int v4.1), (2, .int v1.1), (1, .int v1.2), (0, .ref (ad 81))] dX6_countStamped_47 rfl (by decide) rfl ?_
          refine w_iinc (j := 1) C (v4.1 + 1) [(4, .int (v4.1 + 1)), (3, .int 0), (2, .int v1.1), (1, .int v1.2), (0, .ref (ad 81))] dX6_countStamped_48 rfl rfl rfl (by decide) rfl ?_
          refine w_goto (q := 20) C dX6_countStamped_51 (by decide) ?_
          exact w_sub [0, 1, 2, 3, 4] rfl (hK6 _ h)
        · refine w_iconst C 1 dX6_countStamped_42 rfl (by decide) ?_
          refine w_goto (q := 47) C dX6_countStamped_43 (by decide) ?_
          refine w_istore_n C [(3, .int 1), (4, .int v4.1), (2, .int v1.1), (1, .int v1.2), (0, .ref (ad 81))] dX6_countStamped_47 rfl (by decide) rfl ?_
          refine w_iinc (j := 1) C (v4.1 + 1) [(4, .int (v4.1 + 1)), (3, .int 1), (2, .int v1.1), (1, .int v1.2), (0, .ref (ad 81))] dX6_countStamped_48 rfl rfl rfl (by decide) rfl ?_
          refine w_goto (q := 20) C dX6_countStamped_51 (by decide) ?_
          exact w_sub [0, 1, 2, 3, 4] rfl (hK6 _ h)
theorem cfX6_countStamped (D : va_G) (cI : ClassId) (ad : Nat → Nat) {l : Launch} (had : gAp (gC D cI ad)) {F : Nat} {σ : St}  {r : Int32} (h : fX6_countStamped F σ = some r) : MI l yX6_countStamped (wB yX6_countStamped cX6_countStamped 5 (some .int)) 3 72 (gC D cI ad) [.ref (ad 81)] σ r σ := mk_MI had (by decide +kernel) (Nat.le_of_ble_eq_true rfl) (fun X hX C hr => wfX6_countStamped C hr h)

def fX10_count (F : Nat) (σ : St) (a0 : Int32) : Option (Nat × Int32 × St) := if a0 = 0 then (some (0, σ 2 0, σ)) else if a0 = 1 then (some (0, σ 2 1, σ)) else if a0 = 2 then (some (0, σ 2 2, σ)) else if a0 = 3 then (some (0, σ 30 0, σ)) else if a0 = 4 then (bd2 (fX2_bindingBits F σ 0) fun r5 u6 => some (0, r5, u6)) else if a0 = 5 then (bd2 (fX2_bindingBits F σ 0) fun r8 u9 => bd1 (fX6_weighAll F u9 r8) fun u10 => bd1 (fX6_countStamped F u10) fun r11 => some (0, r11, u10)) else if a0 = 6 then (some (0, σ 30 1, σ)) else if a0 = 7 then (some (0, σ 30 2, σ)) else if a0 = 8 then (some (0, σ 0 1, σ)) else if a0 = 9 then (ckI (a0 - 9) 3 (some (0, σ 41 (Int32.toNatClampNeg (a0 - 9)), σ))) else if a0 = 10 then (ckI (a0 - 9) 3 (some (0, σ 41 (Int32.toNatClampNeg (a0 - 9)), σ))) else if a0 = 11 then (ckI (a0 - 9) 3 (some (0, σ 41 (Int32.toNatClampNeg (a0 - 9)), σ))) else some (1, 0, σ)
set_option maxRecDepth 20000 in
theorem wfX10_count {X : XT} {D : va_G} {cI : ClassId} {ad : Nat → Nat} {F : Nat} {σ : St} {a0 : Int32} {res : Nat × Int32 × St} (C : Cx X (gC D cI ad) cX10_count 2 RX10 7 140 1) (hr : RetXi X (gC D cI ad) cX10_count 2 1 res) (hx : ThrX X (gC D cI ad) cX10_count 2 1 res) (h : fX10_count F σ a0 = some res) : WP X (gC D cI ad) 2 0 0 σ [(0, .ref (ad 0)), (1, .int a0)] [] := by
  unfold fX10_count at h
  refine w_iload_n C dX10_count_0 rfl 1 rfl ?_
  refine if_w h (fun e1 h => ?_) (fun e1 h => ?_)
  · refine w_tsIn (q := 64) C 0 e1 dX10_count_1 (by decide) (by decide) rfl (by decide) ?_
    refine w_aload_n C dX10_count_64 rfl 0 rfl ?_
    refine w_get C 0 4 (Nat.le_of_ble_eq_true rfl) rfl rfl inB_X10 (by decide) tw2_176 rfl dX10_count_65 rfl ?_
    refine w_get C 2 0 (Nat.le_of_ble_eq_true rfl) rfl rfl inB_X0 (by decide) tw1_60 rfl dX10_count_68 rfl ?_
    exact w_rxi hr h (by decide) dX10_count_71
  refine if_w h (fun e2 h => ?_) (fun e2 h => ?_)
  · refine w_tsIn (q := 72) C 1 e2 dX10_count_1 (by decide) (by decide) rfl (by decide) ?_
    refine w_aload_n C dX10_count_72 rfl 0 rfl ?_
    refine w_get C 0 4 (Nat.le_of_ble_eq_true rfl) rfl rfl inB_X10 (by decide) tw2_176 rfl dX10_count_73 rfl ?_
    refine w_get C 2 1 (Nat.le_of_ble_eq_true rfl) rfl rfl inB_X0 (by decide) tw1_67 rfl dX10_count_76 rfl ?_
    exact w_rxi hr h (by decide) dX10_count_79
  refine if_w h (fun e3 h => ?_) (fun e3 h => ?_)
  · refine w_tsIn (q := 80) C 2 e3 dX10_count_1 (by decide) (by decide) rfl (by decide) ?_
    refine w_aload_n C dX10_count_80 rfl 0 rfl ?_
    refine w_get C 0 4 (Nat.le_of_ble_eq_true rfl) rfl rfl inB_X10 (by decide) tw2_176 rfl dX10_count_81 rfl ?_
    refine w_get C 2 2 (Nat.le_of_ble_eq_true rfl) rfl rfl inB_X0 (by decide) tw1_72 rfl dX10_count_84 rfl ?_
    exact w_rxi hr h (by decide) dX10_count_87
  refine if_w h (fun e4 h => ?_) (fun e4 h => ?_)
  · refine w_tsIn (q := 88) C 3 e4 dX10_count_1 (by decide) (by decide) rfl (by decide) ?_
    refine w_aload_n C dX10_count_88 rfl 0 rfl ?_
    refine w_get C 0 7 (Nat.le_of_ble_eq_true rfl) rfl rfl inB_X10 (by decide) tw2_179 rfl dX10_count_89 rfl ?_
    refine w_get C 30 0 (Nat.le_of_ble_eq_true rfl) rfl rfl inB_X9 (by decide) tw1_191 rfl dX10_count_92 rfl ?_
    exact w_rxi hr h (by decide) dX10_count_95
  refine if_w h (fun e7 h => ?_) (fun e7 h => ?_)
  · refine w_tsIn (q := 96) C 4 e7 dX10_count_1 (by decide) (by decide) rfl (by decide) ?_
    refine w_aload_n C dX10_count_96 rfl 0 rfl ?_
    refine w_get C 0 10 (Nat.le_of_ble_eq_true rfl) rfl rfl inB_X10 (by decide) tw2_182 rfl dX10_count_97 rfl ?_
    refine w_aload_n C dX10_count_100 rfl 0 rfl ?_
    refine w_get C 0 7 (Nat.le_of_ble_eq_true rfl) rfl rfl inB_X10 (by decide) tw2_179 rfl dX10_count_101 rfl ?_
    refine w_iconst C 0 dX10_count_104 rfl (by decide) ?_
    refine bd2_w h (fun r5 u6 hc h => ?_)
    refine w_callVi C (As := [.ref (ad 30), .int 0]) (st := []) 66 (Nat.le_of_ble_eq_true rfl) rfl rfl (cfX2_bindingBits D cI ad (l := X.2.1) C.2.2.1 hc) tw4_88 cy_X2_bindingBits (by decide +kernel) ⟨Nat.le_of_ble_eq_true rfl, Nat.le_of_ble_eq_true rfl⟩ (by decide) rfl rfl (Nat.le_of_ble_eq_true rfl) dX10_count_105 rfl ?_
    exact w_rxi hr h (by decide) dX10_count_108
  refine if_w h (fun e12 h => ?_) (fun e12 h => ?_)
  · refine w_tsIn (q := 109) C 5 e12 dX10_count_1 (by decide) (by decide) rfl (by decide) ?_
    refine w_aload_n C dX10_count_109 rfl 0 rfl ?_
    refine w_get C 0 12 (Nat.le_of_ble_eq_true rfl) rfl rfl inB_X10 (by decide) tw2_184 rfl dX10_count_110 rfl ?_
    refine w_aload_n C dX10_count_113 rfl 0 rfl ?_
    refine w_get C 0 10 (Nat.le_of_ble_eq_true rfl) rfl rfl inB_X10 (by decide) tw2_182 rfl dX10_count_114 rfl ?_
    refine w_aload_n C dX10_count_117 rfl 0 rfl ?_
    refine w_get C 0 7 (Nat.le_of_ble_eq_true rfl) rfl rfl inB_X10 (by decide) tw2_179 rfl dX10_count_118 rfl ?_
    refine w_iconst C 0 dX10_count_121 rfl (by decide) ?_
    refine bd2_w h (fun r8 u9 hc h => ?_)
    refine w_callVi C (As := [.ref (ad 30), .int 0]) (st := [.ref (ad 81)]) 66 (Nat.le_of_ble_eq_true rfl) rfl rfl (cfX2_bindingBits D cI ad (l := X.2.1) C.2.2.1 hc) tw4_88 cy_X2_bindingBits (by decide +kernel) ⟨Nat.le_of_ble_eq_true rfl, Nat.le_of_ble_eq_true rfl⟩ (by decide) rfl rfl (Nat.le_of_ble_eq_true rfl) dX10_count_122 rfl ?_
    refine bd1_w h (fun u10 hc h => ?_)
    refine w_callVv C (As := [.int r8]) (st := []) 81 (Nat.le_of_ble_eq_true rfl) rfl rfl (cfX6_weighAll D cI ad (l := X.2.1) C.2.2.1 hc) tw4_149 cy_X6_weighAll (by decide +kernel) ⟨Nat.le_of_ble_eq_true rfl, Nat.le_of_ble_eq_true rfl⟩ (by decide) rfl rfl (Nat.le_of_ble_eq_true rfl) dX10_count_125 rfl ?_
    refine w_aload_n C dX10_count_128 rfl 0 rfl ?_
    refine w_get C 0 12 (Nat.le_of_ble_eq_true rfl) rfl rfl inB_X10 (by decide) tw2_184 rfl dX10_count_129 rfl ?_
    refine bd1_w h (fun r11 hc h => ?_)
    refine w_callVi C (As := []) (st := []) 81 (Nat.le_of_ble_eq_true rfl) rfl rfl (cfX6_countStamped D cI ad (l := X.2.1) C.2.2.1 hc) tw4_201 cy_X6_countStamped (by decide +kernel) ⟨Nat.le_of_ble_eq_true rfl, Nat.le_of_ble_eq_true rfl⟩ (by decide) rfl rfl (Nat.le_of_ble_eq_true rfl) dX10_count_132 rfl ?_
    exact w_rxi hr h (by decide) dX10_count_135
  refine if_w h (fun e13 h => ?_) (fun e13 h => ?_)
  · refine w_tsIn (q := 136) C 6 e13 dX10_count_1 (by decide) (by decide) rfl (by decide) ?_
    refine w_aload_n C dX10_count_136 rfl 0 rfl ?_
    refine w_get C 0 7 (Nat.le_of_ble_eq_true rfl) rfl rfl inB_X10 (by decide) tw2_179 rfl dX10_count_137 rfl ?_
    refine w_get C 30 1 (Nat.le_of_ble_eq_true rfl) rfl rfl inB_X9 (by decide) tw1_193 rfl dX10_count_140 rfl ?_
    exact w_rxi hr h (by decide) dX10_count_143
  refine if_w h (fun e14 h => ?_) (fun e14 h => ?_)
  · refine w_tsIn (q := 144) C 7 e14 dX10_count_1 (by decide) (by decide) rfl (by decide) ?_
    refine w_aload_n C dX10_count_144 rfl 0 rfl ?_
    refine w_get C 0 7 (Nat.le_of_ble_eq_true rfl) rfl rfl inB_X10 (by decide) tw2_179 rfl dX10_count_145 rfl ?_
    refine w_get C 30 2 (Nat.le_of_ble_eq_true rfl) rfl rfl inB_X9 (by decide) tw1_195 rfl dX10_count_148 rfl ?_
    exact w_rxi hr h (by decide) dX10_count_151
  refine if_w h (fun e15 h => ?_) (fun e15 h => ?_)
  · refine w_tsIn (q := 152) C 8 e15 dX10_count_1 (by decide) (by decide) rfl (by decide) ?_
    refine w_aload_n C dX10_count_152 rfl 0 rfl ?_
    refine w_get C 0 1 (Nat.le_of_ble_eq_true rfl) rfl rfl inB_X10 (by decide) tw2_173 rfl dX10_count_153 rfl ?_
    exact w_rxi hr h (by decide) dX10_count_156
  refine if_w h (fun e16 h => ?_) (fun e16 h => ?_)
  · refine w_tsIn (q := 157) C 9 e16 dX10_count_1 (by decide) (by decide) rfl (by decide) ?_
    refine w_aload_n C dX10_count_157 rfl 0 rfl ?_
    refine w_get C 0 7 (Nat.le_of_ble_eq_true rfl) rfl rfl inB_X10 (by decide) tw2_179 rfl dX10_count_158 rfl ?_
    refine w_get C 30 13 (Nat.le_of_ble_eq_true rfl) rfl rfl inB_X9 (by decide) tw1_222 rfl dX10_count_161 rfl ?_
    refine w_iload_n C dX10_count_164 rfl 1 rfl ?_
    refine w_bipush C 9 dX10_count_165 rfl (by decide) ?_
    refine w_isub C dX10_count_167 rfl ?_
    refine w_iald C 41 3 0 (Nat.le_of_ble_eq_true rfl) (fun _ => rfl) rfl h dX10_count_168 rfl (fun h => ?_)
    exact w_rxi hr h (by decide) dX10_count_169
  refine if_w h (fun e17 h => ?_) (fun e17 h => ?_)
  · refine w_tsIn (q := 157) C 10 e17 dX10_count_1 (by decide) (by decide) rfl (by decide) ?_
    refine w_aload_n C dX10_count_157 rfl 0 rfl ?_
    refine w_get C 0 7 (Nat.le_of_ble_eq_true rfl) rfl rfl inB_X10 (by decide) tw2_179 rfl dX10_count_158 rfl ?_
    refine w_get C 30 13 (Nat.le_of_ble_eq_true rfl) rfl rfl inB_X9 (by decide) tw1_222 rfl dX10_count_161 rfl ?_
    refine w_iload_n C dX10_count_164 rfl 1 rfl ?_
    refine w_bipush C 9 dX10_count_165 rfl (by decide) ?_
    refine w_isub C dX10_count_167 rfl ?_
    refine w_iald C 41 3 0 (Nat.le_of_ble_eq_true rfl) (fun _ => rfl) rfl h dX10_count_168 rfl (fun h => ?_)
    exact w_rxi hr h (by decide) dX10_count_169
  refine if_w h (fun e18 h => ?_) (fun e18 h => ?_)
  · refine w_tsIn (q := 157) C 11 e18 dX10_count_1 (by decide) (by decide) rfl (by decide) ?_
    refine w_aload_n C dX10_count_157 rfl 0 rfl ?_
    refine w_get C 0 7 (Nat.le_of_ble_eq_true rfl) rfl rfl inB_X10 (by decide) tw2_179 rfl dX10_count_158 rfl ?_
    refine w_get C 30 13 (Nat.le_of_ble_eq_true rfl) rfl rfl inB_X9 (by decide) tw1_222 rfl dX10_count_161 rfl ?_
    refine w_iload_n C dX10_count_164 rfl 1 rfl ?_
    refine w_bipush C 9 dX10_count_165 rfl (by decide) ?_
    refine w_isub C dX10_count_167 rfl ?_
    refine w_iald C 41 3 0 (Nat.le_of_ble_eq_true rfl) (fun _ => rfl) rfl h dX10_count_168 rfl (fun h => ?_)
    exact w_rxi hr h (by decide) dX10_count_169
  refine w_tsOut (q := 170) C dX10_count_1 (ts_out (0) 11 (by decide) (fun k hk => by
    have hk : k = 0 ∨ k = 1 ∨ k = 2 ∨ k = 3 ∨ k = 4 ∨ k = 5 ∨ k = 6 ∨ k = 7 ∨ k = 8 ∨ k = 9 ∨ k = 10 ∨ k = 11 := by omega
    rcases hk with rfl | rfl | rfl | rfl | rfl | rfl | rfl | rfl | rfl | rfl | rfl | rfl
    exacts [e1, e2, e3, e4, e7, e12, e13, e14, e15, e16, e17, e18])) (by decide) ?_
  exact w_thr1 hx (tx := "no such count") 101 (by decide) h (by decide) dX10_count_170 dX10_count_173 dX10_count_174 dX10_count_176 dX10_count_179
theorem cfX10_count (D : va_G) (cI : ClassId) (ad : Nat → Nat) {l : Launch} (had : gAp (gC D cI ad)) {F : Nat} {σ : St} {a0 : Int32} {res : Nat × Int32 × St} (h : fX10_count F σ a0 = some res) : MX l yX10_count (wB yX10_count cX10_count 2 (some .int)) 7 140 1 (gC D cI ad) [.ref (ad 0), .int a0] σ res := mk_MX had (by decide +kernel) (Nat.le_of_ble_eq_true rfl) (fun X hX C hr hx => wfX10_count C hr hx h)

def fX10_checkValley (F : Nat) (σ : St) (a0 : Int32) : Option Nat := jn (fun v1 : Unit => some 1) fun J2 => if a0 < 0 then (J2 (())) else if a0 < (σ 2 0) then (some 0) else J2 (())
set_option maxRecDepth 20000 in
theorem wfX10_checkValley {X : XT} {D : va_G} {cI : ClassId} {ad : Nat → Nat} {F : Nat} {σ : St} {a0 : Int32} {res : Nat} (C : Cx X (gC D cI ad) cX10_checkValley 2 RX10 7 110 1) (hr : RetXv X (gC D cI ad) cX10_checkValley 2 1 σ res) (hx : ThrC X (gC D cI ad) cX10_checkValley 2 1 σ res) (h : fX10_checkValley F σ a0 = some res) : WP X (gC D cI ad) 2 0 0 σ [(0, .ref (ad 0)), (1, .int a0)] [] := by
  unfold fX10_checkValley at h
  refine w_iload_n C dX10_checkValley_0 rfl 1 rfl ?_
  refine jn_w (fun v1 : Unit => WP X (gC D cI ad) 2 0 15 σ [] []) h (fun v1 h => ?_) (fun J2 hJ3 h => ?_)
  · exact w_thrW1 hx (tx := "no such valley") 109 (by decide) h (by decide) dX10_checkValley_15 dX10_checkValley_18 dX10_checkValley_19 dX10_checkValley_22 dX10_checkValley_25
  · refine w_if_lt C (qt := 15) dX10_checkValley_1 (by decide) rfl h (fun _ h => ?_) (fun _ h => ?_)
    · exact w_sub [] rfl (hJ3 _ h)
    · refine w_iload_n C dX10_checkValley_4 rfl 1 rfl ?_
      refine w_aload_n C dX10_checkValley_5 rfl 0 rfl ?_
      refine w_get C 0 4 (Nat.le_of_ble_eq_true rfl) rfl rfl inB_X10 (by decide) tw2_176 rfl dX10_checkValley_6 rfl ?_
      refine w_get C 2 0 (Nat.le_of_ble_eq_true rfl) rfl rfl inB_X0 (by decide) tw1_60 rfl dX10_checkValley_9 rfl ?_
      refine w_icmp_lt C (qt := 26) dX10_checkValley_12 (by decide) rfl h (fun _ h => ?_) (fun _ h => ?_)
      · exact w_rxv hr h (by decide) dX10_checkValley_26
      · exact w_sub [] rfl (hJ3 _ h)
theorem cfX10_checkValley (D : va_G) (cI : ClassId) (ad : Nat → Nat) {l : Launch} (had : gAp (gC D cI ad)) {F : Nat} {σ : St} {a0 : Int32} {res : Nat} (h : fX10_checkValley F σ a0 = some res) : MC l yX10_checkValley (wB yX10_checkValley cX10_checkValley 2 none) 7 110 1 (gC D cI ad) [.ref (ad 0), .int a0] σ res := mk_MC had (by decide +kernel) (Nat.le_of_ble_eq_true rfl) (fun X hX C hr hx => wfX10_checkValley C hr hx h)

def fX10_knees (F : Nat) (σ : St) (a0 : Int32) : Option (Nat × Int32 × St) := bd1 (fX10_checkValley F σ a0) fun t1 => if t1 = 0 then (ckI (a0) 6 (some (0, σ 3 (Int32.toNatClampNeg a0), σ))) else some (t1, 0, σ)
set_option maxRecDepth 20000 in
theorem wfX10_knees {X : XT} {D : va_G} {cI : ClassId} {ad : Nat → Nat} {F : Nat} {σ : St} {a0 : Int32} {res : Nat × Int32 × St} (C : Cx X (gC D cI ad) cX10_knees 2 RX10 8 131 1) (hr : RetXi X (gC D cI ad) cX10_knees 2 1 res) (hx : ThrX X (gC D cI ad) cX10_knees 2 1 res) (h : fX10_knees F σ a0 = some res) : WP X (gC D cI ad) 2 0 0 σ [(0, .ref (ad 0)), (1, .int a0)] [] := by
  unfold fX10_knees at h
  refine w_aload_n C dX10_knees_0 rfl 0 rfl ?_
  refine w_iload_n C dX10_knees_1 rfl 1 rfl ?_
  refine bd1_w h (fun t1 hc h => ?_)
  refine w_callX C hx (As := [.int a0]) (st := []) 0 (by decide) rfl rfl (cfX10_checkValley D cI ad (l := X.2.1) C.2.2.1 hc) tw5_0 cy_X10_checkValley (by decide +kernel) ⟨by decide, by decide⟩ (by decide) rfl rfl (by decide) dX10_knees_2 rfl h (fun h => ?_)
  refine w_aload_n C dX10_knees_5 rfl 0 rfl ?_
  refine w_get C 0 4 (Nat.le_of_ble_eq_true rfl) rfl rfl inB_X10 (by decide) tw2_176 rfl dX10_knees_6 rfl ?_
  refine w_get C 2 5 (Nat.le_of_ble_eq_true rfl) rfl rfl inB_X0 (by decide) tw1_81 rfl dX10_knees_9 rfl ?_
  refine w_iload_n C dX10_knees_12 rfl 1 rfl ?_
  refine w_iald C 3 6 0 (Nat.le_of_ble_eq_true rfl) (fun _ => rfl) rfl h dX10_knees_13 rfl (fun h => ?_)
  exact w_rxi hr h (by decide) dX10_knees_14
theorem cfX10_knees (D : va_G) (cI : ClassId) (ad : Nat → Nat) {l : Launch} (had : gAp (gC D cI ad)) {F : Nat} {σ : St} {a0 : Int32} {res : Nat × Int32 × St} (h : fX10_knees F σ a0 = some res) : MX l yX10_knees (wB yX10_knees cX10_knees 2 (some .int)) 8 131 1 (gC D cI ad) [.ref (ad 0), .int a0] σ res := mk_MX had (by decide +kernel) (Nat.le_of_ble_eq_true rfl) (fun X hX C hr hx => wfX10_knees C hr hx h)

def fX10_checkDance (F : Nat) (σ : St) (a0 : Int32) : Option Nat := jn (fun v1 : Unit => some 1) fun J2 => if a0 < 0 then (J2 (())) else if a0 < (σ 2 1) then (some 0) else J2 (())
set_option maxRecDepth 20000 in
theorem wfX10_checkDance {X : XT} {D : va_G} {cI : ClassId} {ad : Nat → Nat} {F : Nat} {σ : St} {a0 : Int32} {res : Nat} (C : Cx X (gC D cI ad) cX10_checkDance 2 RX10 7 110 1) (hr : RetXv X (gC D cI ad) cX10_checkDance 2 1 σ res) (hx : ThrC X (gC D cI ad) cX10_checkDance 2 1 σ res) (h : fX10_checkDance F σ a0 = some res) : WP X (gC D cI ad) 2 0 0 σ [(0, .ref (ad 0)), (1, .int a0)] [] := by
  unfold fX10_checkDance at h
  refine w_iload_n C dX10_checkDance_0 rfl 1 rfl ?_
  refine jn_w (fun v1 : Unit => WP X (gC D cI ad) 2 0 15 σ [] []) h (fun v1 h => ?_) (fun J2 hJ3 h => ?_)
  · exact w_thrW1 hx (tx := "no such dance") 110 (by decide) h (by decide) dX10_checkDance_15 dX10_checkDance_18 dX10_checkDance_19 dX10_checkDance_22 dX10_checkDance_25
  · refine w_if_lt C (qt := 15) dX10_checkDance_1 (by decide) rfl h (fun _ h => ?_) (fun _ h => ?_)
    · exact w_sub [] rfl (hJ3 _ h)
    · refine w_iload_n C dX10_checkDance_4 rfl 1 rfl ?_
      refine w_aload_n C dX10_checkDance_5 rfl 0 rfl ?_
      refine w_get C 0 4 (Nat.le_of_ble_eq_true rfl) rfl rfl inB_X10 (by decide) tw2_176 rfl dX10_checkDance_6 rfl ?_
      refine w_get C 2 1 (Nat.le_of_ble_eq_true rfl) rfl rfl inB_X0 (by decide) tw1_67 rfl dX10_checkDance_9 rfl ?_
      refine w_icmp_lt C (qt := 26) dX10_checkDance_12 (by decide) rfl h (fun _ h => ?_) (fun _ h => ?_)
      · exact w_rxv hr h (by decide) dX10_checkDance_26
      · exact w_sub [] rfl (hJ3 _ h)
theorem cfX10_checkDance (D : va_G) (cI : ClassId) (ad : Nat → Nat) {l : Launch} (had : gAp (gC D cI ad)) {F : Nat} {σ : St} {a0 : Int32} {res : Nat} (h : fX10_checkDance F σ a0 = some res) : MC l yX10_checkDance (wB yX10_checkDance cX10_checkDance 2 none) 7 110 1 (gC D cI ad) [.ref (ad 0), .int a0] σ res := mk_MC had (by decide +kernel) (Nat.le_of_ble_eq_true rfl) (fun X hX C hr hx => wfX10_checkDance C hr hx h)

def fX10_isBinding (F : Nat) (σ : St) (a0 : Int32) : Option (Int32 × St) := bd1 (fX2_prepare F σ a0 0) fun u1 => ckI (a0) 8 (if (u1 32 (Int32.toNatClampNeg a0)) = 0 then (bd2 (fX2_endsFacing F u1) fun r2 u3 => if r2 = 0 then (some (0, u3)) else some (1, u3)) else some (0, u1))
set_option maxRecDepth 20000 in
theorem wfX10_isBinding {X : XT} {D : va_G} {cI : ClassId} {ad : Nat → Nat} {F : Nat} {σ : St} {a0 : Int32} {r : Int32} {σ' : St} (C : Cx X (gC D cI ad) cX10_isBinding 2 RX10 4 98 0) (hr : RetZ X (gC D cI ad) cX10_isBinding 2 0 r σ') (h : fX10_isBinding F σ a0 = some (r, σ')) : WP X (gC D cI ad) 2 0 0 σ [(0, .ref (ad 0)), (1, .int a0)] [] := by
  unfold fX10_isBinding at h
  refine w_aload_n C dX10_isBinding_0 rfl 0 rfl ?_
  refine w_get C 0 10 (Nat.le_of_ble_eq_true rfl) rfl rfl inB_X10 (by decide) tw2_182 rfl dX10_isBinding_1 rfl ?_
  refine w_aload_n C dX10_isBinding_4 rfl 0 rfl ?_
  refine w_get C 0 7 (Nat.le_of_ble_eq_true rfl) rfl rfl inB_X10 (by decide) tw2_179 rfl dX10_isBinding_5 rfl ?_
  refine w_iload_n C dX10_isBinding_8 rfl 1 rfl ?_
  refine w_iconst C 0 dX10_isBinding_9 rfl (by decide) ?_
  refine bd1_w h (fun u1 hc h => ?_)
  refine w_callVv C (As := [.ref (ad 30), .int a0, .int 0]) (st := []) 66 (Nat.le_of_ble_eq_true rfl) rfl rfl (cfX2_prepare D cI ad (l := X.2.1) C.2.2.1 hc) tw5_23 cy_X2_prepare (by decide +kernel) ⟨Nat.le_of_ble_eq_true rfl, Nat.le_of_ble_eq_true rfl⟩ (by decide) rfl rfl (Nat.le_of_ble_eq_true rfl) dX10_isBinding_10 rfl ?_
  refine w_aload_n C dX10_isBinding_13 rfl 0 rfl ?_
  refine w_get C 0 7 (Nat.le_of_ble_eq_true rfl) rfl rfl inB_X10 (by decide) tw2_179 rfl dX10_isBinding_14 rfl ?_
  refine w_get C 30 4 (Nat.le_of_ble_eq_true rfl) rfl rfl inB_X9 (by decide) tw1_202 rfl dX10_isBinding_17 rfl ?_
  refine w_iload_n C dX10_isBinding_20 rfl 1 rfl ?_
  refine w_iald C 32 8 0 (Nat.le_of_ble_eq_true rfl) (fun _ => rfl) rfl h dX10_isBinding_21 rfl (fun h => ?_)
  refine w_if_ne C (qt := 39) dX10_isBinding_22 (by decide) rfl h (fun _ h => ?_) (fun _ h => ?_)
  · refine w_iconst C 0 dX10_isBinding_39 rfl (by decide) ?_
    exact w_rz2 hr (by decide) h (by decide) dX10_isBinding_40
  · refine w_aload_n C dX10_isBinding_25 rfl 0 rfl ?_
    refine w_get C 0 10 (Nat.le_of_ble_eq_true rfl) rfl rfl inB_X10 (by decide) tw2_182 rfl dX10_isBinding_26 rfl ?_
    refine bd2_w h (fun r2 u3 hc h => ?_)
    refine w_callVi C (As := []) (st := []) 66 (Nat.le_of_ble_eq_true rfl) rfl rfl (cfX2_endsFacing D cI ad (l := X.2.1) C.2.2.1 hc) tw5_24 cy_X2_endsFacing (by decide +kernel) ⟨Nat.le_of_ble_eq_true rfl, Nat.le_of_ble_eq_true rfl⟩ (by decide) rfl rfl (Nat.le_of_ble_eq_true rfl) dX10_isBinding_29 rfl ?_
    refine w_if_eq C (qt := 39) dX10_isBinding_32 (by decide) rfl h (fun _ h => ?_) (fun _ h => ?_)
    · refine w_iconst C 0 dX10_isBinding_39 rfl (by decide) ?_
      exact w_rz2 hr (by decide) h (by decide) dX10_isBinding_40
    · refine w_iconst C 1 dX10_isBinding_35 rfl (by decide) ?_
      refine w_goto (q := 40) C dX10_isBinding_36 (by decide) ?_
      exact w_rz2 hr (by decide) h (by decide) dX10_isBinding_40
theorem cfX10_isBinding (D : va_G) (cI : ClassId) (ad : Nat → Nat) {l : Launch} (had : gAp (gC D cI ad)) {F : Nat} {σ : St} {a0 : Int32} {r : Int32} {σ' : St} (h : fX10_isBinding F σ a0 = some (r, σ')) : MI l yX10_isBinding (wB yX10_isBinding cX10_isBinding 2 (some .boolean)) 4 98 (gC D cI ad) [.ref (ad 0), .int a0] σ r σ' := mk_MZ had (by decide +kernel) (Nat.le_of_ble_eq_true rfl) (fun X hX C hr => wfX10_isBinding C hr h)

def fX2_walkAll (F : Nat) (σ : St) : Option (Int32 × St) := bd1 (fX3_begin F σ (σ 2 2)) fun u1 => bd2 (fX2_walk F u1 0 (u1 66 4)) fun r2 u3 => some (r2, u3)
set_option maxRecDepth 20000 in
theorem wfX2_walkAll {X : XT} {D : va_G} {cI : ClassId} {ad : Nat → Nat} {F : Nat} {σ : St}  {r : Int32} {σ' : St} (C : Cx X (gC D cI ad) cX2_walkAll 1 RX2 3 78 0) (hr : RetI X (gC D cI ad) cX2_walkAll 1 0 r σ') (h : fX2_walkAll F σ = some (r, σ')) : WP X (gC D cI ad) 1 0 0 σ [(0, .ref (ad 66))] [] := by
  unfold fX2_walkAll at h
  refine w_aload_n C dX2_walkAll_0 rfl 0 rfl ?_
  refine w_get C 66 1 (Nat.le_of_ble_eq_true rfl) rfl rfl inB_X2 (by decide) tw2_40 rfl dX2_walkAll_1 rfl ?_
  refine w_aload_n C dX2_walkAll_4 rfl 0 rfl ?_
  refine w_get C 66 0 (Nat.le_of_ble_eq_true rfl) rfl rfl inB_X2 (by decide) tw2_39 rfl dX2_walkAll_5 rfl ?_
  refine w_get C 2 2 (Nat.le_of_ble_eq_true rfl) rfl rfl inB_X0 (by decide) tw1_70 rfl dX2_walkAll_8 rfl ?_
  refine bd1_w h (fun u1 hc h => ?_)
  refine w_callVv C (As := [.int (σ 2 2)]) (st := []) 67 (Nat.le_of_ble_eq_true rfl) rfl rfl (cfX3_begin D cI ad (l := X.2.1) C.2.2.1 hc) tw4_113 cy_X3_begin (by decide +kernel) ⟨Nat.le_of_ble_eq_true rfl, Nat.le_of_ble_eq_true rfl⟩ (by decide) rfl rfl (Nat.le_of_ble_eq_true rfl) dX2_walkAll_11 rfl ?_
  refine w_aload_n C dX2_walkAll_14 rfl 0 rfl ?_
  refine w_iconst C 0 dX2_walkAll_15 rfl (by decide) ?_
  refine w_aload_n C dX2_walkAll_16 rfl 0 rfl ?_
  refine w_get C 66 4 (Nat.le_of_ble_eq_true rfl) rfl rfl inB_X2 (by decide) tw2_47 rfl dX2_walkAll_17 rfl ?_
  refine bd2_w h (fun r2 u3 hc h => ?_)
  refine w_callVi C (As := [.int 0, .int (u1 66 4)]) (st := []) 66 (Nat.le_of_ble_eq_true rfl) rfl rfl (cfX2_walk D cI ad (l := X.2.1) C.2.2.1 hc) tw4_117 cy_X2_walk (by decide +kernel) ⟨Nat.le_of_ble_eq_true rfl, Nat.le_of_ble_eq_true rfl⟩ (by decide) rfl rfl (Nat.le_of_ble_eq_true rfl) dX2_walkAll_20 rfl ?_
  exact w_ri2 hr h (by decide) dX2_walkAll_23
theorem cfX2_walkAll (D : va_G) (cI : ClassId) (ad : Nat → Nat) {l : Launch} (had : gAp (gC D cI ad)) {F : Nat} {σ : St}  {r : Int32} {σ' : St} (h : fX2_walkAll F σ = some (r, σ')) : MI l yX2_walkAll (wB yX2_walkAll cX2_walkAll 1 (some .int)) 3 78 (gC D cI ad) [.ref (ad 66)] σ r σ' := mk_MI had (by decide +kernel) (Nat.le_of_ble_eq_true rfl) (fun X hX C hr => wfX2_walkAll C hr h)

def fX10_dance (F : Nat) (σ : St) (a0 : Int32) (a1 : Int32) : Option (Nat × Int32 × St) := bd1 (fX10_checkDance F σ a0) fun t1 => if t1 = 0 then (if a1 = 0 then (bd1 (fX0_envoy F σ a0 0) fun r2 => some (0, r2, σ)) else if a1 = 1 then (bd1 (fX0_envoy F σ a0 1) fun r4 => some (0, r4, σ)) else if a1 = 2 then (ckI (a0) 8 (some (0, σ 6 (Int32.toNatClampNeg a0), σ))) else if a1 = 3 then (ckI (a0) 8 (some (0, σ 7 (Int32.toNatClampNeg a0), σ))) else if a1 = 4 then (bd1 (fX9_since F σ a0) fun r8 => some (0, r8, σ)) else if a1 = 5 then (ckI (a0) 8 (some (0, σ 32 (Int32.toNatClampNeg a0), σ))) else if a1 = 6 then (bd2 (fX10_isBinding F σ a0) fun r11 u12 => if r11 = 0 then (some (0, 0, u12)) else some (0, 1, u12)) else if a1 = 7 then (bd1 (fX2_prepare F σ a0 0) fun u14 => bd2 (fX2_walkAll F u14) fun r15 u16 => some (0, r15, u16)) else some (1, 0, σ)) else some (t1, 0, σ)
set_option maxRecDepth 20000 in
theorem wfX10_dance {X : XT} {D : va_G} {cI : ClassId} {ad : Nat → Nat} {F : Nat} {σ : St} {a0 : Int32} {a1 : Int32} {res : Nat × Int32 × St} (C : Cx X (gC D cI ad) cX10_dance 3 RX10 8 131 2) (hr : RetXi X (gC D cI ad) cX10_dance 3 2 res) (hx : ThrX X (gC D cI ad) cX10_dance 3 2 res) (h : fX10_dance F σ a0 a1 = some res) : WP X (gC D cI ad) 3 0 0 σ [(0, .ref (ad 0)), (1, .int a0), (2, .int a1)] [] := by
  unfold fX10_dance at h
  refine w_aload_n C dX10_dance_0 rfl 0 rfl ?_
  refine w_iload_n C dX10_dance_1 rfl 1 rfl ?_
  refine bd1_w h (fun t1 hc h => ?_)
  refine w_callX C hx (As := [.int a0]) (st := []) 0 (by decide) rfl rfl (cfX10_checkDance D cI ad (l := X.2.1) C.2.2.1 hc) tw5_12 cy_X10_checkDance (by decide +kernel) ⟨by decide, by decide⟩ (by decide) rfl rfl (by decide) dX10_dance_2 rfl h (fun h => ?_)
  refine w_iload_n C dX10_dance_5 rfl 2 rfl ?_
  refine if_w h (fun e3 h => ?_) (fun e3 h => ?_)
  · refine w_tsIn (q := 52) C 0 e3 dX10_dance_6 (by decide) (by decide) rfl (by decide) ?_
    refine w_aload_n C dX10_dance_52 rfl 0 rfl ?_
    refine w_get C 0 4 (Nat.le_of_ble_eq_true rfl) rfl rfl inB_X10 (by decide) tw2_176 rfl dX10_dance_53 rfl ?_
    refine w_iload_n C dX10_dance_56 rfl 1 rfl ?_
    refine w_iconst C 0 dX10_dance_57 rfl (by decide) ?_
    refine bd1_w h (fun r2 hc h => ?_)
    refine w_callVi C (As := [.int a0, .int 0]) (st := []) 2 (Nat.le_of_ble_eq_true rfl) rfl rfl (cfX0_envoy D cI ad (l := X.2.1) C.2.2.1 hc) tw5_17 cy_X0_envoy (by decide +kernel) ⟨Nat.le_of_ble_eq_true rfl, Nat.le_of_ble_eq_true rfl⟩ (by decide) rfl rfl (Nat.le_of_ble_eq_true rfl) dX10_dance_58 rfl ?_
    exact w_rxi hr h (by decide) dX10_dance_61
  refine if_w h (fun e5 h => ?_) (fun e5 h => ?_)
  · refine w_tsIn (q := 62) C 1 e5 dX10_dance_6 (by decide) (by decide) rfl (by decide) ?_
    refine w_aload_n C dX10_dance_62 rfl 0 rfl ?_
    refine w_get C 0 4 (Nat.le_of_ble_eq_true rfl) rfl rfl inB_X10 (by decide) tw2_176 rfl dX10_dance_63 rfl ?_
    refine w_iload_n C dX10_dance_66 rfl 1 rfl ?_
    refine w_iconst C 1 dX10_dance_67 rfl (by decide) ?_
    refine bd1_w h (fun r4 hc h => ?_)
    refine w_callVi C (As := [.int a0, .int 1]) (st := []) 2 (Nat.le_of_ble_eq_true rfl) rfl rfl (cfX0_envoy D cI ad (l := X.2.1) C.2.2.1 hc) tw5_17 cy_X0_envoy (by decide +kernel) ⟨Nat.le_of_ble_eq_true rfl, Nat.le_of_ble_eq_true rfl⟩ (by decide) rfl rfl (Nat.le_of_ble_eq_true rfl) dX10_dance_68 rfl ?_
    exact w_rxi hr h (by decide) dX10_dance_71
  refine if_w h (fun e6 h => ?_) (fun e6 h => ?_)
  · refine w_tsIn (q := 72) C 2 e6 dX10_dance_6 (by decide) (by decide) rfl (by decide) ?_
    refine w_aload_n C dX10_dance_72 rfl 0 rfl ?_
    refine w_get C 0 4 (Nat.le_of_ble_eq_true rfl) rfl rfl inB_X10 (by decide) tw2_176 rfl dX10_dance_73 rfl ?_
    refine w_get C 2 8 (Nat.le_of_ble_eq_true rfl) rfl rfl inB_X0 (by decide) tw1_94 rfl dX10_dance_76 rfl ?_
    refine w_iload_n C dX10_dance_79 rfl 1 rfl ?_
    refine w_iald C 6 8 0 (Nat.le_of_ble_eq_true rfl) (fun _ => rfl) rfl h dX10_dance_80 rfl (fun h => ?_)
    exact w_rxi hr h (by decide) dX10_dance_81
  refine if_w h (fun e7 h => ?_) (fun e7 h => ?_)
  · refine w_tsIn (q := 82) C 3 e7 dX10_dance_6 (by decide) (by decide) rfl (by decide) ?_
    refine w_aload_n C dX10_dance_82 rfl 0 rfl ?_
    refine w_get C 0 4 (Nat.le_of_ble_eq_true rfl) rfl rfl inB_X10 (by decide) tw2_176 rfl dX10_dance_83 rfl ?_
    refine w_get C 2 9 (Nat.le_of_ble_eq_true rfl) rfl rfl inB_X0 (by decide) tw1_99 rfl dX10_dance_86 rfl ?_
    refine w_iload_n C dX10_dance_89 rfl 1 rfl ?_
    refine w_iald C 7 8 0 (Nat.le_of_ble_eq_true rfl) (fun _ => rfl) rfl h dX10_dance_90 rfl (fun h => ?_)
    exact w_rxi hr h (by decide) dX10_dance_91
  refine if_w h (fun e9 h => ?_) (fun e9 h => ?_)
  · refine w_tsIn (q := 92) C 4 e9 dX10_dance_6 (by decide) (by decide) rfl (by decide) ?_
    refine w_aload_n C dX10_dance_92 rfl 0 rfl ?_
    refine w_get C 0 7 (Nat.le_of_ble_eq_true rfl) rfl rfl inB_X10 (by decide) tw2_179 rfl dX10_dance_93 rfl ?_
    refine w_iload_n C dX10_dance_96 rfl 1 rfl ?_
    refine bd1_w h (fun r8 hc h => ?_)
    refine w_callVi C (As := [.int a0]) (st := []) 30 (Nat.le_of_ble_eq_true rfl) rfl rfl (cfX9_since D cI ad (l := X.2.1) C.2.2.1 hc) tw5_18 cy_X9_since (by decide +kernel) ⟨Nat.le_of_ble_eq_true rfl, Nat.le_of_ble_eq_true rfl⟩ (by decide) rfl rfl (Nat.le_of_ble_eq_true rfl) dX10_dance_97 rfl ?_
    exact w_rxi hr h (by decide) dX10_dance_100
  refine if_w h (fun e10 h => ?_) (fun e10 h => ?_)
  · refine w_tsIn (q := 101) C 5 e10 dX10_dance_6 (by decide) (by decide) rfl (by decide) ?_
    refine w_aload_n C dX10_dance_101 rfl 0 rfl ?_
    refine w_get C 0 7 (Nat.le_of_ble_eq_true rfl) rfl rfl inB_X10 (by decide) tw2_179 rfl dX10_dance_102 rfl ?_
    refine w_get C 30 4 (Nat.le_of_ble_eq_true rfl) rfl rfl inB_X9 (by decide) tw1_202 rfl dX10_dance_105 rfl ?_
    refine w_iload_n C dX10_dance_108 rfl 1 rfl ?_
    refine w_iald C 32 8 0 (Nat.le_of_ble_eq_true rfl) (fun _ => rfl) rfl h dX10_dance_109 rfl (fun h => ?_)
    exact w_rxi hr h (by decide) dX10_dance_110
  refine if_w h (fun e13 h => ?_) (fun e13 h => ?_)
  · refine w_tsIn (q := 111) C 6 e13 dX10_dance_6 (by decide) (by decide) rfl (by decide) ?_
    refine w_aload_n C dX10_dance_111 rfl 0 rfl ?_
    refine w_iload_n C dX10_dance_112 rfl 1 rfl ?_
    refine bd2_w h (fun r11 u12 hc h => ?_)
    refine w_callVi C (As := [.int a0]) (st := []) 0 (Nat.le_of_ble_eq_true rfl) rfl rfl (cfX10_isBinding D cI ad (l := X.2.1) C.2.2.1 hc) tw5_19 cy_X10_isBinding (by decide +kernel) ⟨Nat.le_of_ble_eq_true rfl, Nat.le_of_ble_eq_true rfl⟩ (by decide) rfl rfl (Nat.le_of_ble_eq_true rfl) dX10_dance_113 rfl ?_
    refine w_if_eq C (qt := 123) dX10_dance_116 (by decide) rfl h (fun _ h => ?_) (fun _ h => ?_)
    · refine w_iconst C 0 dX10_dance_123 rfl (by decide) ?_
      exact w_rxi hr h (by decide) dX10_dance_124
    · refine w_iconst C 1 dX10_dance_119 rfl (by decide) ?_
      refine w_goto (q := 124) C dX10_dance_120 (by decide) ?_
      exact w_rxi hr h (by decide) dX10_dance_124
  refine if_w h (fun e17 h => ?_) (fun e17 h => ?_)
  · refine w_tsIn (q := 125) C 7 e17 dX10_dance_6 (by decide) (by decide) rfl (by decide) ?_
    refine w_aload_n C dX10_dance_125 rfl 0 rfl ?_
    refine w_get C 0 10 (Nat.le_of_ble_eq_true rfl) rfl rfl inB_X10 (by decide) tw2_182 rfl dX10_dance_126 rfl ?_
    refine w_aload_n C dX10_dance_129 rfl 0 rfl ?_
    refine w_get C 0 7 (Nat.le_of_ble_eq_true rfl) rfl rfl inB_X10 (by decide) tw2_179 rfl dX10_dance_130 rfl ?_
    refine w_iload_n C dX10_dance_133 rfl 1 rfl ?_
    refine w_iconst C 0 dX10_dance_134 rfl (by decide) ?_
    refine bd1_w h (fun u14 hc h => ?_)
    refine w_callVv C (As := [.ref (ad 30), .int a0, .int 0]) (st := []) 66 (Nat.le_of_ble_eq_true rfl) rfl rfl (cfX2_prepare D cI ad (l := X.2.1) C.2.2.1 hc) tw5_23 cy_X2_prepare (by decide +kernel) ⟨Nat.le_of_ble_eq_true rfl, Nat.le_of_ble_eq_true rfl⟩ (by decide) rfl rfl (Nat.le_of_ble_eq_true rfl) dX10_dance_135 rfl ?_
    refine w_aload_n C dX10_dance_138 rfl 0 rfl ?_
    refine w_get C 0 10 (Nat.le_of_ble_eq_true rfl) rfl rfl inB_X10 (by decide) tw2_182 rfl dX10_dance_139 rfl ?_
    refine bd2_w h (fun r15 u16 hc h => ?_)
    refine w_callVi C (As := []) (st := []) 66 (Nat.le_of_ble_eq_true rfl) rfl rfl (cfX2_walkAll D cI ad (l := X.2.1) C.2.2.1 hc) tw5_25 cy_X2_walkAll (by decide +kernel) ⟨Nat.le_of_ble_eq_true rfl, Nat.le_of_ble_eq_true rfl⟩ (by decide) rfl rfl (Nat.le_of_ble_eq_true rfl) dX10_dance_142 rfl ?_
    exact w_rxi hr h (by decide) dX10_dance_145
  refine w_tsOut (q := 146) C dX10_dance_6 (ts_out (0) 7 (by decide) (fun k hk => by
    have hk : k = 0 ∨ k = 1 ∨ k = 2 ∨ k = 3 ∨ k = 4 ∨ k = 5 ∨ k = 6 ∨ k = 7 := by omega
    rcases hk with rfl | rfl | rfl | rfl | rfl | rfl | rfl | rfl
    exacts [e3, e5, e6, e7, e9, e10, e13, e17])) (by decide) ?_
  exact w_thr1 hx (tx := "no such thing of a dance") 102 (by decide) h (by decide) dX10_dance_146 dX10_dance_149 dX10_dance_150 dX10_dance_152 dX10_dance_155
theorem cfX10_dance (D : va_G) (cI : ClassId) (ad : Nat → Nat) {l : Launch} (had : gAp (gC D cI ad)) {F : Nat} {σ : St} {a0 : Int32} {a1 : Int32} {res : Nat × Int32 × St} (h : fX10_dance F σ a0 a1 = some res) : MX l yX10_dance (wB yX10_dance cX10_dance 3 (some .int)) 8 131 2 (gC D cI ad) [.ref (ad 0), .int a0, .int a1] σ res := mk_MX had (by decide +kernel) (Nat.le_of_ble_eq_true rfl) (fun X hX C hr hx => wfX10_dance C hr hx h)

def fX10_checkStep (F : Nat) (σ : St) (a0 : Int32) (a1 : Int32) : Option Nat := bd1 (fX10_checkDance F σ a0) fun t1 => if t1 = 0 then (jn (fun v2 : Unit => some 1) fun J3 => if a1 < 0 then (J3 (())) else ckI (a0) 8 (if a1 < (σ 7 (Int32.toNatClampNeg a0)) then (some 0) else J3 (()))) else some t1
set_option maxRecDepth 20000 in
theorem wfX10_checkStep {X : XT} {D : va_G} {cI : ClassId} {ad : Nat → Nat} {F : Nat} {σ : St} {a0 : Int32} {a1 : Int32} {res : Nat} (C : Cx X (gC D cI ad) cX10_checkStep 3 RX10 8 131 2) (hr : RetXv X (gC D cI ad) cX10_checkStep 3 2 σ res) (hx : ThrC X (gC D cI ad) cX10_checkStep 3 2 σ res) (h : fX10_checkStep F σ a0 a1 = some res) : WP X (gC D cI ad) 3 0 0 σ [(0, .ref (ad 0)), (1, .int a0), (2, .int a1)] [] := by
  unfold fX10_checkStep at h
  refine w_aload_n C dX10_checkStep_0 rfl 0 rfl ?_
  refine w_iload_n C dX10_checkStep_1 rfl 1 rfl ?_
  refine bd1_w h (fun t1 hc h => ?_)
  refine w_callXc C hx (As := [.int a0]) (st := []) 0 (by decide) rfl rfl (cfX10_checkDance D cI ad (l := X.2.1) C.2.2.1 hc) tw5_12 cy_X10_checkDance (by decide +kernel) ⟨by decide, by decide⟩ (by decide) rfl rfl (by decide) dX10_checkStep_2 rfl h (fun h => ?_)
  refine w_iload_n C dX10_checkStep_5 rfl 2 rfl ?_
  refine jn_w (fun v2 : Unit => WP X (gC D cI ad) 3 1 22 σ [] []) h (fun v2 h => ?_) (fun J3 hJ4 h => ?_)
  · exact w_thrW1 hx (tx := "no such step") 111 (by decide) h (by decide) dX10_checkStep_22 dX10_checkStep_25 dX10_checkStep_26 dX10_checkStep_29 dX10_checkStep_32
  · refine w_if_lt C (qt := 22) dX10_checkStep_6 (by decide) rfl h (fun _ h => ?_) (fun _ h => ?_)
    · exact w_sub [] rfl (hJ4 _ h)
    · refine w_iload_n C dX10_checkStep_9 rfl 2 rfl ?_
      refine w_aload_n C dX10_checkStep_10 rfl 0 rfl ?_
      refine w_get C 0 4 (Nat.le_of_ble_eq_true rfl) rfl rfl inB_X10 (by decide) tw2_176 rfl dX10_checkStep_11 rfl ?_
      refine w_get C 2 9 (Nat.le_of_ble_eq_true rfl) rfl rfl inB_X0 (by decide) tw1_99 rfl dX10_checkStep_14 rfl ?_
      refine w_iload_n C dX10_checkStep_17 rfl 1 rfl ?_
      refine w_iald C 7 8 0 (Nat.le_of_ble_eq_true rfl) (fun _ => rfl) rfl h dX10_checkStep_18 rfl (fun h => ?_)
      refine w_icmp_lt C (qt := 33) dX10_checkStep_19 (by decide) rfl h (fun _ h => ?_) (fun _ h => ?_)
      · exact w_rxv hr h (by decide) dX10_checkStep_33
      · exact w_sub [] rfl (hJ4 _ h)
theorem cfX10_checkStep (D : va_G) (cI : ClassId) (ad : Nat → Nat) {l : Launch} (had : gAp (gC D cI ad)) {F : Nat} {σ : St} {a0 : Int32} {a1 : Int32} {res : Nat} (h : fX10_checkStep F σ a0 a1 = some res) : MC l yX10_checkStep (wB yX10_checkStep cX10_checkStep 3 none) 8 131 2 (gC D cI ad) [.ref (ad 0), .int a0, .int a1] σ res := mk_MC had (by decide +kernel) (Nat.le_of_ble_eq_true rfl) (fun X hX C hr hx => wfX10_checkStep C hr hx h)

def fX10_step (F : Nat) (σ : St) (a0 : Int32) (a1 : Int32) (a2 : Int32) : Option (Nat × Int32 × St) := bd1 (fX10_checkStep F σ a0 a1) fun t1 => if t1 = 0 then (bd1 (fX10_placeOf F σ a0 a1) fun r2 => if a2 = 0 then (ckI (r2) 80 (some (0, σ 8 (Int32.toNatClampNeg r2), σ))) else if a2 = 1 then (ckI (r2) 80 (some (0, σ 9 (Int32.toNatClampNeg r2), σ))) else if a2 = 2 then (ckI (r2) 80 (some (0, σ 33 (Int32.toNatClampNeg r2), σ))) else if a2 = 3 then (ckI (r2) 80 (some (0, σ 11 (Int32.toNatClampNeg r2), σ))) else some (1, 0, σ)) else some (t1, 0, σ)
set_option maxRecDepth 20000 in
theorem wfX10_step {X : XT} {D : va_G} {cI : ClassId} {ad : Nat → Nat} {F : Nat} {σ : St} {a0 : Int32} {a1 : Int32} {a2 : Int32} {res : Nat × Int32 × St} (C : Cx X (gC D cI ad) cX10_step 5 RX10 9 153 3) (hr : RetXi X (gC D cI ad) cX10_step 5 3 res) (hx : ThrX X (gC D cI ad) cX10_step 5 3 res) (h : fX10_step F σ a0 a1 a2 = some res) : WP X (gC D cI ad) 5 0 0 σ [(0, .ref (ad 0)), (1, .int a0), (2, .int a1), (3, .int a2)] [] := by
  unfold fX10_step at h
  refine w_aload_n C dX10_step_0 rfl 0 rfl ?_
  refine w_iload_n C dX10_step_1 rfl 1 rfl ?_
  refine w_iload_n C dX10_step_2 rfl 2 rfl ?_
  refine bd1_w h (fun t1 hc h => ?_)
  refine w_callX C hx (As := [.int a0, .int a1]) (st := []) 0 (by decide) rfl rfl (cfX10_checkStep D cI ad (l := X.2.1) C.2.2.1 hc) tw5_37 cy_X10_checkStep (by decide +kernel) ⟨by decide, by decide⟩ (by decide) rfl rfl (by decide) dX10_step_3 rfl h (fun h => ?_)
  refine w_iload_n C dX10_step_6 rfl 1 rfl ?_
  refine w_iload_n C dX10_step_7 rfl 2 rfl ?_
  refine bd1_w h (fun r2 hc h => ?_)
  refine w_callSi C (As := [.int a0, .int a1]) (st := []) (cfX10_placeOf D cI ad (l := X.2.1) C.2.2.1 hc) tw5_42 cs_X10_placeOf (by decide +kernel) ⟨Nat.le_of_ble_eq_true rfl, Nat.le_of_ble_eq_true rfl⟩ (by decide) rfl rfl (Nat.le_of_ble_eq_true rfl) dX10_step_8 rfl ?_
  refine w_istore C [(4, .int r2), (0, .ref (ad 0)), (1, .int a0), (2, .int a1), (3, .int a2)] dX10_step_11 rfl (by decide) rfl ?_
  refine w_iload_n C dX10_step_13 rfl 4 rfl ?_
  refine if_w h (fun e3 h => ?_) (fun e3 h => ?_)
  · refine w_tsIn (q := 44) C 0 e3 dX10_step_14 (by decide) (by decide) rfl (by decide) ?_
    refine w_aload_n C dX10_step_44 rfl 1 rfl ?_
    refine w_get C 0 4 (Nat.le_of_ble_eq_true rfl) rfl rfl inB_X10 (by decide) tw2_176 rfl dX10_step_45 rfl ?_
    refine w_get C 2 10 (Nat.le_of_ble_eq_true rfl) rfl rfl inB_X0 (by decide) tw1_103 rfl dX10_step_48 rfl ?_
    refine w_iload C dX10_step_51 rfl 0 rfl ?_
    refine w_iald C 8 80 0 (Nat.le_of_ble_eq_true rfl) (fun _ => rfl) rfl h dX10_step_53 rfl (fun h => ?_)
    exact w_rxi hr h (by decide) dX10_step_54
  refine if_w h (fun e4 h => ?_) (fun e4 h => ?_)
  · refine w_tsIn (q := 55) C 1 e4 dX10_step_14 (by decide) (by decide) rfl (by decide) ?_
    refine w_aload_n C dX10_step_55 rfl 1 rfl ?_
    refine w_get C 0 4 (Nat.le_of_ble_eq_true rfl) rfl rfl inB_X10 (by decide) tw2_176 rfl dX10_step_56 rfl ?_
    refine w_get C 2 11 (Nat.le_of_ble_eq_true rfl) rfl rfl inB_X0 (by decide) tw1_107 rfl dX10_step_59 rfl ?_
    refine w_iload C dX10_step_62 rfl 0 rfl ?_
    refine w_iald C 9 80 0 (Nat.le_of_ble_eq_true rfl) (fun _ => rfl) rfl h dX10_step_64 rfl (fun h => ?_)
    exact w_rxi hr h (by decide) dX10_step_65
  refine if_w h (fun e5 h => ?_) (fun e5 h => ?_)
  · refine w_tsIn (q := 66) C 2 e5 dX10_step_14 (by decide) (by decide) rfl (by decide) ?_
    refine w_aload_n C dX10_step_66 rfl 1 rfl ?_
    refine w_get C 0 7 (Nat.le_of_ble_eq_true rfl) rfl rfl inB_X10 (by decide) tw2_179 rfl dX10_step_67 rfl ?_
    refine w_get C 30 5 (Nat.le_of_ble_eq_true rfl) rfl rfl inB_X9 (by decide) tw1_206 rfl dX10_step_70 rfl ?_
    refine w_iload C dX10_step_73 rfl 0 rfl ?_
    refine w_iald C 33 80 0 (Nat.le_of_ble_eq_true rfl) (fun _ => rfl) rfl h dX10_step_75 rfl (fun h => ?_)
    exact w_rxi hr h (by decide) dX10_step_76
  refine if_w h (fun e6 h => ?_) (fun e6 h => ?_)
  · refine w_tsIn (q := 77) C 3 e6 dX10_step_14 (by decide) (by decide) rfl (by decide) ?_
    refine w_aload_n C dX10_step_77 rfl 1 rfl ?_
    refine w_get C 0 4 (Nat.le_of_ble_eq_true rfl) rfl rfl inB_X10 (by decide) tw2_176 rfl dX10_step_78 rfl ?_
    refine w_get C 2 13 (Nat.le_of_ble_eq_true rfl) rfl rfl inB_X0 (by decide) tw1_114 rfl dX10_step_81 rfl ?_
    refine w_iload C dX10_step_84 rfl 0 rfl ?_
    refine w_iald C 11 80 0 (Nat.le_of_ble_eq_true rfl) (fun _ => rfl) rfl h dX10_step_86 rfl (fun h => ?_)
    exact w_rxi hr h (by decide) dX10_step_87
  refine w_tsOut (q := 88) C dX10_step_14 (ts_out (0) 3 (by decide) (fun k hk => by
    have hk : k = 0 ∨ k = 1 ∨ k = 2 ∨ k = 3 := by omega
    rcases hk with rfl | rfl | rfl | rfl
    exacts [e3, e4, e5, e6])) (by decide) ?_
  exact w_thr1 hx (tx := "no such thing of a step") 103 (by decide) h (by decide) dX10_step_88 dX10_step_91 dX10_step_92 dX10_step_94 dX10_step_97
theorem cfX10_step (D : va_G) (cI : ClassId) (ad : Nat → Nat) {l : Launch} (had : gAp (gC D cI ad)) {F : Nat} {σ : St} {a0 : Int32} {a1 : Int32} {a2 : Int32} {res : Nat × Int32 × St} (h : fX10_step F σ a0 a1 a2 = some res) : MX l yX10_step (wB yX10_step cX10_step 5 (some .int)) 9 153 3 (gC D cI ad) [.ref (ad 0), .int a0, .int a1, .int a2] σ res := mk_MX had (by decide +kernel) (Nat.le_of_ble_eq_true rfl) (fun X hX C hr hx => wfX10_step C hr hx h)

def fX10_checkBelow (F : Nat) (σ : St) (a0 : Int32) (a1 : Int32) : Option Nat := jn (fun v1 : Unit => some 1) fun J2 => if a0 < 0 then (J2 (())) else if a0 < a1 then (some 0) else J2 (())
set_option maxRecDepth 20000 in
theorem wfX10_checkBelow {X : XT} {D : va_G} {cI : ClassId} {ad : Nat → Nat} {F : Nat} {σ : St} {a0 : Int32} {a1 : Int32} {res : Nat} (C : Cx X (gC D cI ad) cX10_checkBelow 3 RX10 7 110 1) (hr : RetXv X (gC D cI ad) cX10_checkBelow 3 1 σ res) (hx : ThrC X (gC D cI ad) cX10_checkBelow 3 1 σ res) (h : fX10_checkBelow F σ a0 a1 = some res) : WP X (gC D cI ad) 3 0 0 σ [(0, .ref (ad 0)), (1, .int a0), (2, .int a1)] [] := by
  unfold fX10_checkBelow at h
  refine w_iload_n C dX10_checkBelow_0 rfl 1 rfl ?_
  refine jn_w (fun v1 : Unit => WP X (gC D cI ad) 3 0 9 σ [] []) h (fun v1 h => ?_) (fun J2 hJ3 h => ?_)
  · exact w_thrW1 hx (tx := "no such thing") 112 (by decide) h (by decide) dX10_checkBelow_9 dX10_checkBelow_12 dX10_checkBelow_13 dX10_checkBelow_16 dX10_checkBelow_19
  · refine w_if_lt C (qt := 9) dX10_checkBelow_1 (by decide) rfl h (fun _ h => ?_) (fun _ h => ?_)
    · exact w_sub [] rfl (hJ3 _ h)
    · refine w_iload_n C dX10_checkBelow_4 rfl 1 rfl ?_
      refine w_iload_n C dX10_checkBelow_5 rfl 2 rfl ?_
      refine w_icmp_lt C (qt := 20) dX10_checkBelow_6 (by decide) rfl h (fun _ h => ?_) (fun _ h => ?_)
      · exact w_rxv hr h (by decide) dX10_checkBelow_20
      · exact w_sub [] rfl (hJ3 _ h)
theorem cfX10_checkBelow (D : va_G) (cI : ClassId) (ad : Nat → Nat) {l : Launch} (had : gAp (gC D cI ad)) {F : Nat} {σ : St} {a0 : Int32} {a1 : Int32} {res : Nat} (h : fX10_checkBelow F σ a0 a1 = some res) : MC l yX10_checkBelow (wB yX10_checkBelow cX10_checkBelow 3 none) 7 110 1 (gC D cI ad) [.ref (ad 0), .int a0, .int a1] σ res := mk_MC had (by decide +kernel) (Nat.le_of_ble_eq_true rfl) (fun X hX C hr hx => wfX10_checkBelow C hr hx h)

def fX10_where (F : Nat) (σ : St) (a0 : Int32) (a1 : Int32) (a2 : Int32) (a3 : Int32) : Option (Nat × Int32 × St) := bd1 (fX10_checkDance F σ a0) fun t1 => if t1 = 0 then (jn (fun v2 : Unit => bd1 (fX10_checkBelow F σ a2 2) fun t5 => if t5 = 0 then (bd1 (fX10_checkBelow F σ a3 3) fun t6 => if t6 = 0 then (bd1 (fX2_prepare F σ a0 0) fun u7 => bd1 (fX3_begin F u7 (u7 2 2)) fun u8 => bd2 (fX2_walk F u8 0 (a1 + 1)) fun r9 u10 => if r9 = ((-1)) then (if a3 = 0 then (ckI (a2) 2 (some (0, u10 68 (Int32.toNatClampNeg a2), u10))) else if a3 = 1 then (ckI (a2) 2 (some (0, u10 69 (Int32.toNatClampNeg a2), u10))) else ckI (a2) 2 (some (0, u10 70 (Int32.toNatClampNeg a2), u10))) else some (1, 0, u10)) else some (t6, 0, σ)) else some (t5, 0, σ)) fun J3 => if a1 = ((-1)) then (J3 (())) else bd1 (fX10_checkStep F σ a0 a1) fun t11 => if t11 = 0 then (J3 (())) else some (t11, 0, σ)) else some (t1, 0, σ)
set_option maxRecDepth 20000 in
theorem wfX10_where {X : XT} {D : va_G} {cI : ClassId} {ad : Nat → Nat} {F : Nat} {σ : St} {a0 : Int32} {a1 : Int32} {a2 : Int32} {a3 : Int32} {res : Nat × Int32 × St} (C : Cx X (gC D cI ad) cX10_where 5 RX10 9 153 6) (hr : RetXi X (gC D cI ad) cX10_where 5 6 res) (hx : ThrX X (gC D cI ad) cX10_where 5 6 res) (h : fX10_where F σ a0 a1 a2 a3 = some res) : WP X (gC D cI ad) 5 0 0 σ [(0, .ref (ad 0)), (1, .int a0), (2, .int a1), (3, .int a2), (4, .int a3)] [] := by
  unfold fX10_where at h
  refine w_aload_n C dX10_where_0 rfl 0 rfl ?_
  refine w_iload_n C dX10_where_1 rfl 1 rfl ?_
  refine bd1_w h (fun t1 hc h => ?_)
  refine w_callX C hx (As := [.int a0]) (st := []) 0 (by decide) rfl rfl (cfX10_checkDance D cI ad (l := X.2.1) C.2.2.1 hc) tw5_12 cy_X10_checkDance (by decide +kernel) ⟨by decide, by decide⟩ (by decide) rfl rfl (by decide) dX10_where_2 rfl h (fun h => ?_)
  refine w_iload_n C dX10_where_5 rfl 2 rfl ?_
  refine w_iconst C (-1) dX10_where_6 rfl (by decide) ?_
  refine jn_w (fun v2 : Unit => WP X (gC D cI ad) 5 3 16 σ [(0, .ref (ad 0)), (1, .int a0), (2, .int a1), (3, .int a2), (4, .int a3)] []) h (fun v2 h => ?_) (fun J3 hJ4 h => ?_)
  · refine w_aload_n C dX10_where_16 rfl 0 rfl ?_
    refine w_iload_n C dX10_where_17 rfl 3 rfl ?_
    refine w_iconst C 2 dX10_where_18 rfl (by decide) ?_
    refine bd1_w h (fun t5 hc h => ?_)
    refine w_callX C hx (As := [.int a2, .int 2]) (st := []) 0 (by decide) rfl rfl (cfX10_checkBelow D cI ad (l := X.2.1) C.2.2.1 hc) tw5_51 cy_X10_checkBelow (by decide +kernel) ⟨by decide, by decide⟩ (by decide) rfl rfl (by decide) dX10_where_19 rfl h (fun h => ?_)
    refine w_aload_n C dX10_where_22 rfl 0 rfl ?_
    refine w_iload C dX10_where_23 rfl 4 rfl ?_
    refine w_iconst C 3 dX10_where_25 rfl (by decide) ?_
    refine bd1_w h (fun t6 hc h => ?_)
    refine w_callX C hx (As := [.int a3, .int 3]) (st := []) 0 (by decide) rfl rfl (cfX10_checkBelow D cI ad (l := X.2.1) C.2.2.1 hc) tw5_51 cy_X10_checkBelow (by decide +kernel) ⟨by decide, by decide⟩ (by decide) rfl rfl (by decide) dX10_where_26 rfl h (fun h => ?_)
    refine w_aload_n C dX10_where_29 rfl 0 rfl ?_
    refine w_get C 0 10 (Nat.le_of_ble_eq_true rfl) rfl rfl inB_X10 (by decide) tw2_182 rfl dX10_where_30 rfl ?_
    refine w_aload_n C dX10_where_33 rfl 0 rfl ?_
    refine w_get C 0 7 (Nat.le_of_ble_eq_true rfl) rfl rfl inB_X10 (by decide) tw2_179 rfl dX10_where_34 rfl ?_
    refine w_iload_n C dX10_where_37 rfl 1 rfl ?_
    refine w_iconst C 0 dX10_where_38 rfl (by decide) ?_
    refine bd1_w h (fun u7 hc h => ?_)
    refine w_callVv C (As := [.ref (ad 30), .int a0, .int 0]) (st := []) 66 (Nat.le_of_ble_eq_true rfl) rfl rfl (cfX2_prepare D cI ad (l := X.2.1) C.2.2.1 hc) tw5_23 cy_X2_prepare (by decide +kernel) ⟨Nat.le_of_ble_eq_true rfl, Nat.le_of_ble_eq_true rfl⟩ (by decide) rfl rfl (Nat.le_of_ble_eq_true rfl) dX10_where_39 rfl ?_
    refine w_aload_n C dX10_where_42 rfl 0 rfl ?_
    refine w_get C 0 10 (Nat.le_of_ble_eq_true rfl) rfl rfl inB_X10 (by decide) tw2_182 rfl dX10_where_43 rfl ?_
    refine w_get C 66 1 (Nat.le_of_ble_eq_true rfl) rfl rfl inB_X2 (by decide) tw2_42 rfl dX10_where_46 rfl ?_
    refine w_aload_n C dX10_where_49 rfl 0 rfl ?_
    refine w_get C 0 4 (Nat.le_of_ble_eq_true rfl) rfl rfl inB_X10 (by decide) tw2_176 rfl dX10_where_50 rfl ?_
    refine w_get C 2 2 (Nat.le_of_ble_eq_true rfl) rfl rfl inB_X0 (by decide) tw1_72 rfl dX10_where_53 rfl ?_
    refine bd1_w h (fun u8 hc h => ?_)
    refine w_callVv C (As := [.int (u7 2 2)]) (st := []) 67 (Nat.le_of_ble_eq_true rfl) rfl rfl (cfX3_begin D cI ad (l := X.2.1) C.2.2.1 hc) tw5_56 cy_X3_begin (by decide +kernel) ⟨Nat.le_of_ble_eq_true rfl, Nat.le_of_ble_eq_true rfl⟩ (by decide) rfl rfl (Nat.le_of_ble_eq_true rfl) dX10_where_56 rfl ?_
    refine w_aload_n C dX10_where_59 rfl 0 rfl ?_
    refine w_get C 0 10 (Nat.le_of_ble_eq_true rfl) rfl rfl inB_X10 (by decide) tw2_182 rfl dX10_where_60 rfl ?_
    refine w_iconst C 0 dX10_where_63 rfl (by decide) ?_
    refine w_iload_n C dX10_where_64 rfl 2 rfl ?_
    refine w_iconst C 1 dX10_where_65 rfl (by decide) ?_
    refine w_iadd C dX10_where_66 rfl ?_
    refine bd2_w h (fun r9 u10 hc h => ?_)
    refine w_callVi C (As := [.int 0, .int (a1 + 1)]) (st := []) 66 (Nat.le_of_ble_eq_true rfl) rfl rfl (cfX2_walk D cI ad (l := X.2.1) C.2.2.1 hc) tw5_57 cy_X2_walk (by decide +kernel) ⟨Nat.le_of_ble_eq_true rfl, Nat.le_of_ble_eq_true rfl⟩ (by decide) rfl rfl (Nat.le_of_ble_eq_true rfl) dX10_where_67 rfl ?_
    refine w_iconst C (-1) dX10_where_70 rfl (by decide) ?_
    refine w_icmp_eq C (qt := 84) dX10_where_71 (by decide) rfl h (fun _ h => ?_) (fun _ h => ?_)
    · refine w_iload C dX10_where_84 rfl 4 rfl ?_
      refine w_if_ne C (qt := 102) dX10_where_86 (by decide) rfl h (fun _ h => ?_) (fun _ h => ?_)
      · refine w_iload C dX10_where_102 rfl 4 rfl ?_
        refine w_iconst C 1 dX10_where_104 rfl (by decide) ?_
        refine w_icmp_ne C (qt := 123) dX10_where_105 (by decide) rfl h (fun _ h => ?_) (fun _ h => ?_)
        · refine w_aload_n C dX10_where_123 rfl 0 rfl ?_
          refine w_get C 0 10 (Nat.le_of_ble_eq_true rfl) rfl rfl inB_X10 (by decide) tw2_182 rfl dX10_where_124 rfl ?_
          refine w_get C 66 1 (Nat.le_of_ble_eq_true rfl) rfl rfl inB_X2 (by decide) tw2_42 rfl dX10_where_127 rfl ?_
          refine w_get C 67 2 (Nat.le_of_ble_eq_true rfl) rfl rfl inB_X3 (by decide) tw2_31 rfl dX10_where_130 rfl ?_
          refine w_iload_n C dX10_where_133 rfl 3 rfl ?_
          refine w_iald C 70 2 0 (Nat.le_of_ble_eq_true rfl) (fun _ => rfl) rfl h dX10_where_134 rfl (fun h => ?_)
          exact w_rxi hr h (by decide) dX10_where_135
        · refine w_aload_n C dX10_where_108 rfl 0 rfl ?_
          refine w_get C 0 10 (Nat.le_of_ble_eq_true rfl) rfl rfl inB_X10 (by decide) tw2_182 rfl dX10_where_109 rfl ?_
          refine w_get C 66 1 (Nat.le_of_ble_eq_true rfl) rfl rfl inB_X2 (by decide) tw2_42 rfl dX10_where_112 rfl ?_
          refine w_get C 67 1 (Nat.le_of_ble_eq_true rfl) rfl rfl inB_X3 (by decide) tw2_28 rfl dX10_where_115 rfl ?_
          refine w_iload_n C dX10_where_118 rfl 3 rfl ?_
          refine w_iald C 69 2 0 (Nat.le_of_ble_eq_true rfl) (fun _ => rfl) rfl h dX10_where_119 rfl (fun h => ?_)
          refine w_goto (q := 135) C dX10_where_120 (by decide) ?_
          exact w_rxi hr h (by decide) dX10_where_135
      · refine w_aload_n C dX10_where_89 rfl 0 rfl ?_
        refine w_get C 0 10 (Nat.le_of_ble_eq_true rfl) rfl rfl inB_X10 (by decide) tw2_182 rfl dX10_where_90 rfl ?_
        refine w_get C 66 1 (Nat.le_of_ble_eq_true rfl) rfl rfl inB_X2 (by decide) tw2_42 rfl dX10_where_93 rfl ?_
        refine w_get C 67 0 (Nat.le_of_ble_eq_true rfl) rfl rfl inB_X3 (by decide) tw2_25 rfl dX10_where_96 rfl ?_
        refine w_iload_n C dX10_where_99 rfl 3 rfl ?_
        refine w_iald C 68 2 0 (Nat.le_of_ble_eq_true rfl) (fun _ => rfl) rfl h dX10_where_100 rfl (fun h => ?_)
        exact w_rxi hr h (by decide) dX10_where_101
    · exact w_thr1 hx (tx := "that step isn\'t come to") 104 (by decide) h (by decide) dX10_where_74 dX10_where_77 dX10_where_78 dX10_where_80 dX10_where_83
  · refine w_icmp_eq C (qt := 16) dX10_where_7 (by decide) rfl h (fun _ h => ?_) (fun _ h => ?_)
    · refine w_wid (k := 3) (by decide) ?_
      exact w_sub [0, 1, 2, 3, 4] rfl (hJ4 _ h)
    · refine w_aload_n C dX10_where_10 rfl 0 rfl ?_
      refine w_iload_n C dX10_where_11 rfl 1 rfl ?_
      refine w_iload_n C dX10_where_12 rfl 2 rfl ?_
      refine bd1_w h (fun t11 hc h => ?_)
      refine w_callX C hx (As := [.int a0, .int a1]) (st := []) 0 (by decide) rfl rfl (cfX10_checkStep D cI ad (l := X.2.1) C.2.2.1 hc) tw5_37 cy_X10_checkStep (by decide +kernel) ⟨by decide, by decide⟩ (by decide) rfl rfl (by decide) dX10_where_13 rfl h (fun h => ?_)
      exact w_sub [0, 1, 2, 3, 4] rfl (hJ4 _ h)
theorem cfX10_where (D : va_G) (cI : ClassId) (ad : Nat → Nat) {l : Launch} (had : gAp (gC D cI ad)) {F : Nat} {σ : St} {a0 : Int32} {a1 : Int32} {a2 : Int32} {a3 : Int32} {res : Nat × Int32 × St} (h : fX10_where F σ a0 a1 a2 a3 = some res) : MX l yX10_where (wB yX10_where cX10_where 5 (some .int)) 9 153 6 (gC D cI ad) [.ref (ad 0), .int a0, .int a1, .int a2, .int a3] σ res := mk_MX had (by decide +kernel) (Nat.le_of_ble_eq_true rfl) (fun X hX C hr hx => wfX10_where C hr hx h)

def fX10_bound (F : Nat) (σ : St) (a0 : Int32) (a1 : Int32) : Option (Nat × Int32 × St) := bd1 (fX10_checkValley F σ a0) fun t1 => if t1 = 0 then (bd1 (fX10_checkBelow F σ a1 8) fun t2 => if t2 = 0 then (bd2 (fX2_bindingBits F σ 0) fun r3 u4 => bd1 (fX6_weighAll F u4 r3) fun u5 => bd1 (fX6_boundTo F u5 a0 a1) fun r6 => some (0, r6, u5)) else some (t2, 0, σ)) else some (t1, 0, σ)
set_option maxRecDepth 20000 in
theorem wfX10_bound {X : XT} {D : va_G} {cI : ClassId} {ad : Nat → Nat} {F : Nat} {σ : St} {a0 : Int32} {a1 : Int32} {res : Nat × Int32 × St} (C : Cx X (gC D cI ad) cX10_bound 3 RX10 8 140 2) (hr : RetXi X (gC D cI ad) cX10_bound 3 2 res) (hx : ThrX X (gC D cI ad) cX10_bound 3 2 res) (h : fX10_bound F σ a0 a1 = some res) : WP X (gC D cI ad) 3 0 0 σ [(0, .ref (ad 0)), (1, .int a0), (2, .int a1)] [] := by
  unfold fX10_bound at h
  refine w_aload_n C dX10_bound_0 rfl 0 rfl ?_
  refine w_iload_n C dX10_bound_1 rfl 1 rfl ?_
  refine bd1_w h (fun t1 hc h => ?_)
  refine w_callX C hx (As := [.int a0]) (st := []) 0 (by decide) rfl rfl (cfX10_checkValley D cI ad (l := X.2.1) C.2.2.1 hc) tw5_0 cy_X10_checkValley (by decide +kernel) ⟨by decide, by decide⟩ (by decide) rfl rfl (by decide) dX10_bound_2 rfl h (fun h => ?_)
  refine w_aload_n C dX10_bound_5 rfl 0 rfl ?_
  refine w_iload_n C dX10_bound_6 rfl 2 rfl ?_
  refine w_bipush C 8 dX10_bound_7 rfl (by decide) ?_
  refine bd1_w h (fun t2 hc h => ?_)
  refine w_callX C hx (As := [.int a1, .int 8]) (st := []) 0 (by decide) rfl rfl (cfX10_checkBelow D cI ad (l := X.2.1) C.2.2.1 hc) tw5_51 cy_X10_checkBelow (by decide +kernel) ⟨by decide, by decide⟩ (by decide) rfl rfl (by decide) dX10_bound_9 rfl h (fun h => ?_)
  refine w_aload_n C dX10_bound_12 rfl 0 rfl ?_
  refine w_get C 0 12 (Nat.le_of_ble_eq_true rfl) rfl rfl inB_X10 (by decide) tw2_184 rfl dX10_bound_13 rfl ?_
  refine w_aload_n C dX10_bound_16 rfl 0 rfl ?_
  refine w_get C 0 10 (Nat.le_of_ble_eq_true rfl) rfl rfl inB_X10 (by decide) tw2_182 rfl dX10_bound_17 rfl ?_
  refine w_aload_n C dX10_bound_20 rfl 0 rfl ?_
  refine w_get C 0 7 (Nat.le_of_ble_eq_true rfl) rfl rfl inB_X10 (by decide) tw2_179 rfl dX10_bound_21 rfl ?_
  refine w_iconst C 0 dX10_bound_24 rfl (by decide) ?_
  refine bd2_w h (fun r3 u4 hc h => ?_)
  refine w_callVi C (As := [.ref (ad 30), .int 0]) (st := [.ref (ad 81)]) 66 (Nat.le_of_ble_eq_true rfl) rfl rfl (cfX2_bindingBits D cI ad (l := X.2.1) C.2.2.1 hc) tw4_88 cy_X2_bindingBits (by decide +kernel) ⟨Nat.le_of_ble_eq_true rfl, Nat.le_of_ble_eq_true rfl⟩ (by decide) rfl rfl (Nat.le_of_ble_eq_true rfl) dX10_bound_25 rfl ?_
  refine bd1_w h (fun u5 hc h => ?_)
  refine w_callVv C (As := [.int r3]) (st := []) 81 (Nat.le_of_ble_eq_true rfl) rfl rfl (cfX6_weighAll D cI ad (l := X.2.1) C.2.2.1 hc) tw4_149 cy_X6_weighAll (by decide +kernel) ⟨Nat.le_of_ble_eq_true rfl, Nat.le_of_ble_eq_true rfl⟩ (by decide) rfl rfl (Nat.le_of_ble_eq_true rfl) dX10_bound_28 rfl ?_
  refine w_aload_n C dX10_bound_31 rfl 0 rfl ?_
  refine w_get C 0 12 (Nat.le_of_ble_eq_true rfl) rfl rfl inB_X10 (by decide) tw2_184 rfl dX10_bound_32 rfl ?_
  refine w_iload_n C dX10_bound_35 rfl 1 rfl ?_
  refine w_iload_n C dX10_bound_36 rfl 2 rfl ?_
  refine bd1_w h (fun r6 hc h => ?_)
  refine w_callVi C (As := [.int a0, .int a1]) (st := []) 81 (Nat.le_of_ble_eq_true rfl) rfl rfl (cfX6_boundTo D cI ad (l := X.2.1) C.2.2.1 hc) tw5_66 cy_X6_boundTo (by decide +kernel) ⟨Nat.le_of_ble_eq_true rfl, Nat.le_of_ble_eq_true rfl⟩ (by decide) rfl rfl (Nat.le_of_ble_eq_true rfl) dX10_bound_37 rfl ?_
  exact w_rxi hr h (by decide) dX10_bound_40
theorem cfX10_bound (D : va_G) (cI : ClassId) (ad : Nat → Nat) {l : Launch} (had : gAp (gC D cI ad)) {F : Nat} {σ : St} {a0 : Int32} {a1 : Int32} {res : Nat × Int32 × St} (h : fX10_bound F σ a0 a1 = some res) : MX l yX10_bound (wB yX10_bound cX10_bound 3 (some .int)) 8 140 2 (gC D cI ad) [.ref (ad 0), .int a0, .int a1] σ res := mk_MX had (by decide +kernel) (Nat.le_of_ble_eq_true rfl) (fun X hX C hr hx => wfX10_bound C hr hx h)

def fX6_countIn (F : Nat) (σ : St) (a0 : Int32) (a1 : Int32) (a2 : Int32) : Option Int32 := lp (fun (K2 : (Int32 × Int32) → Option Int32) (v1 : Int32 × Int32) => ckI (a0) 8 (if (σ 7 (Int32.toNatClampNeg a0)) ≤ v1.1 then (some v1.2) else bd1 (fX10_placeOf F σ a0 v1.1) fun r4 => ckI (r4) 80 (nm (σ 8 (Int32.toNatClampNeg r4)) fun x5 => jn (fun v6 : Int32 => if v6 = 0 then (nm (v1.2 + 0) fun x9 => K2 ((v1.1 + 1, x9))) else nm (v1.2 + 1) fun x10 => K2 ((v1.1 + 1, x10))) fun J7 => jn (fun v11 : Unit => J7 1) fun J12 => jn (fun v14 : Unit => jn (fun v17 : Unit => jn (fun v20 : Unit => J7 0) fun J21 => if a2 = 2 then (if x5 = 3 then (bd1 (fX0_isOf F σ a0 v1.1 a1) fun r23 => if r23 = 0 then (J21 (())) else J12 (())) else J21 (())) else J21 (())) fun J18 => if a2 = 1 then (if x5 = 2 then (bd1 (fX6_isClause F σ a0 v1.1) fun r24 => if r24 = 0 then (J18 (())) else bd1 (fX0_isOf F σ a0 v1.1 a1) fun r25 => if r25 = 0 then (J12 (())) else J18 (())) else J18 (())) else J18 (())) fun J15 => if a2 = 0 then (bd1 (fX6_isBoundBy F σ a0 v1.1 a1) fun r26 => if r26 = 0 then (J15 (())) else J12 (())) else J15 (())))) F ((0, 0))
set_option maxRecDepth 20000 in
theorem wfX6_countIn {X : XT} {D : va_G} {cI : ClassId} {ad : Nat → Nat} {F : Nat} {σ : St} {a0 : Int32} {a1 : Int32} {a2 : Int32} {r : Int32} (C : Cx X (gC D cI ad) cX6_countIn 8 RX6 4 93 0) (hr : RetI X (gC D cI ad) cX6_countIn 8 0 r σ) (h : fX6_countIn F σ a0 a1 a2 = some r) : WP X (gC D cI ad) 8 0 0 σ [(0, .ref (ad 81)), (1, .int a0), (2, .int a1), (3, .int a2)] [] := by
  unfold fX6_countIn at h
  refine w_iconst C 0 dX6_countIn_0 rfl (by decide) ?_
  refine w_istore C [(4, .int 0), (0, .ref (ad 81)), (1, .int a0), (2, .int a1), (3, .int a2)] dX6_countIn_1 rfl (by decide) rfl ?_
  refine w_iconst C 0 dX6_countIn_3 rfl (by decide) ?_
  refine w_istore C [(5, .int 0), (4, .int 0), (0, .ref (ad 81)), (1, .int a0), (2, .int a1), (3, .int a2)] dX6_countIn_4 rfl (by decide) rfl ?_
  refine w_sub [0, 1, 2, 3, 4, 5] rfl ?_
  refine lp_w (fun v1 : Int32 × Int32 => WP X (gC D cI ad) 8 0 6 σ [(5, .int v1.1), (4, .int v1.2), (0, .ref (ad 81)), (1, .int a0), (2, .int a1), (3, .int a2)] []) (fun K2 hK3 v1 h => ?_) F _ h
  refine w_iload C dX6_countIn_6 rfl 0 rfl ?_
  refine w_aload_n C dX6_countIn_8 rfl 2 rfl ?_
  refine w_get C 81 0 (Nat.le_of_ble_eq_true rfl) rfl rfl inB_X6 (by decide) tw2_101 rfl dX6_countIn_9 rfl ?_
  refine w_get C 2 9 (Nat.le_of_ble_eq_true rfl) rfl rfl inB_X0 (by decide) tw1_97 rfl dX6_countIn_12 rfl ?_
  refine w_iload_n C dX6_countIn_15 rfl 3 rfl ?_
  refine w_iald C 7 8 0 (Nat.le_of_ble_eq_true rfl) (fun _ => rfl) rfl h dX6_countIn_16 rfl (fun h => ?_)
  refine w_icmp_ge C (qt := 139) dX6_countIn_17 (by decide) rfl h (fun _ h => ?_) (fun _ h => ?_)
  · refine w_iload C dX6_countIn_139 rfl 1 rfl ?_
    exact w_ri1 hr h (by decide) dX6_countIn_141
  · refine w_aload_n C dX6_countIn_20 rfl 2 rfl ?_
    refine w_get C 81 0 (Nat.le_of_ble_eq_true rfl) rfl rfl inB_X6 (by decide) tw2_101 rfl dX6_countIn_21 rfl ?_
    refine w_get C 2 10 (Nat.le_of_ble_eq_true rfl) rfl rfl inB_X0 (by decide) tw1_102 rfl dX6_countIn_24 rfl ?_
    refine w_iload_n C dX6_countIn_27 rfl 3 rfl ?_
    refine w_iload C dX6_countIn_28 rfl 0 rfl ?_
    refine bd1_w h (fun r4 hc h => ?_)
    refine w_callNi C (As := [.int a0, .int v1.1]) (st := [.ref (ad 8)]) (host := RX10) (cfX10_placeOf D cI ad (l := X.2.1) C.2.2.1 hc) (by decide +kernel) cs_X10_placeOf (by decide +kernel) ⟨Nat.le_of_ble_eq_true rfl, Nat.le_of_ble_eq_true rfl⟩ (by decide) rfl rfl (Nat.le_of_ble_eq_true rfl) dX6_countIn_30 rfl ?_
    refine w_iald C 8 80 0 (Nat.le_of_ble_eq_true rfl) (fun _ => rfl) rfl h dX6_countIn_33 rfl (fun h => ?_)
    refine w_nm h (fun x5 h => ?_)
    refine w_istore C [(6, .int x5), (5, .int v1.1), (4, .int v1.2), (0, .ref (ad 81)), (1, .int a0), (2, .int a1), (3, .int a2)] dX6_countIn_34 rfl (by decide) rfl ?_
    refine w_iload_n C dX6_countIn_36 rfl 6 rfl ?_
    refine jn_w (fun v6 : Int32 => WP X (gC D cI ad) 8 0 116 σ [(5, .int v1.1), (4, .int v1.2), (0, .ref (ad 81)), (1, .int a0), (2, .int a1), (3, .int a2)] [.int v6]) h (fun v6 h => ?_) (fun J7 hJ8 h => ?_)
    · refine w_istore C [(7, .int v6), (5, .int v1.1), (4, .int v1.2), (0, .ref (ad 81)), (1, .int a0), (2, .int a1), (3, .int a2)] dX6_countIn_116 rfl (by decide) rfl ?_
      refine w_iload C dX6_countIn_118 rfl 2 rfl ?_
      refine w_iload C dX6_countIn_120 rfl 0 rfl ?_
      refine w_if_eq C (qt := 129) dX6_countIn_122 (by decide) rfl h (fun _ h => ?_) (fun _ h => ?_)
      · refine w_iconst C 0 dX6_countIn_129 rfl (by decide) ?_
        refine w_iadd C dX6_countIn_130 rfl ?_
        refine w_nm h (fun x9 h => ?_)
        refine w_istore C [(4, .int x9), (7, .int v6), (5, .int v1.1), (0, .ref (ad 81)), (1, .int a0), (2, .int a1), (3, .int a2)] dX6_countIn_131 rfl (by decide) rfl ?_
        refine w_iinc (j := 2) C (v1.1 + 1) [(5, .int (v1.1 + 1)), (4, .int x9), (7, .int v6), (0, .ref (ad 81)), (1, .int a0), (2, .int a1), (3, .int a2)] dX6_countIn_133 rfl rfl rfl (by decide) rfl ?_
        refine w_goto (q := 6) C dX6_countIn_136 (by decide) ?_
        exact w_sub [0, 1, 3, 4, 5, 6] rfl (hK3 _ h)
      · refine w_iconst C 1 dX6_countIn_125 rfl (by decide) ?_
        refine w_goto (q := 130) C dX6_countIn_126 (by decide) ?_
        refine w_iadd C dX6_countIn_130 rfl ?_
        refine w_nm h (fun x10 h => ?_)
        refine w_istore C [(4, .int x10), (7, .int v6), (5, .int v1.1), (0, .ref (ad 81)), (1, .int a0), (2, .int a1), (3, .int a2)] dX6_countIn_131 rfl (by decide) rfl ?_
        refine w_iinc (j := 2) C (v1.1 + 1) [(5, .int (v1.1 + 1)), (4, .int x10), (7, .int v6), (0, .ref (ad 81)), (1, .int a0), (2, .int a1), (3, .int a2)] dX6_countIn_133 rfl rfl rfl (by decide) rfl ?_
        refine w_goto (q := 6) C dX6_countIn_136 (by decide) ?_
        exact w_sub [0, 1, 3, 4, 5, 6] rfl (hK3 _ h)
    · refine jn_w (fun v11 : Unit => WP X (gC D cI ad) 8 0 111 σ [(5, .int v1.1), (4, .int v1.2), (0, .ref (ad 81)), (1, .int a0), (2, .int a1), (3, .int a2)] []) h (fun v11 h => ?_) (fun J12 hJ13 h => ?_)
      · refine w_iconst C 1 dX6_countIn_111 rfl (by decide) ?_
        refine w_goto (q := 116) C dX6_countIn_112 (by decide) ?_
        exact w_sub [0, 1, 2, 3, 4, 5] rfl (hJ8 _ h)
      · refine jn_w (fun v14 : Unit => WP X (gC D cI ad) 8 0 51 σ [(6, .int x5), (5, .int v1.1), (4, .int v1.2), (0, .ref (ad 81)), (1, .int a0), (2, .int a1), (3, .int a2)] []) h (fun v14 h => ?_) (fun J15 hJ16 h => ?_)
        · refine w_iload_n C dX6_countIn_51 rfl 6 rfl ?_
          refine w_iconst C 1 dX6_countIn_52 rfl (by decide) ?_
          refine jn_w (fun v17 : Unit => WP X (gC D cI ad) 8 0 86 σ [(6, .int x5), (5, .int v1.1), (4, .int v1.2), (0, .ref (ad 81)), (1, .int a0), (2, .int a1), (3, .int a2)] []) h (fun v17 h => ?_) (fun J18 hJ19 h => ?_)
          · refine w_iload_n C dX6_countIn_86 rfl 6 rfl ?_
            refine w_iconst C 2 dX6_countIn_87 rfl (by decide) ?_
            refine jn_w (fun v20 : Unit => WP X (gC D cI ad) 8 0 115 σ [(5, .int v1.1), (4, .int v1.2), (0, .ref (ad 81)), (1, .int a0), (2, .int a1), (3, .int a2)] []) h (fun v20 h => ?_) (fun J21 hJ22 h => ?_)
            · refine w_iconst C 0 dX6_countIn_115 rfl (by decide) ?_
              exact w_sub [0, 1, 2, 3, 4, 5] rfl (hJ8 _ h)
            · refine w_icmp_ne C (qt := 115) dX6_countIn_88 (by decide) rfl h (fun _ h => ?_) (fun _ h => ?_)
              · exact w_sub [1, 2, 3, 4, 5, 6] rfl (hJ22 _ h)
              · refine w_iload C dX6_countIn_91 rfl 0 rfl ?_
                refine w_iconst C 3 dX6_countIn_93 rfl (by decide) ?_
                refine w_icmp_ne C (qt := 115) dX6_countIn_94 (by decide) rfl h (fun _ h => ?_) (fun _ h => ?_)
                · exact w_sub [1, 2, 3, 4, 5, 6] rfl (hJ22 _ h)
                · refine w_aload_n C dX6_countIn_97 rfl 3 rfl ?_
                  refine w_get C 81 0 (Nat.le_of_ble_eq_true rfl) rfl rfl inB_X6 (by decide) tw2_101 rfl dX6_countIn_98 rfl ?_
                  refine w_iload_n C dX6_countIn_101 rfl 4 rfl ?_
                  refine w_iload C dX6_countIn_102 rfl 1 rfl ?_
                  refine w_iload_n C dX6_countIn_104 rfl 5 rfl ?_
                  refine bd1_w h (fun r23 hc h => ?_)
                  refine w_callVi C (As := [.int a0, .int v1.1, .int a1]) (st := []) 2 (Nat.le_of_ble_eq_true rfl) rfl rfl (cfX0_isOf D cI ad (l := X.2.1) C.2.2.1 hc) tw4_172 cy_X0_isOf (by decide +kernel) ⟨Nat.le_of_ble_eq_true rfl, Nat.le_of_ble_eq_true rfl⟩ (by decide) rfl rfl (Nat.le_of_ble_eq_true rfl) dX6_countIn_105 rfl ?_
                  refine w_if_eq C (qt := 115) dX6_countIn_108 (by decide) rfl h (fun _ h => ?_) (fun _ h => ?_)
                  · exact w_sub [1, 2, 3, 4, 5, 6] rfl (hJ22 _ h)
                  · exact w_sub [1, 2, 3, 4, 5, 6] rfl (hJ13 _ h)
          · refine w_icmp_ne C (qt := 86) dX6_countIn_53 (by decide) rfl h (fun _ h => ?_) (fun _ h => ?_)
            · exact w_sub [0, 1, 2, 3, 4, 5, 6] rfl (hJ19 _ h)
            · refine w_iload C dX6_countIn_56 rfl 0 rfl ?_
              refine w_iconst C 2 dX6_countIn_58 rfl (by decide) ?_
              refine w_icmp_ne C (qt := 86) dX6_countIn_59 (by decide) rfl h (fun _ h => ?_) (fun _ h => ?_)
              · exact w_sub [0, 1, 2, 3, 4, 5, 6] rfl (hJ19 _ h)
              · refine w_aload_n C dX6_countIn_62 rfl 3 rfl ?_
                refine w_iload_n C dX6_countIn_63 rfl 4 rfl ?_
                refine w_iload C dX6_countIn_64 rfl 1 rfl ?_
                refine bd1_w h (fun r24 hc h => ?_)
                refine w_callVi C (As := [.int a0, .int v1.1]) (st := []) 81 (Nat.le_of_ble_eq_true rfl) rfl rfl (cfX6_isClause D cI ad (l := X.2.1) C.2.2.1 hc) tw4_162 cy_X6_isClause (by decide +kernel) ⟨Nat.le_of_ble_eq_true rfl, Nat.le_of_ble_eq_true rfl⟩ (by decide) rfl rfl (Nat.le_of_ble_eq_true rfl) dX6_countIn_66 rfl ?_
                refine w_if_eq C (qt := 86) dX6_countIn_69 (by decide) rfl h (fun _ h => ?_) (fun _ h => ?_)
                · exact w_sub [0, 1, 2, 3, 4, 5, 6] rfl (hJ19 _ h)
                · refine w_aload_n C dX6_countIn_72 rfl 3 rfl ?_
                  refine w_get C 81 0 (Nat.le_of_ble_eq_true rfl) rfl rfl inB_X6 (by decide) tw2_101 rfl dX6_countIn_73 rfl ?_
                  refine w_iload_n C dX6_countIn_76 rfl 4 rfl ?_
                  refine w_iload C dX6_countIn_77 rfl 1 rfl ?_
                  refine w_iload_n C dX6_countIn_79 rfl 5 rfl ?_
                  refine bd1_w h (fun r25 hc h => ?_)
                  refine w_callVi C (As := [.int a0, .int v1.1, .int a1]) (st := []) 2 (Nat.le_of_ble_eq_true rfl) rfl rfl (cfX0_isOf D cI ad (l := X.2.1) C.2.2.1 hc) tw4_172 cy_X0_isOf (by decide +kernel) ⟨Nat.le_of_ble_eq_true rfl, Nat.le_of_ble_eq_true rfl⟩ (by decide) rfl rfl (Nat.le_of_ble_eq_true rfl) dX6_countIn_80 rfl ?_
                  refine w_if_eq C (qt := 111) dX6_countIn_83 (by decide) rfl h (fun _ h => ?_) (fun _ h => ?_)
                  · exact w_sub [1, 2, 3, 4, 5, 6] rfl (hJ13 _ h)
                  · exact w_sub [0, 1, 2, 3, 4, 5, 6] rfl (hJ19 _ h)
        · refine w_if_ne C (qt := 51) dX6_countIn_37 (by decide) rfl h (fun _ h => ?_) (fun _ h => ?_)
          · exact w_sub [0, 1, 2, 3, 4, 5, 6] rfl (hJ16 _ h)
          · refine w_aload_n C dX6_countIn_40 rfl 3 rfl ?_
            refine w_iload_n C dX6_countIn_41 rfl 4 rfl ?_
            refine w_iload C dX6_countIn_42 rfl 1 rfl ?_
            refine w_iload_n C dX6_countIn_44 rfl 5 rfl ?_
            refine bd1_w h (fun r26 hc h => ?_)
            refine w_callVi C (As := [.int a0, .int v1.1, .int a1]) (st := []) 81 (Nat.le_of_ble_eq_true rfl) rfl rfl (cfX6_isBoundBy D cI ad (l := X.2.1) C.2.2.1 hc) tw4_158 cy_X6_isBoundBy (by decide +kernel) ⟨Nat.le_of_ble_eq_true rfl, Nat.le_of_ble_eq_true rfl⟩ (by decide) rfl rfl (Nat.le_of_ble_eq_true rfl) dX6_countIn_45 rfl ?_
            refine w_if_ne C (qt := 111) dX6_countIn_48 (by decide) rfl h (fun _ h => ?_) (fun _ h => ?_)
            · exact w_sub [1, 2, 3, 4, 5, 6] rfl (hJ13 _ h)
            · exact w_sub [0, 1, 2, 3, 4, 5, 6] rfl (hJ16 _ h)
theorem cfX6_countIn (D : va_G) (cI : ClassId) (ad : Nat → Nat) {l : Launch} (had : gAp (gC D cI ad)) {F : Nat} {σ : St} {a0 : Int32} {a1 : Int32} {a2 : Int32} {r : Int32} (h : fX6_countIn F σ a0 a1 a2 = some r) : MI l yX6_countIn (wB yX6_countIn cX6_countIn 8 (some .int)) 4 93 (gC D cI ad) [.ref (ad 81), .int a0, .int a1, .int a2] σ r σ := mk_MI had (by decide +kernel) (Nat.le_of_ble_eq_true rfl) (fun X hX C hr => wfX6_countIn C hr h)

