def fX3_become_4 (F : Nat) (σ : St) : Option St := lp (fun (K2 : (St × Int32) → Option St) (v1 : St × Int32) => if 1 < v1.2 then (some v1.1) else ckI (v1.2) 2 (ckI (v1.2) 2 (nm (up v1.1 68 (Int32.toNatClampNeg v1.2) (v1.1 78 (Int32.toNatClampNeg v1.2))) fun u4 => ckI (v1.2) 2 (ckI (v1.2) 2 (nm (up u4 69 (Int32.toNatClampNeg v1.2) (u4 79 (Int32.toNatClampNeg v1.2))) fun u5 => ckI (v1.2) 2 (ckI (v1.2) 2 (nm (up u5 70 (Int32.toNatClampNeg v1.2) (u5 80 (Int32.toNatClampNeg v1.2))) fun u6 => K2 ((u6, v1.2 + 1))))))))) F ((σ, 0))
set_option maxRecDepth 20000 in
theorem wfX3_become_4 {X : XT} {D : va_G} {cI : ClassId} {ad : Nat → Nat} {F : Nat} {σ : St}  {σ' : St} (C : Cx X (gC D cI ad) cX3_become 3 RX3 0 0 0) (hr : RetV X (gC D cI ad) cX3_become 3 0 σ') (h : fX3_become_4 F σ = some σ') : WP X (gC D cI ad) 3 0 0 σ [(0, .ref (ad 67)), (1, .ref (ad 77))] [] := by
  unfold fX3_become_4 at h
  refine w_iconst C 0 dX3_become_0 rfl (by decide) ?_
  refine w_istore_n C [(2, .int 0), (0, .ref (ad 67)), (1, .ref (ad 77))] dX3_become_1 rfl (by decide) rfl ?_
  refine w_sub [0, 1, 2] rfl ?_
  refine lp_w (fun v1 : St × Int32 => WP X (gC D cI ad) 3 0 2 v1.1 [(2, .int v1.2), (0, .ref (ad 67)), (1, .ref (ad 77))] []) (fun K2 hK3 v1 h => ?_) F _ h
  refine w_iload_n C dX3_become_2 rfl 0 rfl ?_
  refine w_iconst C 1 dX3_become_3 rfl (by decide) ?_
  refine w_icmp_gt C (qt := 49) dX3_become_4 (by decide) rfl h (fun _ h => ?_) (fun _ h => ?_)
  · exact w_rv hr h (by decide) dX3_become_49
  · refine w_aload_n C dX3_become_7 rfl 1 rfl ?_
    refine w_get C 67 0 (Nat.le_of_ble_eq_true rfl) rfl rfl inB_X3 (by decide) tw2_24 rfl dX3_become_8 rfl ?_
    refine w_iload_n C dX3_become_11 rfl 0 rfl ?_
    refine w_aload_n C dX3_become_12 rfl 2 rfl ?_
    refine w_get C 77 0 (Nat.le_of_ble_eq_true rfl) rfl rfl inB_X3 (by decide) tw2_24 rfl dX3_become_13 rfl ?_
    refine w_iload_n C dX3_become_16 rfl 0 rfl ?_
    refine w_iald C 78 2 0 (Nat.le_of_ble_eq_true rfl) (fun _ => rfl) rfl h dX3_become_17 rfl (fun h => ?_)
    refine w_iast C 68 2 0 (Nat.le_of_ble_eq_true rfl) (fun _ => rfl) rfl h dX3_become_18 rfl (fun h => ?_)
    refine w_nst h (fun u4 h => ?_)
    refine w_aload_n C dX3_become_19 rfl 1 rfl ?_
    refine w_get C 67 1 (Nat.le_of_ble_eq_true rfl) rfl rfl inB_X3 (by decide) tw2_27 rfl dX3_become_20 rfl ?_
    refine w_iload_n C dX3_become_23 rfl 0 rfl ?_
    refine w_aload_n C dX3_become_24 rfl 2 rfl ?_
    refine w_get C 77 1 (Nat.le_of_ble_eq_true rfl) rfl rfl inB_X3 (by decide) tw2_27 rfl dX3_become_25 rfl ?_
    refine w_iload_n C dX3_become_28 rfl 0 rfl ?_
    refine w_iald C 79 2 0 (Nat.le_of_ble_eq_true rfl) (fun _ => rfl) rfl h dX3_become_29 rfl (fun h => ?_)
    refine w_iast C 69 2 0 (Nat.le_of_ble_eq_true rfl) (fun _ => rfl) rfl h dX3_become_30 rfl (fun h => ?_)
    refine w_nst h (fun u5 h => ?_)
    refine w_aload_n C dX3_become_31 rfl 1 rfl ?_
    refine w_get C 67 2 (Nat.le_of_ble_eq_true rfl) rfl rfl inB_X3 (by decide) tw2_30 rfl dX3_become_32 rfl ?_
    refine w_iload_n C dX3_become_35 rfl 0 rfl ?_
    refine w_aload_n C dX3_become_36 rfl 2 rfl ?_
    refine w_get C 77 2 (Nat.le_of_ble_eq_true rfl) rfl rfl inB_X3 (by decide) tw2_30 rfl dX3_become_37 rfl ?_
    refine w_iload_n C dX3_become_40 rfl 0 rfl ?_
    refine w_iald C 80 2 0 (Nat.le_of_ble_eq_true rfl) (fun _ => rfl) rfl h dX3_become_41 rfl (fun h => ?_)
    refine w_iast C 70 2 0 (Nat.le_of_ble_eq_true rfl) (fun _ => rfl) rfl h dX3_become_42 rfl (fun h => ?_)
    refine w_nst h (fun u6 h => ?_)
    refine w_iinc (j := 0) C (v1.2 + 1) [(2, .int (v1.2 + 1)), (0, .ref (ad 67)), (1, .ref (ad 77))] dX3_become_43 rfl rfl rfl (by decide) rfl ?_
    refine w_goto (q := 2) C dX3_become_46 (by decide) ?_
    exact w_sub [0, 1, 2] rfl (hK3 _ h)
theorem cfX3_become_4 (D : va_G) (cI : ClassId) (ad : Nat → Nat) {l : Launch} (had : gAp (gC D cI ad)) {F : Nat} {σ : St}  {σ' : St} (h : fX3_become_4 F σ = some σ') : MV l yX3_become (wB yX3_become cX3_become 3 none) 0 0 (gC D cI ad) [.ref (ad 67), .ref (ad 77)] σ σ' := mk_MV had (by decide +kernel) (Nat.le_of_ble_eq_true rfl) (fun X hX C hr => wfX3_become_4 C hr h)

def fX5_firstFacingFrom (F : Nat) (σ : St) (a0 : Int32) : Option (Int32 × St) := ckI (a0) 10 (nm (σ 71 (Int32.toNatClampNeg a0)) fun x1 => lp (fun (K3 : (St × Int32 × Int32) → Option (Int32 × St)) (v2 : St × Int32 × Int32) => jn (fun v5 : Unit => ckI (a0) 10 (nm (up v2.1 71 (Int32.toNatClampNeg a0) x1) fun u8 => some (v2.2.2, u8))) fun J6 => if 9 < v2.2.1 then (J6 (())) else if v2.2.2 = ((-1)) then (bd1 (fX3_become_4 F v2.1) fun u9 => ckI (a0) 10 (nm (up u9 71 (Int32.toNatClampNeg a0) v2.2.1) fun u10 => if v2.2.1 = x1 then (K3 ((u10, v2.2.1 + 1, v2.2.2))) else bd2 (fX2_walk F u10 a0 (u10 66 4)) fun r11 u12 => if r11 = ((-1)) then (bd1 (fX3_areFacing F u12) fun r13 => if r13 = 0 then (K3 ((u12, v2.2.1 + 1, v2.2.2))) else nm ((10 * a0) + v2.2.1) fun x14 => K3 ((u12, v2.2.1 + 1, x14))) else K3 ((u12, v2.2.1 + 1, v2.2.2)))) else J6 (())) F ((σ, 0, (-1))))
set_option maxRecDepth 20000 in
theorem wfX5_firstFacingFrom {X : XT} {D : va_G} {cI : ClassId} {ad : Nat → Nat} {F : Nat} {σ : St} {a0 : Int32} {r : Int32} {σ' : St} (C : Cx X (gC D cI ad) cX5_firstFacingFrom 5 RX5 3 78 0) (hr : RetI X (gC D cI ad) cX5_firstFacingFrom 5 0 r σ') (h : fX5_firstFacingFrom F σ a0 = some (r, σ')) : WP X (gC D cI ad) 5 0 0 σ [(0, .ref (ad 72)), (1, .int a0)] [] := by
  unfold fX5_firstFacingFrom at h
  refine w_aload_n C dX5_firstFacingFrom_0 rfl 0 rfl ?_
  refine w_get C 72 1 (Nat.le_of_ble_eq_true rfl) rfl rfl inB_X5 (by decide) tw2_75 rfl dX5_firstFacingFrom_1 rfl ?_
  refine w_get C 66 2 (Nat.le_of_ble_eq_true rfl) rfl rfl inB_X2 (by decide) tw2_44 rfl dX5_firstFacingFrom_4 rfl ?_
  refine w_iload_n C dX5_firstFacingFrom_7 rfl 1 rfl ?_
  refine w_iald C 71 10 0 (Nat.le_of_ble_eq_true rfl) (fun _ => rfl) rfl h dX5_firstFacingFrom_8 rfl (fun h => ?_)
  refine w_nm h (fun x1 h => ?_)
  refine w_istore_n C [(2, .int x1), (0, .ref (ad 72)), (1, .int a0)] dX5_firstFacingFrom_9 rfl (by decide) rfl ?_
  refine w_iconst C (-1) dX5_firstFacingFrom_10 rfl (by decide) ?_
  refine w_istore_n C [(3, .int ((-1))), (2, .int x1), (0, .ref (ad 72)), (1, .int a0)] dX5_firstFacingFrom_11 rfl (by decide) rfl ?_
  refine w_iconst C 0 dX5_firstFacingFrom_12 rfl (by decide) ?_
  refine w_istore C [(4, .int 0), (3, .int ((-1))), (2, .int x1), (0, .ref (ad 72)), (1, .int a0)] dX5_firstFacingFrom_13 rfl (by decide) rfl ?_
  refine w_sub [0, 1, 2, 3, 4] rfl ?_
  refine lp_w (fun v2 : St × Int32 × Int32 => WP X (gC D cI ad) 5 0 15 v2.1 [(4, .int v2.2.1), (3, .int v2.2.2), (2, .int x1), (0, .ref (ad 72)), (1, .int a0)] []) (fun K3 hK4 v2 h => ?_) F _ h
  refine w_iload C dX5_firstFacingFrom_15 rfl 0 rfl ?_
  refine w_bipush C 9 dX5_firstFacingFrom_17 rfl (by decide) ?_
  refine jn_w (fun v5 : Unit => WP X (gC D cI ad) 5 0 104 v2.1 [(3, .int v2.2.2), (2, .int x1), (0, .ref (ad 72)), (1, .int a0)] []) h (fun v5 h => ?_) (fun J6 hJ7 h => ?_)
  · refine w_aload_n C dX5_firstFacingFrom_104 rfl 2 rfl ?_
    refine w_get C 72 1 (Nat.le_of_ble_eq_true rfl) rfl rfl inB_X5 (by decide) tw2_75 rfl dX5_firstFacingFrom_105 rfl ?_
    refine w_get C 66 2 (Nat.le_of_ble_eq_true rfl) rfl rfl inB_X2 (by decide) tw2_44 rfl dX5_firstFacingFrom_108 rfl ?_
    refine w_iload_n C dX5_firstFacingFrom_111 rfl 3 rfl ?_
    refine w_iload_n C dX5_firstFacingFrom_112 rfl 1 rfl ?_
    refine w_iast C 71 10 0 (Nat.le_of_ble_eq_true rfl) (fun _ => rfl) rfl h dX5_firstFacingFrom_113 rfl (fun h => ?_)
    refine w_nst h (fun u8 h => ?_)
    refine w_iload_n C dX5_firstFacingFrom_114 rfl 0 rfl ?_
    exact w_ri2 hr h (by decide) dX5_firstFacingFrom_115
  · refine w_icmp_gt C (qt := 104) dX5_firstFacingFrom_19 (by decide) rfl h (fun _ h => ?_) (fun _ h => ?_)
    · exact w_sub [1, 2, 3, 4] rfl (hJ7 _ h)
    · refine w_iload_n C dX5_firstFacingFrom_22 rfl 1 rfl ?_
      refine w_iconst C (-1) dX5_firstFacingFrom_23 rfl (by decide) ?_
      refine w_icmp_ne C (qt := 104) dX5_firstFacingFrom_24 (by decide) rfl h (fun _ h => ?_) (fun _ h => ?_)
      · exact w_sub [1, 2, 3, 4] rfl (hJ7 _ h)
      · refine w_aload_n C dX5_firstFacingFrom_27 rfl 3 rfl ?_
        refine w_get C 72 1 (Nat.le_of_ble_eq_true rfl) rfl rfl inB_X5 (by decide) tw2_75 rfl dX5_firstFacingFrom_28 rfl ?_
        refine w_get C 66 1 (Nat.le_of_ble_eq_true rfl) rfl rfl inB_X2 (by decide) tw2_41 rfl dX5_firstFacingFrom_31 rfl ?_
        refine w_aload_n C dX5_firstFacingFrom_34 rfl 3 rfl ?_
        refine w_get C 72 3 (Nat.le_of_ble_eq_true rfl) rfl rfl inB_X5 (by decide) tw2_77 rfl dX5_firstFacingFrom_35 rfl ?_
        refine bd1_w h (fun u9 hc h => ?_)
        refine w_callVv C (As := [.ref (ad 77)]) (st := []) 67 (Nat.le_of_ble_eq_true rfl) rfl rfl (cfX3_become_4 D cI ad (l := X.2.1) C.2.2.1 hc) tw5_153 cy_X3_become (by decide +kernel) ⟨Nat.le_of_ble_eq_true rfl, Nat.le_of_ble_eq_true rfl⟩ (by decide) rfl rfl (Nat.le_of_ble_eq_true rfl) dX5_firstFacingFrom_38 rfl ?_
        refine w_aload_n C dX5_firstFacingFrom_41 rfl 3 rfl ?_
        refine w_get C 72 1 (Nat.le_of_ble_eq_true rfl) rfl rfl inB_X5 (by decide) tw2_75 rfl dX5_firstFacingFrom_42 rfl ?_
        refine w_get C 66 2 (Nat.le_of_ble_eq_true rfl) rfl rfl inB_X2 (by decide) tw2_44 rfl dX5_firstFacingFrom_45 rfl ?_
        refine w_iload_n C dX5_firstFacingFrom_48 rfl 4 rfl ?_
        refine w_iload C dX5_firstFacingFrom_49 rfl 0 rfl ?_
        refine w_iast C 71 10 0 (Nat.le_of_ble_eq_true rfl) (fun _ => rfl) rfl h dX5_firstFacingFrom_51 rfl (fun h => ?_)
        refine w_nst h (fun u10 h => ?_)
        refine w_iload C dX5_firstFacingFrom_52 rfl 0 rfl ?_
        refine w_iload_n C dX5_firstFacingFrom_54 rfl 2 rfl ?_
        refine w_icmp_eq C (qt := 98) dX5_firstFacingFrom_55 (by decide) rfl h (fun _ h => ?_) (fun _ h => ?_)
        · refine w_iinc (j := 0) C (v2.2.1 + 1) [(4, .int (v2.2.1 + 1)), (3, .int v2.2.2), (2, .int x1), (0, .ref (ad 72)), (1, .int a0)] dX5_firstFacingFrom_98 rfl rfl rfl (by decide) rfl ?_
          refine w_goto (q := 15) C dX5_firstFacingFrom_101 (by decide) ?_
          exact w_sub [0, 1, 2, 3, 4] rfl (hK4 _ h)
        · refine w_aload_n C dX5_firstFacingFrom_58 rfl 3 rfl ?_
          refine w_get C 72 1 (Nat.le_of_ble_eq_true rfl) rfl rfl inB_X5 (by decide) tw2_75 rfl dX5_firstFacingFrom_59 rfl ?_
          refine w_iload_n C dX5_firstFacingFrom_62 rfl 4 rfl ?_
          refine w_aload_n C dX5_firstFacingFrom_63 rfl 3 rfl ?_
          refine w_get C 72 1 (Nat.le_of_ble_eq_true rfl) rfl rfl inB_X5 (by decide) tw2_75 rfl dX5_firstFacingFrom_64 rfl ?_
          refine w_get C 66 4 (Nat.le_of_ble_eq_true rfl) rfl rfl inB_X2 (by decide) tw2_48 rfl dX5_firstFacingFrom_67 rfl ?_
          refine bd2_w h (fun r11 u12 hc h => ?_)
          refine w_callVi C (As := [.int a0, .int (u10 66 4)]) (st := []) 66 (Nat.le_of_ble_eq_true rfl) rfl rfl (cfX2_walk D cI ad (l := X.2.1) C.2.2.1 hc) tw5_152 cy_X2_walk (by decide +kernel) ⟨Nat.le_of_ble_eq_true rfl, Nat.le_of_ble_eq_true rfl⟩ (by decide) rfl rfl (Nat.le_of_ble_eq_true rfl) dX5_firstFacingFrom_70 rfl ?_
          refine w_iconst C (-1) dX5_firstFacingFrom_73 rfl (by decide) ?_
          refine w_icmp_ne C (qt := 98) dX5_firstFacingFrom_74 (by decide) rfl h (fun _ h => ?_) (fun _ h => ?_)
          · refine w_iinc (j := 0) C (v2.2.1 + 1) [(4, .int (v2.2.1 + 1)), (3, .int v2.2.2), (2, .int x1), (0, .ref (ad 72)), (1, .int a0)] dX5_firstFacingFrom_98 rfl rfl rfl (by decide) rfl ?_
            refine w_goto (q := 15) C dX5_firstFacingFrom_101 (by decide) ?_
            exact w_sub [0, 1, 2, 3, 4] rfl (hK4 _ h)
          · refine w_aload_n C dX5_firstFacingFrom_77 rfl 3 rfl ?_
            refine w_get C 72 1 (Nat.le_of_ble_eq_true rfl) rfl rfl inB_X5 (by decide) tw2_75 rfl dX5_firstFacingFrom_78 rfl ?_
            refine w_get C 66 1 (Nat.le_of_ble_eq_true rfl) rfl rfl inB_X2 (by decide) tw2_41 rfl dX5_firstFacingFrom_81 rfl ?_
            refine bd1_w h (fun r13 hc h => ?_)
            refine w_callVi C (As := []) (st := []) 67 (Nat.le_of_ble_eq_true rfl) rfl rfl (cfX3_areFacing D cI ad (l := X.2.1) C.2.2.1 hc) tw5_165 cy_X3_areFacing (by decide +kernel) ⟨Nat.le_of_ble_eq_true rfl, Nat.le_of_ble_eq_true rfl⟩ (by decide) rfl rfl (Nat.le_of_ble_eq_true rfl) dX5_firstFacingFrom_84 rfl ?_
            refine w_if_eq C (qt := 98) dX5_firstFacingFrom_87 (by decide) rfl h (fun _ h => ?_) (fun _ h => ?_)
            · refine w_iinc (j := 0) C (v2.2.1 + 1) [(4, .int (v2.2.1 + 1)), (3, .int v2.2.2), (2, .int x1), (0, .ref (ad 72)), (1, .int a0)] dX5_firstFacingFrom_98 rfl rfl rfl (by decide) rfl ?_
              refine w_goto (q := 15) C dX5_firstFacingFrom_101 (by decide) ?_
              exact w_sub [0, 1, 2, 3, 4] rfl (hK4 _ h)
            · refine w_bipush C 10 dX5_firstFacingFrom_90 rfl (by decide) ?_
              refine w_iload_n C dX5_firstFacingFrom_92 rfl 4 rfl ?_
              refine w_imul C dX5_firstFacingFrom_93 rfl ?_
              refine w_iload C dX5_firstFacingFrom_94 rfl 0 rfl ?_
              refine w_iadd C dX5_firstFacingFrom_96 rfl ?_
              refine w_nm h (fun x14 h => ?_)
              refine w_istore_n C [(3, .int x14), (4, .int v2.2.1), (2, .int x1), (0, .ref (ad 72)), (1, .int a0)] dX5_firstFacingFrom_97 rfl (by decide) rfl ?_
              refine w_iinc (j := 1) C (v2.2.1 + 1) [(4, .int (v2.2.1 + 1)), (3, .int x14), (2, .int x1), (0, .ref (ad 72)), (1, .int a0)] dX5_firstFacingFrom_98 rfl rfl rfl (by decide) rfl ?_
              refine w_goto (q := 15) C dX5_firstFacingFrom_101 (by decide) ?_
              exact w_sub [0, 1, 2, 3, 4] rfl (hK4 _ h)
theorem cfX5_firstFacingFrom (D : va_G) (cI : ClassId) (ad : Nat → Nat) {l : Launch} (had : gAp (gC D cI ad)) {F : Nat} {σ : St} {a0 : Int32} {r : Int32} {σ' : St} (h : fX5_firstFacingFrom F σ a0 = some (r, σ')) : MI l yX5_firstFacingFrom (wB yX5_firstFacingFrom cX5_firstFacingFrom 5 (some .int)) 3 78 (gC D cI ad) [.ref (ad 72), .int a0] σ r σ' := mk_MI had (by decide +kernel) (Nat.le_of_ble_eq_true rfl) (fun X hX C hr => wfX5_firstFacingFrom C hr h)

def fX5_firstFacingCouple (F : Nat) (σ : St) (a0 : Int32) (a1 : Int32) : Option (Int32 × St) := ckI (a0) 10 (nm (σ 71 (Int32.toNatClampNeg a0)) fun x1 => lp (fun (K3 : (St × Int32 × Int32) → Option (Int32 × St)) (v2 : St × Int32 × Int32) => jn (fun v5 : Unit => ckI (a0) 10 (nm (up v2.1 71 (Int32.toNatClampNeg a0) x1) fun u8 => some (v2.2.2, u8))) fun J6 => if 9 < v2.2.1 then (J6 (())) else if v2.2.2 = ((-1)) then (bd1 (fX3_become_2 F v2.1) fun u9 => ckI (a0) 10 (nm (up u9 71 (Int32.toNatClampNeg a0) v2.2.1) fun u10 => if v2.2.1 = x1 then (K3 ((u10, v2.2.1 + 1, v2.2.2))) else bd2 (fX2_walk F u10 a0 a1) fun r11 u12 => if r11 = ((-1)) then (bd1 (fX3_become_3 F u12) fun u13 => bd2 (fX5_firstFacingFrom F u13 a1) fun r14 u15 => if r14 = ((-1)) then (K3 ((u15, v2.2.1 + 1, (-1)))) else nm ((100 * ((10 * a0) + v2.2.1)) + r14) fun x16 => K3 ((u15, v2.2.1 + 1, x16))) else K3 ((u12, v2.2.1 + 1, v2.2.2)))) else J6 (())) F ((σ, 0, (-1))))
set_option maxRecDepth 20000 in
theorem wfX5_firstFacingCouple {X : XT} {D : va_G} {cI : ClassId} {ad : Nat → Nat} {F : Nat} {σ : St} {a0 : Int32} {a1 : Int32} {r : Int32} {σ' : St} (C : Cx X (gC D cI ad) cX5_firstFacingCouple 7 RX5 4 102 0) (hr : RetI X (gC D cI ad) cX5_firstFacingCouple 7 0 r σ') (h : fX5_firstFacingCouple F σ a0 a1 = some (r, σ')) : WP X (gC D cI ad) 7 0 0 σ [(0, .ref (ad 72)), (1, .int a0), (2, .int a1)] [] := by
  unfold fX5_firstFacingCouple at h
  refine w_aload_n C dX5_firstFacingCouple_0 rfl 0 rfl ?_
  refine w_get C 72 1 (Nat.le_of_ble_eq_true rfl) rfl rfl inB_X5 (by decide) tw2_75 rfl dX5_firstFacingCouple_1 rfl ?_
  refine w_get C 66 2 (Nat.le_of_ble_eq_true rfl) rfl rfl inB_X2 (by decide) tw2_44 rfl dX5_firstFacingCouple_4 rfl ?_
  refine w_iload_n C dX5_firstFacingCouple_7 rfl 1 rfl ?_
  refine w_iald C 71 10 0 (Nat.le_of_ble_eq_true rfl) (fun _ => rfl) rfl h dX5_firstFacingCouple_8 rfl (fun h => ?_)
  refine w_nm h (fun x1 h => ?_)
  refine w_istore_n C [(3, .int x1), (0, .ref (ad 72)), (1, .int a0), (2, .int a1)] dX5_firstFacingCouple_9 rfl (by decide) rfl ?_
  refine w_iconst C (-1) dX5_firstFacingCouple_10 rfl (by decide) ?_
  refine w_istore C [(4, .int ((-1))), (3, .int x1), (0, .ref (ad 72)), (1, .int a0), (2, .int a1)] dX5_firstFacingCouple_11 rfl (by decide) rfl ?_
  refine w_iconst C 0 dX5_firstFacingCouple_13 rfl (by decide) ?_
  refine w_istore C [(5, .int 0), (4, .int ((-1))), (3, .int x1), (0, .ref (ad 72)), (1, .int a0), (2, .int a1)] dX5_firstFacingCouple_14 rfl (by decide) rfl ?_
  refine w_sub [0, 1, 2, 3, 4, 5] rfl ?_
  refine lp_w (fun v2 : St × Int32 × Int32 => WP X (gC D cI ad) 7 0 16 v2.1 [(5, .int v2.2.1), (4, .int v2.2.2), (3, .int x1), (0, .ref (ad 72)), (1, .int a0), (2, .int a1)] []) (fun K3 hK4 v2 h => ?_) F _ h
  refine w_iload C dX5_firstFacingCouple_16 rfl 0 rfl ?_
  refine w_bipush C 9 dX5_firstFacingCouple_18 rfl (by decide) ?_
  refine jn_w (fun v5 : Unit => WP X (gC D cI ad) 7 0 125 v2.1 [(4, .int v2.2.2), (3, .int x1), (0, .ref (ad 72)), (1, .int a0)] []) h (fun v5 h => ?_) (fun J6 hJ7 h => ?_)
  · refine w_aload_n C dX5_firstFacingCouple_125 rfl 2 rfl ?_
    refine w_get C 72 1 (Nat.le_of_ble_eq_true rfl) rfl rfl inB_X5 (by decide) tw2_75 rfl dX5_firstFacingCouple_126 rfl ?_
    refine w_get C 66 2 (Nat.le_of_ble_eq_true rfl) rfl rfl inB_X2 (by decide) tw2_44 rfl dX5_firstFacingCouple_129 rfl ?_
    refine w_iload_n C dX5_firstFacingCouple_132 rfl 3 rfl ?_
    refine w_iload_n C dX5_firstFacingCouple_133 rfl 1 rfl ?_
    refine w_iast C 71 10 0 (Nat.le_of_ble_eq_true rfl) (fun _ => rfl) rfl h dX5_firstFacingCouple_134 rfl (fun h => ?_)
    refine w_nst h (fun u8 h => ?_)
    refine w_iload C dX5_firstFacingCouple_135 rfl 0 rfl ?_
    exact w_ri2 hr h (by decide) dX5_firstFacingCouple_137
  · refine w_icmp_gt C (qt := 125) dX5_firstFacingCouple_20 (by decide) rfl h (fun _ h => ?_) (fun _ h => ?_)
    · exact w_sub [1, 2, 3, 4] rfl (hJ7 _ h)
    · refine w_iload C dX5_firstFacingCouple_23 rfl 1 rfl ?_
      refine w_iconst C (-1) dX5_firstFacingCouple_25 rfl (by decide) ?_
      refine w_icmp_ne C (qt := 125) dX5_firstFacingCouple_26 (by decide) rfl h (fun _ h => ?_) (fun _ h => ?_)
      · exact w_sub [1, 2, 3, 4] rfl (hJ7 _ h)
      · refine w_aload_n C dX5_firstFacingCouple_29 rfl 3 rfl ?_
        refine w_get C 72 1 (Nat.le_of_ble_eq_true rfl) rfl rfl inB_X5 (by decide) tw2_75 rfl dX5_firstFacingCouple_30 rfl ?_
        refine w_get C 66 1 (Nat.le_of_ble_eq_true rfl) rfl rfl inB_X2 (by decide) tw2_41 rfl dX5_firstFacingCouple_33 rfl ?_
        refine w_aload_n C dX5_firstFacingCouple_36 rfl 3 rfl ?_
        refine w_get C 72 2 (Nat.le_of_ble_eq_true rfl) rfl rfl inB_X5 (by decide) tw2_76 rfl dX5_firstFacingCouple_37 rfl ?_
        refine bd1_w h (fun u9 hc h => ?_)
        refine w_callVv C (As := [.ref (ad 73)]) (st := []) 67 (Nat.le_of_ble_eq_true rfl) rfl rfl (cfX3_become_2 D cI ad (l := X.2.1) C.2.2.1 hc) tw5_153 cy_X3_become (by decide +kernel) ⟨Nat.le_of_ble_eq_true rfl, Nat.le_of_ble_eq_true rfl⟩ (by decide) rfl rfl (Nat.le_of_ble_eq_true rfl) dX5_firstFacingCouple_40 rfl ?_
        refine w_aload_n C dX5_firstFacingCouple_43 rfl 3 rfl ?_
        refine w_get C 72 1 (Nat.le_of_ble_eq_true rfl) rfl rfl inB_X5 (by decide) tw2_75 rfl dX5_firstFacingCouple_44 rfl ?_
        refine w_get C 66 2 (Nat.le_of_ble_eq_true rfl) rfl rfl inB_X2 (by decide) tw2_44 rfl dX5_firstFacingCouple_47 rfl ?_
        refine w_iload_n C dX5_firstFacingCouple_50 rfl 4 rfl ?_
        refine w_iload C dX5_firstFacingCouple_51 rfl 0 rfl ?_
        refine w_iast C 71 10 0 (Nat.le_of_ble_eq_true rfl) (fun _ => rfl) rfl h dX5_firstFacingCouple_53 rfl (fun h => ?_)
        refine w_nst h (fun u10 h => ?_)
        refine w_iload C dX5_firstFacingCouple_54 rfl 0 rfl ?_
        refine w_iload_n C dX5_firstFacingCouple_56 rfl 2 rfl ?_
        refine w_icmp_eq C (qt := 119) dX5_firstFacingCouple_57 (by decide) rfl h (fun _ h => ?_) (fun _ h => ?_)
        · refine w_iinc (j := 0) C (v2.2.1 + 1) [(5, .int (v2.2.1 + 1)), (4, .int v2.2.2), (3, .int x1), (0, .ref (ad 72)), (1, .int a0), (2, .int a1)] dX5_firstFacingCouple_119 rfl rfl rfl (by decide) rfl ?_
          refine w_goto (q := 16) C dX5_firstFacingCouple_122 (by decide) ?_
          exact w_sub [0, 1, 2, 3, 4, 5] rfl (hK4 _ h)
        · refine w_aload_n C dX5_firstFacingCouple_60 rfl 3 rfl ?_
          refine w_get C 72 1 (Nat.le_of_ble_eq_true rfl) rfl rfl inB_X5 (by decide) tw2_75 rfl dX5_firstFacingCouple_61 rfl ?_
          refine w_iload_n C dX5_firstFacingCouple_64 rfl 4 rfl ?_
          refine w_iload_n C dX5_firstFacingCouple_65 rfl 5 rfl ?_
          refine bd2_w h (fun r11 u12 hc h => ?_)
          refine w_callVi C (As := [.int a0, .int a1]) (st := []) 66 (Nat.le_of_ble_eq_true rfl) rfl rfl (cfX2_walk D cI ad (l := X.2.1) C.2.2.1 hc) tw5_152 cy_X2_walk (by decide +kernel) ⟨Nat.le_of_ble_eq_true rfl, Nat.le_of_ble_eq_true rfl⟩ (by decide) rfl rfl (Nat.le_of_ble_eq_true rfl) dX5_firstFacingCouple_66 rfl ?_
          refine w_iconst C (-1) dX5_firstFacingCouple_69 rfl (by decide) ?_
          refine w_icmp_ne C (qt := 119) dX5_firstFacingCouple_70 (by decide) rfl h (fun _ h => ?_) (fun _ h => ?_)
          · refine w_iinc (j := 0) C (v2.2.1 + 1) [(5, .int (v2.2.1 + 1)), (4, .int v2.2.2), (3, .int x1), (0, .ref (ad 72)), (1, .int a0), (2, .int a1)] dX5_firstFacingCouple_119 rfl rfl rfl (by decide) rfl ?_
            refine w_goto (q := 16) C dX5_firstFacingCouple_122 (by decide) ?_
            exact w_sub [0, 1, 2, 3, 4, 5] rfl (hK4 _ h)
          · refine w_aload_n C dX5_firstFacingCouple_73 rfl 3 rfl ?_
            refine w_get C 72 3 (Nat.le_of_ble_eq_true rfl) rfl rfl inB_X5 (by decide) tw2_77 rfl dX5_firstFacingCouple_74 rfl ?_
            refine w_aload_n C dX5_firstFacingCouple_77 rfl 3 rfl ?_
            refine w_get C 72 1 (Nat.le_of_ble_eq_true rfl) rfl rfl inB_X5 (by decide) tw2_75 rfl dX5_firstFacingCouple_78 rfl ?_
            refine w_get C 66 1 (Nat.le_of_ble_eq_true rfl) rfl rfl inB_X2 (by decide) tw2_41 rfl dX5_firstFacingCouple_81 rfl ?_
            refine bd1_w h (fun u13 hc h => ?_)
            refine w_callVv C (As := [.ref (ad 67)]) (st := []) 77 (Nat.le_of_ble_eq_true rfl) rfl rfl (cfX3_become_3 D cI ad (l := X.2.1) C.2.2.1 hc) tw5_153 cy_X3_become (by decide +kernel) ⟨Nat.le_of_ble_eq_true rfl, Nat.le_of_ble_eq_true rfl⟩ (by decide) rfl rfl (Nat.le_of_ble_eq_true rfl) dX5_firstFacingCouple_84 rfl ?_
            refine w_aload_n C dX5_firstFacingCouple_87 rfl 3 rfl ?_
            refine w_iload_n C dX5_firstFacingCouple_88 rfl 5 rfl ?_
            refine bd2_w h (fun r14 u15 hc h => ?_)
            refine w_callVi C (As := [.int a1]) (st := []) 72 (Nat.le_of_ble_eq_true rfl) rfl rfl (cfX5_firstFacingFrom D cI ad (l := X.2.1) C.2.2.1 hc) tw5_161 cy_X5_firstFacingFrom (by decide +kernel) ⟨Nat.le_of_ble_eq_true rfl, Nat.le_of_ble_eq_true rfl⟩ (by decide) rfl rfl (Nat.le_of_ble_eq_true rfl) dX5_firstFacingCouple_89 rfl ?_
            refine w_istore C [(6, .int r14), (5, .int v2.2.1), (4, .int v2.2.2), (3, .int x1), (0, .ref (ad 72)), (1, .int a0), (2, .int a1)] dX5_firstFacingCouple_92 rfl (by decide) rfl ?_
            refine w_iload C dX5_firstFacingCouple_94 rfl 0 rfl ?_
            refine w_iconst C (-1) dX5_firstFacingCouple_96 rfl (by decide) ?_
            refine w_icmp_ne C (qt := 104) dX5_firstFacingCouple_97 (by decide) rfl h (fun _ h => ?_) (fun _ h => ?_)
            · refine w_bipush C 100 dX5_firstFacingCouple_104 rfl (by decide) ?_
              refine w_bipush C 10 dX5_firstFacingCouple_106 rfl (by decide) ?_
              refine w_iload_n C dX5_firstFacingCouple_108 rfl 5 rfl ?_
              refine w_imul C dX5_firstFacingCouple_109 rfl ?_
              refine w_iload C dX5_firstFacingCouple_110 rfl 1 rfl ?_
              refine w_iadd C dX5_firstFacingCouple_112 rfl ?_
              refine w_imul C dX5_firstFacingCouple_113 rfl ?_
              refine w_iload C dX5_firstFacingCouple_114 rfl 0 rfl ?_
              refine w_iadd C dX5_firstFacingCouple_116 rfl ?_
              refine w_nm h (fun x16 h => ?_)
              refine w_istore C [(4, .int x16), (6, .int r14), (5, .int v2.2.1), (3, .int x1), (0, .ref (ad 72)), (1, .int a0), (2, .int a1)] dX5_firstFacingCouple_117 rfl (by decide) rfl ?_
              refine w_iinc (j := 2) C (v2.2.1 + 1) [(5, .int (v2.2.1 + 1)), (4, .int x16), (6, .int r14), (3, .int x1), (0, .ref (ad 72)), (1, .int a0), (2, .int a1)] dX5_firstFacingCouple_119 rfl rfl rfl (by decide) rfl ?_
              refine w_goto (q := 16) C dX5_firstFacingCouple_122 (by decide) ?_
              exact w_sub [0, 1, 3, 4, 5, 6] rfl (hK4 _ h)
            · refine w_iconst C (-1) dX5_firstFacingCouple_100 rfl (by decide) ?_
              refine w_goto (q := 117) C dX5_firstFacingCouple_101 (by decide) ?_
              refine w_istore C [(4, .int ((-1))), (6, .int r14), (5, .int v2.2.1), (3, .int x1), (0, .ref (ad 72)), (1, .int a0), (2, .int a1)] dX5_firstFacingCouple_117 rfl (by decide) rfl ?_
              refine w_iinc (j := 2) C (v2.2.1 + 1) [(5, .int (v2.2.1 + 1)), (4, .int ((-1))), (6, .int r14), (3, .int x1), (0, .ref (ad 72)), (1, .int a0), (2, .int a1)] dX5_firstFacingCouple_119 rfl rfl rfl (by decide) rfl ?_
              refine w_goto (q := 16) C dX5_firstFacingCouple_122 (by decide) ?_
              exact w_sub [0, 1, 3, 4, 5, 6] rfl (hK4 _ h)
theorem cfX5_firstFacingCouple (D : va_G) (cI : ClassId) (ad : Nat → Nat) {l : Launch} (had : gAp (gC D cI ad)) {F : Nat} {σ : St} {a0 : Int32} {a1 : Int32} {r : Int32} {σ' : St} (h : fX5_firstFacingCouple F σ a0 a1 = some (r, σ')) : MI l yX5_firstFacingCouple (wB yX5_firstFacingCouple cX5_firstFacingCouple 7 (some .int)) 4 102 (gC D cI ad) [.ref (ad 72), .int a0, .int a1] σ r σ' := mk_MI had (by decide +kernel) (Nat.le_of_ble_eq_true rfl) (fun X hX C hr => wfX5_firstFacingCouple C hr h)

def fX5_mendByTwo (F : Nat) (σ : St) : Option (Int32 × St) := lp (fun (K2 : (St × Int32 × Int32) → Option (Int32 × St)) (v1 : St × Int32 × Int32) => if (v1.1 66 4) ≤ v1.2.1 then (some (v1.2.2, v1.1)) else if v1.2.2 = ((-1)) then (bd1 (fX3_begin F v1.1 (v1.1 2 2)) fun u4 => bd2 (fX2_walk F u4 0 v1.2.1) fun r5 u6 => if r5 = ((-1)) then (bd1 (fX3_become F u6) fun u7 => nm (v1.2.1 + 1) fun x8 => lp (fun (K10 : (St × Int32 × Int32) → Option (Int32 × St)) (v9 : St × Int32 × Int32) => if (v9.1 66 4) ≤ v9.2.1 then (K2 ((v9.1, v1.2.1 + 1, v9.2.2))) else if v9.2.2 = ((-1)) then (bd1 (fX5_changes F v9.1 v1.2.1) fun r12 => if r12 = 0 then (K10 ((v9.1, v9.2.1 + 1, v9.2.2))) else bd1 (fX5_changes F v9.1 v9.2.1) fun r13 => if r13 = 0 then (K10 ((v9.1, v9.2.1 + 1, v9.2.2))) else bd2 (fX5_firstFacingCouple F v9.1 v1.2.1 v9.2.1) fun r14 u15 => K10 ((u15, v9.2.1 + 1, r14))) else K2 ((v9.1, v1.2.1 + 1, v9.2.2))) F ((u7, x8, v1.2.2))) else some ((-1), u6)) else some (v1.2.2, v1.1)) F ((σ, 0, (-1)))
set_option maxRecDepth 20000 in
theorem wfX5_mendByTwo {X : XT} {D : va_G} {cI : ClassId} {ad : Nat → Nat} {F : Nat} {σ : St}  {r : Int32} {σ' : St} (C : Cx X (gC D cI ad) cX5_mendByTwo 4 RX5 5 128 0) (hr : RetI X (gC D cI ad) cX5_mendByTwo 4 0 r σ') (h : fX5_mendByTwo F σ = some (r, σ')) : WP X (gC D cI ad) 4 0 0 σ [(0, .ref (ad 72))] [] := by
  unfold fX5_mendByTwo at h
  refine w_iconst C (-1) dX5_mendByTwo_0 rfl (by decide) ?_
  refine w_istore_n C [(1, .int ((-1))), (0, .ref (ad 72))] dX5_mendByTwo_1 rfl (by decide) rfl ?_
  refine w_iconst C 0 dX5_mendByTwo_2 rfl (by decide) ?_
  refine w_istore_n C [(2, .int 0), (1, .int ((-1))), (0, .ref (ad 72))] dX5_mendByTwo_3 rfl (by decide) rfl ?_
  refine w_sub [0, 1, 2] rfl ?_
  refine lp_w (fun v1 : St × Int32 × Int32 => WP X (gC D cI ad) 4 0 4 v1.1 [(2, .int v1.2.1), (1, .int v1.2.2), (0, .ref (ad 72))] []) (fun K2 hK3 v1 h => ?_) F _ h
  refine w_iload_n C dX5_mendByTwo_4 rfl 0 rfl ?_
  refine w_aload_n C dX5_mendByTwo_5 rfl 2 rfl ?_
  refine w_get C 72 1 (Nat.le_of_ble_eq_true rfl) rfl rfl inB_X5 (by decide) tw2_75 rfl dX5_mendByTwo_6 rfl ?_
  refine w_get C 66 4 (Nat.le_of_ble_eq_true rfl) rfl rfl inB_X2 (by decide) tw2_48 rfl dX5_mendByTwo_9 rfl ?_
  refine w_icmp_ge C (qt := 121) dX5_mendByTwo_12 (by decide) rfl h (fun _ h => ?_) (fun _ h => ?_)
  · refine w_iload_n C dX5_mendByTwo_121 rfl 1 rfl ?_
    exact w_ri2 hr h (by decide) dX5_mendByTwo_122
  · refine w_iload_n C dX5_mendByTwo_15 rfl 1 rfl ?_
    refine w_iconst C (-1) dX5_mendByTwo_16 rfl (by decide) ?_
    refine w_icmp_ne C (qt := 121) dX5_mendByTwo_17 (by decide) rfl h (fun _ h => ?_) (fun _ h => ?_)
    · refine w_iload_n C dX5_mendByTwo_121 rfl 1 rfl ?_
      exact w_ri2 hr h (by decide) dX5_mendByTwo_122
    · refine w_aload_n C dX5_mendByTwo_20 rfl 2 rfl ?_
      refine w_get C 72 1 (Nat.le_of_ble_eq_true rfl) rfl rfl inB_X5 (by decide) tw2_75 rfl dX5_mendByTwo_21 rfl ?_
      refine w_get C 66 1 (Nat.le_of_ble_eq_true rfl) rfl rfl inB_X2 (by decide) tw2_41 rfl dX5_mendByTwo_24 rfl ?_
      refine w_aload_n C dX5_mendByTwo_27 rfl 2 rfl ?_
      refine w_get C 72 0 (Nat.le_of_ble_eq_true rfl) rfl rfl inB_X5 (by decide) tw2_74 rfl dX5_mendByTwo_28 rfl ?_
      refine w_get C 2 2 (Nat.le_of_ble_eq_true rfl) rfl rfl inB_X0 (by decide) tw1_71 rfl dX5_mendByTwo_31 rfl ?_
      refine bd1_w h (fun u4 hc h => ?_)
      refine w_callVv C (As := [.int (v1.1 2 2)]) (st := []) 67 (Nat.le_of_ble_eq_true rfl) rfl rfl (cfX3_begin D cI ad (l := X.2.1) C.2.2.1 hc) tw5_151 cy_X3_begin (by decide +kernel) ⟨Nat.le_of_ble_eq_true rfl, Nat.le_of_ble_eq_true rfl⟩ (by decide) rfl rfl (Nat.le_of_ble_eq_true rfl) dX5_mendByTwo_34 rfl ?_
      refine w_aload_n C dX5_mendByTwo_37 rfl 2 rfl ?_
      refine w_get C 72 1 (Nat.le_of_ble_eq_true rfl) rfl rfl inB_X5 (by decide) tw2_75 rfl dX5_mendByTwo_38 rfl ?_
      refine w_iconst C 0 dX5_mendByTwo_41 rfl (by decide) ?_
      refine w_iload_n C dX5_mendByTwo_42 rfl 0 rfl ?_
      refine bd2_w h (fun r5 u6 hc h => ?_)
      refine w_callVi C (As := [.int 0, .int v1.2.1]) (st := []) 66 (Nat.le_of_ble_eq_true rfl) rfl rfl (cfX2_walk D cI ad (l := X.2.1) C.2.2.1 hc) tw5_152 cy_X2_walk (by decide +kernel) ⟨Nat.le_of_ble_eq_true rfl, Nat.le_of_ble_eq_true rfl⟩ (by decide) rfl rfl (Nat.le_of_ble_eq_true rfl) dX5_mendByTwo_43 rfl ?_
      refine w_iconst C (-1) dX5_mendByTwo_46 rfl (by decide) ?_
      refine w_icmp_eq C (qt := 52) dX5_mendByTwo_47 (by decide) rfl h (fun _ h => ?_) (fun _ h => ?_)
      · refine w_aload_n C dX5_mendByTwo_52 rfl 2 rfl ?_
        refine w_get C 72 2 (Nat.le_of_ble_eq_true rfl) rfl rfl inB_X5 (by decide) tw2_76 rfl dX5_mendByTwo_53 rfl ?_
        refine w_aload_n C dX5_mendByTwo_56 rfl 2 rfl ?_
        refine w_get C 72 1 (Nat.le_of_ble_eq_true rfl) rfl rfl inB_X5 (by decide) tw2_75 rfl dX5_mendByTwo_57 rfl ?_
        refine w_get C 66 1 (Nat.le_of_ble_eq_true rfl) rfl rfl inB_X2 (by decide) tw2_41 rfl dX5_mendByTwo_60 rfl ?_
        refine bd1_w h (fun u7 hc h => ?_)
        refine w_callVv C (As := [.ref (ad 67)]) (st := []) 73 (Nat.le_of_ble_eq_true rfl) rfl rfl (cfX3_become D cI ad (l := X.2.1) C.2.2.1 hc) tw5_153 cy_X3_become (by decide +kernel) ⟨Nat.le_of_ble_eq_true rfl, Nat.le_of_ble_eq_true rfl⟩ (by decide) rfl rfl (Nat.le_of_ble_eq_true rfl) dX5_mendByTwo_63 rfl ?_
        refine w_iload_n C dX5_mendByTwo_66 rfl 0 rfl ?_
        refine w_iconst C 1 dX5_mendByTwo_67 rfl (by decide) ?_
        refine w_iadd C dX5_mendByTwo_68 rfl ?_
        refine w_nm h (fun x8 h => ?_)
        refine w_istore_n C [(3, .int x8), (2, .int v1.2.1), (1, .int v1.2.2), (0, .ref (ad 72))] dX5_mendByTwo_69 rfl (by decide) rfl ?_
        refine w_sub [0, 1, 2, 3] rfl ?_
        refine lp_w (fun v9 : St × Int32 × Int32 => WP X (gC D cI ad) 4 0 70 v9.1 [(3, .int v9.2.1), (2, .int v1.2.1), (1, .int v9.2.2), (0, .ref (ad 72))] []) (fun K10 hK11 v9 h => ?_) F _ h
        refine w_iload_n C dX5_mendByTwo_70 rfl 0 rfl ?_
        refine w_aload_n C dX5_mendByTwo_71 rfl 3 rfl ?_
        refine w_get C 72 1 (Nat.le_of_ble_eq_true rfl) rfl rfl inB_X5 (by decide) tw2_75 rfl dX5_mendByTwo_72 rfl ?_
        refine w_get C 66 4 (Nat.le_of_ble_eq_true rfl) rfl rfl inB_X2 (by decide) tw2_48 rfl dX5_mendByTwo_75 rfl ?_
        refine w_icmp_ge C (qt := 115) dX5_mendByTwo_78 (by decide) rfl h (fun _ h => ?_) (fun _ h => ?_)
        · refine w_iinc (j := 1) C (v1.2.1 + 1) [(2, .int (v1.2.1 + 1)), (3, .int v9.2.1), (1, .int v9.2.2), (0, .ref (ad 72))] dX5_mendByTwo_115 rfl rfl rfl (by decide) rfl ?_
          refine w_goto (q := 4) C dX5_mendByTwo_118 (by decide) ?_
          exact w_sub [0, 2, 3] rfl (hK3 _ h)
        · refine w_iload_n C dX5_mendByTwo_81 rfl 2 rfl ?_
          refine w_iconst C (-1) dX5_mendByTwo_82 rfl (by decide) ?_
          refine w_icmp_ne C (qt := 115) dX5_mendByTwo_83 (by decide) rfl h (fun _ h => ?_) (fun _ h => ?_)
          · refine w_iinc (j := 1) C (v1.2.1 + 1) [(2, .int (v1.2.1 + 1)), (3, .int v9.2.1), (1, .int v9.2.2), (0, .ref (ad 72))] dX5_mendByTwo_115 rfl rfl rfl (by decide) rfl ?_
            refine w_goto (q := 4) C dX5_mendByTwo_118 (by decide) ?_
            exact w_sub [0, 2, 3] rfl (hK3 _ h)
          · refine w_aload_n C dX5_mendByTwo_86 rfl 3 rfl ?_
            refine w_iload_n C dX5_mendByTwo_87 rfl 1 rfl ?_
            refine bd1_w h (fun r12 hc h => ?_)
            refine w_callVi C (As := [.int v1.2.1]) (st := []) 72 (Nat.le_of_ble_eq_true rfl) rfl rfl (cfX5_changes D cI ad (l := X.2.1) C.2.2.1 hc) tw5_137 cy_X5_changes (by decide +kernel) ⟨Nat.le_of_ble_eq_true rfl, Nat.le_of_ble_eq_true rfl⟩ (by decide) rfl rfl (Nat.le_of_ble_eq_true rfl) dX5_mendByTwo_88 rfl ?_
            refine w_if_eq C (qt := 109) dX5_mendByTwo_91 (by decide) rfl h (fun _ h => ?_) (fun _ h => ?_)
            · refine w_iinc (j := 0) C (v9.2.1 + 1) [(3, .int (v9.2.1 + 1)), (2, .int v1.2.1), (1, .int v9.2.2), (0, .ref (ad 72))] dX5_mendByTwo_109 rfl rfl rfl (by decide) rfl ?_
              refine w_goto (q := 70) C dX5_mendByTwo_112 (by decide) ?_
              exact w_sub [0, 1, 2, 3] rfl (hK11 _ h)
            · refine w_aload_n C dX5_mendByTwo_94 rfl 3 rfl ?_
              refine w_iload_n C dX5_mendByTwo_95 rfl 0 rfl ?_
              refine bd1_w h (fun r13 hc h => ?_)
              refine w_callVi C (As := [.int v9.2.1]) (st := []) 72 (Nat.le_of_ble_eq_true rfl) rfl rfl (cfX5_changes D cI ad (l := X.2.1) C.2.2.1 hc) tw5_137 cy_X5_changes (by decide +kernel) ⟨Nat.le_of_ble_eq_true rfl, Nat.le_of_ble_eq_true rfl⟩ (by decide) rfl rfl (Nat.le_of_ble_eq_true rfl) dX5_mendByTwo_96 rfl ?_
              refine w_if_eq C (qt := 109) dX5_mendByTwo_99 (by decide) rfl h (fun _ h => ?_) (fun _ h => ?_)
              · refine w_iinc (j := 0) C (v9.2.1 + 1) [(3, .int (v9.2.1 + 1)), (2, .int v1.2.1), (1, .int v9.2.2), (0, .ref (ad 72))] dX5_mendByTwo_109 rfl rfl rfl (by decide) rfl ?_
                refine w_goto (q := 70) C dX5_mendByTwo_112 (by decide) ?_
                exact w_sub [0, 1, 2, 3] rfl (hK11 _ h)
              · refine w_aload_n C dX5_mendByTwo_102 rfl 3 rfl ?_
                refine w_iload_n C dX5_mendByTwo_103 rfl 1 rfl ?_
                refine w_iload_n C dX5_mendByTwo_104 rfl 0 rfl ?_
                refine bd2_w h (fun r14 u15 hc h => ?_)
                refine w_callVi C (As := [.int v1.2.1, .int v9.2.1]) (st := []) 72 (Nat.le_of_ble_eq_true rfl) rfl rfl (cfX5_firstFacingCouple D cI ad (l := X.2.1) C.2.2.1 hc) tw5_157 cy_X5_firstFacingCouple (by decide +kernel) ⟨Nat.le_of_ble_eq_true rfl, Nat.le_of_ble_eq_true rfl⟩ (by decide) rfl rfl (Nat.le_of_ble_eq_true rfl) dX5_mendByTwo_105 rfl ?_
                refine w_istore_n C [(1, .int r14), (3, .int v9.2.1), (2, .int v1.2.1), (0, .ref (ad 72))] dX5_mendByTwo_108 rfl (by decide) rfl ?_
                refine w_iinc (j := 1) C (v9.2.1 + 1) [(3, .int (v9.2.1 + 1)), (1, .int r14), (2, .int v1.2.1), (0, .ref (ad 72))] dX5_mendByTwo_109 rfl rfl rfl (by decide) rfl ?_
                refine w_goto (q := 70) C dX5_mendByTwo_112 (by decide) ?_
                exact w_sub [0, 2, 1, 3] rfl (hK11 _ h)
      · refine w_iconst C (-1) dX5_mendByTwo_50 rfl (by decide) ?_
        exact w_ri2 hr h (by decide) dX5_mendByTwo_51
theorem cfX5_mendByTwo (D : va_G) (cI : ClassId) (ad : Nat → Nat) {l : Launch} (had : gAp (gC D cI ad)) {F : Nat} {σ : St}  {r : Int32} {σ' : St} (h : fX5_mendByTwo F σ = some (r, σ')) : MI l yX5_mendByTwo (wB yX5_mendByTwo cX5_mendByTwo 4 (some .int)) 5 128 (gC D cI ad) [.ref (ad 72)] σ r σ' := mk_MI had (by decide +kernel) (Nat.le_of_ble_eq_true rfl) (fun X hX C hr => wfX5_mendByTwo C hr h)

def fX10_mend (F : Nat) (σ : St) (a0 : Int32) (a1 : Int32) : Option (Nat × Int32 × St) := bd1 (fX10_checkDance F σ a0) fun t1 => if t1 = 0 then (bd1 (fX10_checkBelow F σ a1 2) fun t2 => if t2 = 0 then (bd1 (fX2_prepare F σ a0 0) fun u3 => bd2 (fX2_endsFacing F u3) fun r4 u5 => if r4 = 0 then (bd2 (fX5_mendByOne F u5) fun r6 u7 => if r6 = ((-1)) then (bd2 (fX5_mendByTwo F u7) fun r8 u9 => if a1 = 0 then (if r8 = ((-1)) then (some (0, r8, u9)) else some (0, 2, u9)) else some (0, r8, u9)) else if a1 = 0 then (some (0, 1, u7)) else some (0, r6, u7)) else if a1 = 0 then (some (0, 0, u5)) else some (0, (-1), u5)) else some (t2, 0, σ)) else some (t1, 0, σ)
set_option maxRecDepth 20000 in
theorem wfX10_mend {X : XT} {D : va_G} {cI : ClassId} {ad : Nat → Nat} {F : Nat} {σ : St} {a0 : Int32} {a1 : Int32} {res : Nat × Int32 × St} (C : Cx X (gC D cI ad) cX10_mend 5 RX10 8 151 2) (hr : RetXi X (gC D cI ad) cX10_mend 5 2 res) (hx : ThrX X (gC D cI ad) cX10_mend 5 2 res) (h : fX10_mend F σ a0 a1 = some res) : WP X (gC D cI ad) 5 0 0 σ [(0, .ref (ad 0)), (1, .int a0), (2, .int a1)] [] := by
  unfold fX10_mend at h
  refine w_aload_n C dX10_mend_0 rfl 0 rfl ?_
  refine w_iload_n C dX10_mend_1 rfl 1 rfl ?_
  refine bd1_w h (fun t1 hc h => ?_)
  refine w_callX C hx (As := [.int a0]) (st := []) 0 (by decide) rfl rfl (cfX10_checkDance D cI ad (l := X.2.1) C.2.2.1 hc) tw5_12 cy_X10_checkDance (by decide +kernel) ⟨by decide, by decide⟩ (by decide) rfl rfl (by decide) dX10_mend_2 rfl h (fun h => ?_)
  refine w_aload_n C dX10_mend_5 rfl 0 rfl ?_
  refine w_iload_n C dX10_mend_6 rfl 2 rfl ?_
  refine w_iconst C 2 dX10_mend_7 rfl (by decide) ?_
  refine bd1_w h (fun t2 hc h => ?_)
  refine w_callX C hx (As := [.int a1, .int 2]) (st := []) 0 (by decide) rfl rfl (cfX10_checkBelow D cI ad (l := X.2.1) C.2.2.1 hc) tw5_51 cy_X10_checkBelow (by decide +kernel) ⟨by decide, by decide⟩ (by decide) rfl rfl (by decide) dX10_mend_8 rfl h (fun h => ?_)
  refine w_aload_n C dX10_mend_11 rfl 0 rfl ?_
  refine w_get C 0 10 (Nat.le_of_ble_eq_true rfl) rfl rfl inB_X10 (by decide) tw2_182 rfl dX10_mend_12 rfl ?_
  refine w_aload_n C dX10_mend_15 rfl 0 rfl ?_
  refine w_get C 0 7 (Nat.le_of_ble_eq_true rfl) rfl rfl inB_X10 (by decide) tw2_179 rfl dX10_mend_16 rfl ?_
  refine w_iload_n C dX10_mend_19 rfl 1 rfl ?_
  refine w_iconst C 0 dX10_mend_20 rfl (by decide) ?_
  refine bd1_w h (fun u3 hc h => ?_)
  refine w_callVv C (As := [.ref (ad 30), .int a0, .int 0]) (st := []) 66 (Nat.le_of_ble_eq_true rfl) rfl rfl (cfX2_prepare D cI ad (l := X.2.1) C.2.2.1 hc) tw5_23 cy_X2_prepare (by decide +kernel) ⟨Nat.le_of_ble_eq_true rfl, Nat.le_of_ble_eq_true rfl⟩ (by decide) rfl rfl (Nat.le_of_ble_eq_true rfl) dX10_mend_21 rfl ?_
  refine w_aload_n C dX10_mend_24 rfl 0 rfl ?_
  refine w_get C 0 10 (Nat.le_of_ble_eq_true rfl) rfl rfl inB_X10 (by decide) tw2_182 rfl dX10_mend_25 rfl ?_
  refine bd2_w h (fun r4 u5 hc h => ?_)
  refine w_callVi C (As := []) (st := []) 66 (Nat.le_of_ble_eq_true rfl) rfl rfl (cfX2_endsFacing D cI ad (l := X.2.1) C.2.2.1 hc) tw5_24 cy_X2_endsFacing (by decide +kernel) ⟨Nat.le_of_ble_eq_true rfl, Nat.le_of_ble_eq_true rfl⟩ (by decide) rfl rfl (Nat.le_of_ble_eq_true rfl) dX10_mend_28 rfl ?_
  refine w_if_eq C (qt := 44) dX10_mend_31 (by decide) rfl h (fun _ h => ?_) (fun _ h => ?_)
  · refine w_aload_n C dX10_mend_44 rfl 0 rfl ?_
    refine w_get C 0 11 (Nat.le_of_ble_eq_true rfl) rfl rfl inB_X10 (by decide) tw2_183 rfl dX10_mend_45 rfl ?_
    refine bd2_w h (fun r6 u7 hc h => ?_)
    refine w_callVi C (As := []) (st := []) 72 (Nat.le_of_ble_eq_true rfl) rfl rfl (cfX5_mendByOne D cI ad (l := X.2.1) C.2.2.1 hc) tw5_133 cy_X5_mendByOne (by decide +kernel) ⟨Nat.le_of_ble_eq_true rfl, Nat.le_of_ble_eq_true rfl⟩ (by decide) rfl rfl (Nat.le_of_ble_eq_true rfl) dX10_mend_48 rfl ?_
    refine w_istore_n C [(3, .int r6), (0, .ref (ad 0)), (1, .int a0), (2, .int a1)] dX10_mend_51 rfl (by decide) rfl ?_
    refine w_iload_n C dX10_mend_52 rfl 0 rfl ?_
    refine w_iconst C (-1) dX10_mend_53 rfl (by decide) ?_
    refine w_icmp_eq C (qt := 67) dX10_mend_54 (by decide) rfl h (fun _ h => ?_) (fun _ h => ?_)
    · refine w_aload_n C dX10_mend_67 rfl 1 rfl ?_
      refine w_get C 0 11 (Nat.le_of_ble_eq_true rfl) rfl rfl inB_X10 (by decide) tw2_183 rfl dX10_mend_68 rfl ?_
      refine bd2_w h (fun r8 u9 hc h => ?_)
      refine w_callVi C (As := []) (st := []) 72 (Nat.le_of_ble_eq_true rfl) rfl rfl (cfX5_mendByTwo D cI ad (l := X.2.1) C.2.2.1 hc) tw5_147 cy_X5_mendByTwo (by decide +kernel) ⟨Nat.le_of_ble_eq_true rfl, Nat.le_of_ble_eq_true rfl⟩ (by decide) rfl rfl (Nat.le_of_ble_eq_true rfl) dX10_mend_71 rfl ?_
      refine w_istore C [(4, .int r8), (3, .int r6), (0, .ref (ad 0)), (1, .int a0), (2, .int a1)] dX10_mend_74 rfl (by decide) rfl ?_
      refine w_iload_n C dX10_mend_76 rfl 4 rfl ?_
      refine w_if_ne C (qt := 90) dX10_mend_77 (by decide) rfl h (fun _ h => ?_) (fun _ h => ?_)
      · refine w_iload C dX10_mend_90 rfl 0 rfl ?_
        exact w_rxi hr h (by decide) dX10_mend_92
      · refine w_iload C dX10_mend_80 rfl 0 rfl ?_
        refine w_iconst C (-1) dX10_mend_82 rfl (by decide) ?_
        refine w_icmp_eq C (qt := 90) dX10_mend_83 (by decide) rfl h (fun _ h => ?_) (fun _ h => ?_)
        · refine w_iload C dX10_mend_90 rfl 0 rfl ?_
          exact w_rxi hr h (by decide) dX10_mend_92
        · refine w_iconst C 2 dX10_mend_86 rfl (by decide) ?_
          refine w_goto (q := 92) C dX10_mend_87 (by decide) ?_
          exact w_rxi hr h (by decide) dX10_mend_92
    · refine w_iload_n C dX10_mend_57 rfl 3 rfl ?_
      refine w_if_ne C (qt := 65) dX10_mend_58 (by decide) rfl h (fun _ h => ?_) (fun _ h => ?_)
      · refine w_iload_n C dX10_mend_65 rfl 0 rfl ?_
        exact w_rxi hr h (by decide) dX10_mend_66
      · refine w_iconst C 1 dX10_mend_61 rfl (by decide) ?_
        refine w_goto (q := 66) C dX10_mend_62 (by decide) ?_
        exact w_rxi hr h (by decide) dX10_mend_66
  · refine w_iload_n C dX10_mend_34 rfl 2 rfl ?_
    refine w_if_ne C (qt := 42) dX10_mend_35 (by decide) rfl h (fun _ h => ?_) (fun _ h => ?_)
    · refine w_iconst C (-1) dX10_mend_42 rfl (by decide) ?_
      exact w_rxi hr h (by decide) dX10_mend_43
    · refine w_iconst C 0 dX10_mend_38 rfl (by decide) ?_
      refine w_goto (q := 43) C dX10_mend_39 (by decide) ?_
      exact w_rxi hr h (by decide) dX10_mend_43
theorem cfX10_mend (D : va_G) (cI : ClassId) (ad : Nat → Nat) {l : Launch} (had : gAp (gC D cI ad)) {F : Nat} {σ : St} {a0 : Int32} {a1 : Int32} {res : Nat × Int32 × St} (h : fX10_mend F σ a0 a1 = some res) : MX l yX10_mend (wB yX10_mend cX10_mend 5 (some .int)) 8 151 2 (gC D cI ad) [.ref (ad 0), .int a0, .int a1] σ res := mk_MX had (by decide +kernel) (Nat.le_of_ble_eq_true rfl) (fun X hX C hr hx => wfX10_mend C hr hx h)

def fX5_firstCost (F : Nat) (σ : St) (a0 : Int32) : Option (Int32 × St) := ckI (a0) 10 (nm (σ 71 (Int32.toNatClampNeg a0)) fun x1 => nm (x1 - 1) fun x2 => lp (fun (K4 : (St × Int32 × Int32) → Option (Int32 × St)) (v3 : St × Int32 × Int32) => jn (fun v6 : Unit => ckI (a0) 10 (nm (up v3.1 71 (Int32.toNatClampNeg a0) x1) fun u9 => some (v3.2.2, u9))) fun J7 => if (x1 + 1) < v3.2.1 then (J7 (())) else if v3.2.2 = ((-1)) then (ckI (a0) 10 (nm (up v3.1 71 (Int32.toNatClampNeg a0) v3.2.1) fun u10 => if v3.2.1 < 0 then (K4 ((u10, v3.2.1 + 2, v3.2.2))) else if 9 < v3.2.1 then (K4 ((u10, v3.2.1 + 2, v3.2.2))) else bd2 (fX2_endsFacing F u10) fun r11 u12 => if r11 = 0 then (nm ((10 * a0) + v3.2.1) fun x13 => K4 ((u12, v3.2.1 + 2, x13))) else K4 ((u12, v3.2.1 + 2, v3.2.2)))) else J7 (())) F ((σ, x2, (-1))))
set_option maxRecDepth 20000 in
theorem wfX5_firstCost {X : XT} {D : va_G} {cI : ClassId} {ad : Nat → Nat} {F : Nat} {σ : St} {a0 : Int32} {r : Int32} {σ' : St} (C : Cx X (gC D cI ad) cX5_firstCost 5 RX5 4 98 0) (hr : RetI X (gC D cI ad) cX5_firstCost 5 0 r σ') (h : fX5_firstCost F σ a0 = some (r, σ')) : WP X (gC D cI ad) 5 0 0 σ [(0, .ref (ad 72)), (1, .int a0)] [] := by
  unfold fX5_firstCost at h
  refine w_aload_n C dX5_firstCost_0 rfl 0 rfl ?_
  refine w_get C 72 1 (Nat.le_of_ble_eq_true rfl) rfl rfl inB_X5 (by decide) tw2_75 rfl dX5_firstCost_1 rfl ?_
  refine w_get C 66 2 (Nat.le_of_ble_eq_true rfl) rfl rfl inB_X2 (by decide) tw2_44 rfl dX5_firstCost_4 rfl ?_
  refine w_iload_n C dX5_firstCost_7 rfl 1 rfl ?_
  refine w_iald C 71 10 0 (Nat.le_of_ble_eq_true rfl) (fun _ => rfl) rfl h dX5_firstCost_8 rfl (fun h => ?_)
  refine w_nm h (fun x1 h => ?_)
  refine w_istore_n C [(2, .int x1), (0, .ref (ad 72)), (1, .int a0)] dX5_firstCost_9 rfl (by decide) rfl ?_
  refine w_iconst C (-1) dX5_firstCost_10 rfl (by decide) ?_
  refine w_istore_n C [(3, .int ((-1))), (2, .int x1), (0, .ref (ad 72)), (1, .int a0)] dX5_firstCost_11 rfl (by decide) rfl ?_
  refine w_iload_n C dX5_firstCost_12 rfl 1 rfl ?_
  refine w_iconst C 1 dX5_firstCost_13 rfl (by decide) ?_
  refine w_isub C dX5_firstCost_14 rfl ?_
  refine w_nm h (fun x2 h => ?_)
  refine w_istore C [(4, .int x2), (3, .int ((-1))), (2, .int x1), (0, .ref (ad 72)), (1, .int a0)] dX5_firstCost_15 rfl (by decide) rfl ?_
  refine w_sub [0, 1, 2, 3, 4] rfl ?_
  refine lp_w (fun v3 : St × Int32 × Int32 => WP X (gC D cI ad) 5 0 17 v3.1 [(4, .int v3.2.1), (3, .int v3.2.2), (2, .int x1), (0, .ref (ad 72)), (1, .int a0)] []) (fun K4 hK5 v3 h => ?_) F _ h
  refine w_iload C dX5_firstCost_17 rfl 0 rfl ?_
  refine w_iload_n C dX5_firstCost_19 rfl 2 rfl ?_
  refine w_iconst C 1 dX5_firstCost_20 rfl (by decide) ?_
  refine w_iadd C dX5_firstCost_21 rfl ?_
  refine jn_w (fun v6 : Unit => WP X (gC D cI ad) 5 0 77 v3.1 [(3, .int v3.2.2), (2, .int x1), (0, .ref (ad 72)), (1, .int a0)] []) h (fun v6 h => ?_) (fun J7 hJ8 h => ?_)
  · refine w_aload_n C dX5_firstCost_77 rfl 2 rfl ?_
    refine w_get C 72 1 (Nat.le_of_ble_eq_true rfl) rfl rfl inB_X5 (by decide) tw2_75 rfl dX5_firstCost_78 rfl ?_
    refine w_get C 66 2 (Nat.le_of_ble_eq_true rfl) rfl rfl inB_X2 (by decide) tw2_44 rfl dX5_firstCost_81 rfl ?_
    refine w_iload_n C dX5_firstCost_84 rfl 3 rfl ?_
    refine w_iload_n C dX5_firstCost_85 rfl 1 rfl ?_
    refine w_iast C 71 10 0 (Nat.le_of_ble_eq_true rfl) (fun _ => rfl) rfl h dX5_firstCost_86 rfl (fun h => ?_)
    refine w_nst h (fun u9 h => ?_)
    refine w_iload_n C dX5_firstCost_87 rfl 0 rfl ?_
    exact w_ri2 hr h (by decide) dX5_firstCost_88
  · refine w_icmp_gt C (qt := 77) dX5_firstCost_22 (by decide) rfl h (fun _ h => ?_) (fun _ h => ?_)
    · exact w_sub [1, 2, 3, 4] rfl (hJ8 _ h)
    · refine w_iload_n C dX5_firstCost_25 rfl 1 rfl ?_
      refine w_iconst C (-1) dX5_firstCost_26 rfl (by decide) ?_
      refine w_icmp_ne C (qt := 77) dX5_firstCost_27 (by decide) rfl h (fun _ h => ?_) (fun _ h => ?_)
      · exact w_sub [1, 2, 3, 4] rfl (hJ8 _ h)
      · refine w_aload_n C dX5_firstCost_30 rfl 3 rfl ?_
        refine w_get C 72 1 (Nat.le_of_ble_eq_true rfl) rfl rfl inB_X5 (by decide) tw2_75 rfl dX5_firstCost_31 rfl ?_
        refine w_get C 66 2 (Nat.le_of_ble_eq_true rfl) rfl rfl inB_X2 (by decide) tw2_44 rfl dX5_firstCost_34 rfl ?_
        refine w_iload_n C dX5_firstCost_37 rfl 4 rfl ?_
        refine w_iload C dX5_firstCost_38 rfl 0 rfl ?_
        refine w_iast C 71 10 0 (Nat.le_of_ble_eq_true rfl) (fun _ => rfl) rfl h dX5_firstCost_40 rfl (fun h => ?_)
        refine w_nst h (fun u10 h => ?_)
        refine w_iload C dX5_firstCost_41 rfl 0 rfl ?_
        refine w_if_lt C (qt := 71) dX5_firstCost_43 (by decide) rfl h (fun _ h => ?_) (fun _ h => ?_)
        · refine w_iinc (j := 0) C (v3.2.1 + 2) [(4, .int (v3.2.1 + 2)), (3, .int v3.2.2), (2, .int x1), (0, .ref (ad 72)), (1, .int a0)] dX5_firstCost_71 rfl rfl rfl (by decide) rfl ?_
          refine w_goto (q := 17) C dX5_firstCost_74 (by decide) ?_
          exact w_sub [0, 1, 2, 3, 4] rfl (hK5 _ h)
        · refine w_iload C dX5_firstCost_46 rfl 0 rfl ?_
          refine w_bipush C 9 dX5_firstCost_48 rfl (by decide) ?_
          refine w_icmp_gt C (qt := 71) dX5_firstCost_50 (by decide) rfl h (fun _ h => ?_) (fun _ h => ?_)
          · refine w_iinc (j := 0) C (v3.2.1 + 2) [(4, .int (v3.2.1 + 2)), (3, .int v3.2.2), (2, .int x1), (0, .ref (ad 72)), (1, .int a0)] dX5_firstCost_71 rfl rfl rfl (by decide) rfl ?_
            refine w_goto (q := 17) C dX5_firstCost_74 (by decide) ?_
            exact w_sub [0, 1, 2, 3, 4] rfl (hK5 _ h)
          · refine w_aload_n C dX5_firstCost_53 rfl 3 rfl ?_
            refine w_get C 72 1 (Nat.le_of_ble_eq_true rfl) rfl rfl inB_X5 (by decide) tw2_75 rfl dX5_firstCost_54 rfl ?_
            refine bd2_w h (fun r11 u12 hc h => ?_)
            refine w_callVi C (As := []) (st := []) 66 (Nat.le_of_ble_eq_true rfl) rfl rfl (cfX2_endsFacing D cI ad (l := X.2.1) C.2.2.1 hc) tw5_146 cy_X2_endsFacing (by decide +kernel) ⟨Nat.le_of_ble_eq_true rfl, Nat.le_of_ble_eq_true rfl⟩ (by decide) rfl rfl (Nat.le_of_ble_eq_true rfl) dX5_firstCost_57 rfl ?_
            refine w_if_ne C (qt := 71) dX5_firstCost_60 (by decide) rfl h (fun _ h => ?_) (fun _ h => ?_)
            · refine w_iinc (j := 0) C (v3.2.1 + 2) [(4, .int (v3.2.1 + 2)), (3, .int v3.2.2), (2, .int x1), (0, .ref (ad 72)), (1, .int a0)] dX5_firstCost_71 rfl rfl rfl (by decide) rfl ?_
              refine w_goto (q := 17) C dX5_firstCost_74 (by decide) ?_
              exact w_sub [0, 1, 2, 3, 4] rfl (hK5 _ h)
            · refine w_bipush C 10 dX5_firstCost_63 rfl (by decide) ?_
              refine w_iload_n C dX5_firstCost_65 rfl 4 rfl ?_
              refine w_imul C dX5_firstCost_66 rfl ?_
              refine w_iload C dX5_firstCost_67 rfl 0 rfl ?_
              refine w_iadd C dX5_firstCost_69 rfl ?_
              refine w_nm h (fun x13 h => ?_)
              refine w_istore_n C [(3, .int x13), (4, .int v3.2.1), (2, .int x1), (0, .ref (ad 72)), (1, .int a0)] dX5_firstCost_70 rfl (by decide) rfl ?_
              refine w_iinc (j := 1) C (v3.2.1 + 2) [(4, .int (v3.2.1 + 2)), (3, .int x13), (2, .int x1), (0, .ref (ad 72)), (1, .int a0)] dX5_firstCost_71 rfl rfl rfl (by decide) rfl ?_
              refine w_goto (q := 17) C dX5_firstCost_74 (by decide) ?_
              exact w_sub [0, 1, 2, 3, 4] rfl (hK5 _ h)
theorem cfX5_firstCost (D : va_G) (cI : ClassId) (ad : Nat → Nat) {l : Launch} (had : gAp (gC D cI ad)) {F : Nat} {σ : St} {a0 : Int32} {r : Int32} {σ' : St} (h : fX5_firstCost F σ a0 = some (r, σ')) : MI l yX5_firstCost (wB yX5_firstCost cX5_firstCost 5 (some .int)) 4 98 (gC D cI ad) [.ref (ad 72), .int a0] σ r σ' := mk_MI had (by decide +kernel) (Nat.le_of_ble_eq_true rfl) (fun X hX C hr => wfX5_firstCost C hr h)

def fX5_costliest (F : Nat) (σ : St) : Option (Int32 × St) := lp (fun (K2 : (St × Int32 × Int32) → Option (Int32 × St)) (v1 : St × Int32 × Int32) => if (v1.1 66 4) ≤ v1.2.1 then (some (v1.2.2, v1.1)) else if v1.2.2 = ((-1)) then (bd1 (fX5_changes F v1.1 v1.2.1) fun r4 => if r4 = 0 then (K2 ((v1.1, v1.2.1 + 1, v1.2.2))) else bd2 (fX5_firstCost F v1.1 v1.2.1) fun r5 u6 => K2 ((u6, v1.2.1 + 1, r5))) else some (v1.2.2, v1.1)) F ((σ, 0, (-1)))
set_option maxRecDepth 20000 in
theorem wfX5_costliest {X : XT} {D : va_G} {cI : ClassId} {ad : Nat → Nat} {F : Nat} {σ : St}  {r : Int32} {σ' : St} (C : Cx X (gC D cI ad) cX5_costliest 3 RX5 5 122 0) (hr : RetI X (gC D cI ad) cX5_costliest 3 0 r σ') (h : fX5_costliest F σ = some (r, σ')) : WP X (gC D cI ad) 3 0 0 σ [(0, .ref (ad 72))] [] := by
  unfold fX5_costliest at h
  refine w_iconst C (-1) dX5_costliest_0 rfl (by decide) ?_
  refine w_istore_n C [(1, .int ((-1))), (0, .ref (ad 72))] dX5_costliest_1 rfl (by decide) rfl ?_
  refine w_iconst C 0 dX5_costliest_2 rfl (by decide) ?_
  refine w_istore_n C [(2, .int 0), (1, .int ((-1))), (0, .ref (ad 72))] dX5_costliest_3 rfl (by decide) rfl ?_
  refine w_sub [0, 1, 2] rfl ?_
  refine lp_w (fun v1 : St × Int32 × Int32 => WP X (gC D cI ad) 3 0 4 v1.1 [(2, .int v1.2.1), (1, .int v1.2.2), (0, .ref (ad 72))] []) (fun K2 hK3 v1 h => ?_) F _ h
  refine w_iload_n C dX5_costliest_4 rfl 0 rfl ?_
  refine w_aload_n C dX5_costliest_5 rfl 2 rfl ?_
  refine w_get C 72 1 (Nat.le_of_ble_eq_true rfl) rfl rfl inB_X5 (by decide) tw2_75 rfl dX5_costliest_6 rfl ?_
  refine w_get C 66 4 (Nat.le_of_ble_eq_true rfl) rfl rfl inB_X2 (by decide) tw2_48 rfl dX5_costliest_9 rfl ?_
  refine w_icmp_ge C (qt := 40) dX5_costliest_12 (by decide) rfl h (fun _ h => ?_) (fun _ h => ?_)
  · refine w_iload_n C dX5_costliest_40 rfl 1 rfl ?_
    exact w_ri2 hr h (by decide) dX5_costliest_41
  · refine w_iload_n C dX5_costliest_15 rfl 1 rfl ?_
    refine w_iconst C (-1) dX5_costliest_16 rfl (by decide) ?_
    refine w_icmp_ne C (qt := 40) dX5_costliest_17 (by decide) rfl h (fun _ h => ?_) (fun _ h => ?_)
    · refine w_iload_n C dX5_costliest_40 rfl 1 rfl ?_
      exact w_ri2 hr h (by decide) dX5_costliest_41
    · refine w_aload_n C dX5_costliest_20 rfl 2 rfl ?_
      refine w_iload_n C dX5_costliest_21 rfl 0 rfl ?_
      refine bd1_w h (fun r4 hc h => ?_)
      refine w_callVi C (As := [.int v1.2.1]) (st := []) 72 (Nat.le_of_ble_eq_true rfl) rfl rfl (cfX5_changes D cI ad (l := X.2.1) C.2.2.1 hc) tw5_137 cy_X5_changes (by decide +kernel) ⟨Nat.le_of_ble_eq_true rfl, Nat.le_of_ble_eq_true rfl⟩ (by decide) rfl rfl (Nat.le_of_ble_eq_true rfl) dX5_costliest_22 rfl ?_
      refine w_if_eq C (qt := 34) dX5_costliest_25 (by decide) rfl h (fun _ h => ?_) (fun _ h => ?_)
      · refine w_iinc (j := 0) C (v1.2.1 + 1) [(2, .int (v1.2.1 + 1)), (1, .int v1.2.2), (0, .ref (ad 72))] dX5_costliest_34 rfl rfl rfl (by decide) rfl ?_
        refine w_goto (q := 4) C dX5_costliest_37 (by decide) ?_
        exact w_sub [0, 1, 2] rfl (hK3 _ h)
      · refine w_aload_n C dX5_costliest_28 rfl 2 rfl ?_
        refine w_iload_n C dX5_costliest_29 rfl 0 rfl ?_
        refine bd2_w h (fun r5 u6 hc h => ?_)
        refine w_callVi C (As := [.int v1.2.1]) (st := []) 72 (Nat.le_of_ble_eq_true rfl) rfl rfl (cfX5_firstCost D cI ad (l := X.2.1) C.2.2.1 hc) tw5_177 cy_X5_firstCost (by decide +kernel) ⟨Nat.le_of_ble_eq_true rfl, Nat.le_of_ble_eq_true rfl⟩ (by decide) rfl rfl (Nat.le_of_ble_eq_true rfl) dX5_costliest_30 rfl ?_
        refine w_istore_n C [(1, .int r5), (2, .int v1.2.1), (0, .ref (ad 72))] dX5_costliest_33 rfl (by decide) rfl ?_
        refine w_iinc (j := 1) C (v1.2.1 + 1) [(2, .int (v1.2.1 + 1)), (1, .int r5), (0, .ref (ad 72))] dX5_costliest_34 rfl rfl rfl (by decide) rfl ?_
        refine w_goto (q := 4) C dX5_costliest_37 (by decide) ?_
        exact w_sub [0, 1, 2] rfl (hK3 _ h)
theorem cfX5_costliest (D : va_G) (cI : ClassId) (ad : Nat → Nat) {l : Launch} (had : gAp (gC D cI ad)) {F : Nat} {σ : St}  {r : Int32} {σ' : St} (h : fX5_costliest F σ = some (r, σ')) : MI l yX5_costliest (wB yX5_costliest cX5_costliest 3 (some .int)) 5 122 (gC D cI ad) [.ref (ad 72)] σ r σ' := mk_MI had (by decide +kernel) (Nat.le_of_ble_eq_true rfl) (fun X hX C hr => wfX5_costliest C hr h)

def fX10_costly (F : Nat) (σ : St) (a0 : Int32) : Option (Nat × Int32 × St) := bd1 (fX10_checkDance F σ a0) fun t1 => if t1 = 0 then (bd2 (fX10_isBinding F σ a0) fun r2 u3 => if r2 = 0 then (some (0, (-1), u3)) else bd2 (fX5_costliest F u3) fun r4 u5 => some (0, r4, u5)) else some (t1, 0, σ)
set_option maxRecDepth 20000 in
theorem wfX10_costly {X : XT} {D : va_G} {cI : ClassId} {ad : Nat → Nat} {F : Nat} {σ : St} {a0 : Int32} {res : Nat × Int32 × St} (C : Cx X (gC D cI ad) cX10_costly 2 RX10 8 144 1) (hr : RetXi X (gC D cI ad) cX10_costly 2 1 res) (hx : ThrX X (gC D cI ad) cX10_costly 2 1 res) (h : fX10_costly F σ a0 = some res) : WP X (gC D cI ad) 2 0 0 σ [(0, .ref (ad 0)), (1, .int a0)] [] := by
  unfold fX10_costly at h
  refine w_aload_n C dX10_costly_0 rfl 0 rfl ?_
  refine w_iload_n C dX10_costly_1 rfl 1 rfl ?_
  refine bd1_w h (fun t1 hc h => ?_)
  refine w_callX C hx (As := [.int a0]) (st := []) 0 (by decide) rfl rfl (cfX10_checkDance D cI ad (l := X.2.1) C.2.2.1 hc) tw5_12 cy_X10_checkDance (by decide +kernel) ⟨by decide, by decide⟩ (by decide) rfl rfl (by decide) dX10_costly_2 rfl h (fun h => ?_)
  refine w_aload_n C dX10_costly_5 rfl 0 rfl ?_
  refine w_iload_n C dX10_costly_6 rfl 1 rfl ?_
  refine bd2_w h (fun r2 u3 hc h => ?_)
  refine w_callVi C (As := [.int a0]) (st := []) 0 (Nat.le_of_ble_eq_true rfl) rfl rfl (cfX10_isBinding D cI ad (l := X.2.1) C.2.2.1 hc) tw5_19 cy_X10_isBinding (by decide +kernel) ⟨Nat.le_of_ble_eq_true rfl, Nat.le_of_ble_eq_true rfl⟩ (by decide) rfl rfl (Nat.le_of_ble_eq_true rfl) dX10_costly_7 rfl ?_
  refine w_if_ne C (qt := 15) dX10_costly_10 (by decide) rfl h (fun _ h => ?_) (fun _ h => ?_)
  · refine w_aload_n C dX10_costly_15 rfl 0 rfl ?_
    refine w_get C 0 11 (Nat.le_of_ble_eq_true rfl) rfl rfl inB_X10 (by decide) tw2_183 rfl dX10_costly_16 rfl ?_
    refine bd2_w h (fun r4 u5 hc h => ?_)
    refine w_callVi C (As := []) (st := []) 72 (Nat.le_of_ble_eq_true rfl) rfl rfl (cfX5_costliest D cI ad (l := X.2.1) C.2.2.1 hc) tw5_173 cy_X5_costliest (by decide +kernel) ⟨Nat.le_of_ble_eq_true rfl, Nat.le_of_ble_eq_true rfl⟩ (by decide) rfl rfl (Nat.le_of_ble_eq_true rfl) dX10_costly_19 rfl ?_
    exact w_rxi hr h (by decide) dX10_costly_22
  · refine w_iconst C (-1) dX10_costly_13 rfl (by decide) ?_
    exact w_rxi hr h (by decide) dX10_costly_14
theorem cfX10_costly (D : va_G) (cI : ClassId) (ad : Nat → Nat) {l : Launch} (had : gAp (gC D cI ad)) {F : Nat} {σ : St} {a0 : Int32} {res : Nat × Int32 × St} (h : fX10_costly F σ a0 = some res) : MX l yX10_costly (wB yX10_costly cX10_costly 2 (some .int)) 8 144 1 (gC D cI ad) [.ref (ad 0), .int a0] σ res := mk_MX had (by decide +kernel) (Nat.le_of_ble_eq_true rfl) (fun X hX C hr hx => wfX10_costly C hr hx h)

def fJ6_bitCount_0f7a4 (F : Nat) (σ : St) (a0 : Int32) : Option Int32 := nm (a0 - ((ushr a0 1) &&& 1431655765)) fun x1 => nm ((x1 &&& 858993459) + ((ushr x1 2) &&& 858993459)) fun x2 => nm ((x2 + (ushr x2 4)) &&& 252645135) fun x3 => nm (x3 + (ushr x3 8)) fun x4 => nm (x4 + (ushr x4 16)) fun x5 => some (x5 &&& 63)
set_option maxRecDepth 20000 in
theorem wfJ6_bitCount_0f7a4 {X : XT} {D : va_G} {cI : ClassId} {ad : Nat → Nat} {F : Nat} {σ : St} {a0 : Int32} {r : Int32} (C : Cx X (gC D cI ad) cJ6_bitCount_0f7a4 1 RJ6 0 0 0) (hr : RetI X (gC D cI ad) cJ6_bitCount_0f7a4 1 0 r σ) (h : fJ6_bitCount_0f7a4 F σ a0 = some r) : WP X (gC D cI ad) 1 0 0 σ [(0, .int a0)] [] := by
  unfold fJ6_bitCount_0f7a4 at h
  refine w_iload_n C dJ6_bitCount_0f7a4_0 rfl 0 rfl ?_
  refine w_iload_n C dJ6_bitCount_0f7a4_1 rfl 0 rfl ?_
  refine w_iconst C 1 dJ6_bitCount_0f7a4_2 rfl (by decide) ?_
  refine w_iushr C dJ6_bitCount_0f7a4_3 rfl ?_
  refine w_ldcw C 1431655765 dJ6_bitCount_0f7a4_4 rfl tw5_192 ?_
  refine w_iand C dJ6_bitCount_0f7a4_7 rfl ?_
  refine w_isub C dJ6_bitCount_0f7a4_8 rfl ?_
  refine w_nm h (fun x1 h => ?_)
  refine w_istore_n C [(0, .int x1)] dJ6_bitCount_0f7a4_9 rfl (by decide) rfl ?_
  refine w_iload_n C dJ6_bitCount_0f7a4_10 rfl 0 rfl ?_
  refine w_ldcw C 858993459 dJ6_bitCount_0f7a4_11 rfl tw5_193 ?_
  refine w_iand C dJ6_bitCount_0f7a4_14 rfl ?_
  refine w_iload_n C dJ6_bitCount_0f7a4_15 rfl 0 rfl ?_
  refine w_iconst C 2 dJ6_bitCount_0f7a4_16 rfl (by decide) ?_
  refine w_iushr C dJ6_bitCount_0f7a4_17 rfl ?_
  refine w_ldcw C 858993459 dJ6_bitCount_0f7a4_18 rfl tw5_193 ?_
  refine w_iand C dJ6_bitCount_0f7a4_21 rfl ?_
  refine w_iadd C dJ6_bitCount_0f7a4_22 rfl ?_
  refine w_nm h (fun x2 h => ?_)
  refine w_istore_n C [(0, .int x2)] dJ6_bitCount_0f7a4_23 rfl (by decide) rfl ?_
  refine w_iload_n C dJ6_bitCount_0f7a4_24 rfl 0 rfl ?_
  refine w_iload_n C dJ6_bitCount_0f7a4_25 rfl 0 rfl ?_
  refine w_iconst C 4 dJ6_bitCount_0f7a4_26 rfl (by decide) ?_
  refine w_iushr C dJ6_bitCount_0f7a4_27 rfl ?_
  refine w_iadd C dJ6_bitCount_0f7a4_28 rfl ?_
  refine w_ldcw C 252645135 dJ6_bitCount_0f7a4_29 rfl tw5_194 ?_
  refine w_iand C dJ6_bitCount_0f7a4_32 rfl ?_
  refine w_nm h (fun x3 h => ?_)
  refine w_istore_n C [(0, .int x3)] dJ6_bitCount_0f7a4_33 rfl (by decide) rfl ?_
  refine w_iload_n C dJ6_bitCount_0f7a4_34 rfl 0 rfl ?_
  refine w_iload_n C dJ6_bitCount_0f7a4_35 rfl 0 rfl ?_
  refine w_bipush C 8 dJ6_bitCount_0f7a4_36 rfl (by decide) ?_
  refine w_iushr C dJ6_bitCount_0f7a4_38 rfl ?_
  refine w_iadd C dJ6_bitCount_0f7a4_39 rfl ?_
  refine w_nm h (fun x4 h => ?_)
  refine w_istore_n C [(0, .int x4)] dJ6_bitCount_0f7a4_40 rfl (by decide) rfl ?_
  refine w_iload_n C dJ6_bitCount_0f7a4_41 rfl 0 rfl ?_
  refine w_iload_n C dJ6_bitCount_0f7a4_42 rfl 0 rfl ?_
  refine w_bipush C 16 dJ6_bitCount_0f7a4_43 rfl (by decide) ?_
  refine w_iushr C dJ6_bitCount_0f7a4_45 rfl ?_
  refine w_iadd C dJ6_bitCount_0f7a4_46 rfl ?_
  refine w_nm h (fun x5 h => ?_)
  refine w_istore_n C [(0, .int x5)] dJ6_bitCount_0f7a4_47 rfl (by decide) rfl ?_
  refine w_iload_n C dJ6_bitCount_0f7a4_48 rfl 0 rfl ?_
  refine w_bipush C 63 dJ6_bitCount_0f7a4_49 rfl (by decide) ?_
  refine w_iand C dJ6_bitCount_0f7a4_51 rfl ?_
  exact w_ri1 hr h (by decide) dJ6_bitCount_0f7a4_52
theorem cfJ6_bitCount_0f7a4 (D : va_G) (cI : ClassId) (ad : Nat → Nat) {l : Launch} (had : gAp (gC D cI ad)) {F : Nat} {σ : St} {a0 : Int32} {r : Int32} (h : fJ6_bitCount_0f7a4 F σ a0 = some r) : MI l yJ6_bitCount_0f7a4 (wB yJ6_bitCount_0f7a4 cJ6_bitCount_0f7a4 1 (some .int)) 0 0 (gC D cI ad) [.int a0] σ r σ := mk_MI had (by decide +kernel) (Nat.le_of_ble_eq_true rfl) (fun X hX C hr => wfJ6_bitCount_0f7a4 C hr h)

def fX10_later (F : Nat) (σ : St) (a0 : Int32) : Option (Nat × Int32 × St) := jn (fun v1 : Unit => some (2, 0, σ)) fun J2 => if a0 < 0 then (J2 (())) else if a0 ≤ 99 then (bd2 (fX2_bindingBits F σ a0) fun r4 u5 => bd1 (fJ6_bitCount_0f7a4 F u5 r4) fun r6 => some (0, r6, u5)) else J2 (())
set_option maxRecDepth 20000 in
theorem wfX10_later {X : XT} {D : va_G} {cI : ClassId} {ad : Nat → Nat} {F : Nat} {σ : St} {a0 : Int32} {res : Nat × Int32 × St} (C : Cx X (gC D cI ad) cX10_later 2 RX10 7 122 1) (hr : RetXi X (gC D cI ad) cX10_later 2 1 res) (hx : ThrX X (gC D cI ad) cX10_later 2 1 res) (h : fX10_later F σ a0 = some res) : WP X (gC D cI ad) 2 0 0 σ [(0, .ref (ad 0)), (1, .int a0)] [] := by
  unfold fX10_later at h
  refine w_iload_n C dX10_later_0 rfl 1 rfl ?_
  refine jn_w (fun v1 : Unit => WP X (gC D cI ad) 2 0 10 σ [] []) h (fun v1 h => ?_) (fun J2 hJ3 h => ?_)
  · exact w_thrW2 hx (tx := "not 0 to 99 years") 105 (by decide) h (by decide) dX10_later_10 dX10_later_13 dX10_later_14 dX10_later_17 dX10_later_20
  · refine w_if_lt C (qt := 10) dX10_later_1 (by decide) rfl h (fun _ h => ?_) (fun _ h => ?_)
    · exact w_sub [] rfl (hJ3 _ h)
    · refine w_iload_n C dX10_later_4 rfl 1 rfl ?_
      refine w_bipush C 99 dX10_later_5 rfl (by decide) ?_
      refine w_icmp_le C (qt := 21) dX10_later_7 (by decide) rfl h (fun _ h => ?_) (fun _ h => ?_)
      · refine w_aload_n C dX10_later_21 rfl 0 rfl ?_
        refine w_get C 0 10 (Nat.le_of_ble_eq_true rfl) rfl rfl inB_X10 (by decide) tw2_182 rfl dX10_later_22 rfl ?_
        refine w_aload_n C dX10_later_25 rfl 0 rfl ?_
        refine w_get C 0 7 (Nat.le_of_ble_eq_true rfl) rfl rfl inB_X10 (by decide) tw2_179 rfl dX10_later_26 rfl ?_
        refine w_iload_n C dX10_later_29 rfl 1 rfl ?_
        refine bd2_w h (fun r4 u5 hc h => ?_)
        refine w_callVi C (As := [.ref (ad 30), .int a0]) (st := []) 66 (Nat.le_of_ble_eq_true rfl) rfl rfl (cfX2_bindingBits D cI ad (l := X.2.1) C.2.2.1 hc) tw4_88 cy_X2_bindingBits (by decide +kernel) ⟨Nat.le_of_ble_eq_true rfl, Nat.le_of_ble_eq_true rfl⟩ (by decide) rfl rfl (Nat.le_of_ble_eq_true rfl) dX10_later_30 rfl ?_
        refine bd1_w h (fun r6 hc h => ?_)
        refine w_callSi C (As := [.int r4]) (st := []) (cfJ6_bitCount_0f7a4 D cI ad (l := X.2.1) C.2.2.1 hc) tw5_189 cs_J6_bitCount_0f7a4 (by decide +kernel) ⟨Nat.le_of_ble_eq_true rfl, Nat.le_of_ble_eq_true rfl⟩ (by decide) rfl rfl (Nat.le_of_ble_eq_true rfl) dX10_later_33 rfl ?_
        exact w_rxi hr h (by decide) dX10_later_36
      · exact w_sub [] rfl (hJ3 _ h)
theorem cfX10_later (D : va_G) (cI : ClassId) (ad : Nat → Nat) {l : Launch} (had : gAp (gC D cI ad)) {F : Nat} {σ : St} {a0 : Int32} {res : Nat × Int32 × St} (h : fX10_later F σ a0 = some res) : MX l yX10_later (wB yX10_later cX10_later 2 (some .int)) 7 122 1 (gC D cI ad) [.ref (ad 0), .int a0] σ res := mk_MX had (by decide +kernel) (Nat.le_of_ble_eq_true rfl) (fun X hX C hr hx => wfX10_later C hr hx h)

def fX6_changesIn (F : Nat) (σ : St) (a0 : Int32) (a1 : Int32) (a2 : Int32) (a3 : Int32) : Option (Int32 × St) := bd1 (fX6_isBoundBy F σ a0 a1 a2) fun r1 => if r1 = 0 then (some (0, σ)) else bd2 (fX6_limitOf F σ a0 a1 a2 a3) fun r2 u3 => ckI (a0) 8 (bd2 (fX6_limitOf F u3 a0 a1 a2 (u3 6 (Int32.toNatClampNeg a0))) fun r4 u5 => if r2 = r4 then (some (0, u5)) else some (1, u5))
set_option maxRecDepth 20000 in
theorem wfX6_changesIn {X : XT} {D : va_G} {cI : ClassId} {ad : Nat → Nat} {F : Nat} {σ : St} {a0 : Int32} {a1 : Int32} {a2 : Int32} {a3 : Int32} {r : Int32} {σ' : St} (C : Cx X (gC D cI ad) cX6_changesIn 5 RX6 4 93 0) (hr : RetZ X (gC D cI ad) cX6_changesIn 5 0 r σ') (h : fX6_changesIn F σ a0 a1 a2 a3 = some (r, σ')) : WP X (gC D cI ad) 5 0 0 σ [(0, .ref (ad 81)), (1, .int a0), (2, .int a1), (3, .int a2), (4, .int a3)] [] := by
  unfold fX6_changesIn at h
  refine w_aload_n C dX6_changesIn_0 rfl 0 rfl ?_
  refine w_iload_n C dX6_changesIn_1 rfl 1 rfl ?_
  refine w_iload_n C dX6_changesIn_2 rfl 2 rfl ?_
  refine w_iload_n C dX6_changesIn_3 rfl 3 rfl ?_
  refine bd1_w h (fun r1 hc h => ?_)
  refine w_callVi C (As := [.int a0, .int a1, .int a2]) (st := []) 81 (Nat.le_of_ble_eq_true rfl) rfl rfl (cfX6_isBoundBy D cI ad (l := X.2.1) C.2.2.1 hc) tw4_158 cy_X6_isBoundBy (by decide +kernel) ⟨Nat.le_of_ble_eq_true rfl, Nat.le_of_ble_eq_true rfl⟩ (by decide) rfl rfl (Nat.le_of_ble_eq_true rfl) dX6_changesIn_4 rfl ?_
  refine w_if_eq C (qt := 42) dX6_changesIn_7 (by decide) rfl h (fun _ h => ?_) (fun _ h => ?_)
  · refine w_iconst C 0 dX6_changesIn_42 rfl (by decide) ?_
    exact w_rz2 hr (by decide) h (by decide) dX6_changesIn_43
  · refine w_aload_n C dX6_changesIn_10 rfl 0 rfl ?_
    refine w_iload_n C dX6_changesIn_11 rfl 1 rfl ?_
    refine w_iload_n C dX6_changesIn_12 rfl 2 rfl ?_
    refine w_iload_n C dX6_changesIn_13 rfl 3 rfl ?_
    refine w_iload C dX6_changesIn_14 rfl 4 rfl ?_
    refine bd2_w h (fun r2 u3 hc h => ?_)
    refine w_callVi C (As := [.int a0, .int a1, .int a2, .int a3]) (st := []) 81 (Nat.le_of_ble_eq_true rfl) rfl rfl (cfX6_limitOf D cI ad (l := X.2.1) C.2.2.1 hc) tw4_183 cy_X6_limitOf (by decide +kernel) ⟨Nat.le_of_ble_eq_true rfl, Nat.le_of_ble_eq_true rfl⟩ (by decide) rfl rfl (Nat.le_of_ble_eq_true rfl) dX6_changesIn_16 rfl ?_
    refine w_aload_n C dX6_changesIn_19 rfl 0 rfl ?_
    refine w_iload_n C dX6_changesIn_20 rfl 1 rfl ?_
    refine w_iload_n C dX6_changesIn_21 rfl 2 rfl ?_
    refine w_iload_n C dX6_changesIn_22 rfl 3 rfl ?_
    refine w_aload_n C dX6_changesIn_23 rfl 0 rfl ?_
    refine w_get C 81 0 (Nat.le_of_ble_eq_true rfl) rfl rfl inB_X6 (by decide) tw2_101 rfl dX6_changesIn_24 rfl ?_
    refine w_get C 2 8 (Nat.le_of_ble_eq_true rfl) rfl rfl inB_X0 (by decide) tw1_91 rfl dX6_changesIn_27 rfl ?_
    refine w_iload_n C dX6_changesIn_30 rfl 1 rfl ?_
    refine w_iald C 6 8 0 (Nat.le_of_ble_eq_true rfl) (fun _ => rfl) rfl h dX6_changesIn_31 rfl (fun h => ?_)
    refine bd2_w h (fun r4 u5 hc h => ?_)
    refine w_callVi C (As := [.int a0, .int a1, .int a2, .int (u3 6 (Int32.toNatClampNeg a0))]) (st := [.int r2]) 81 (Nat.le_of_ble_eq_true rfl) rfl rfl (cfX6_limitOf D cI ad (l := X.2.1) C.2.2.1 hc) tw4_183 cy_X6_limitOf (by decide +kernel) ⟨Nat.le_of_ble_eq_true rfl, Nat.le_of_ble_eq_true rfl⟩ (by decide) rfl rfl (Nat.le_of_ble_eq_true rfl) dX6_changesIn_32 rfl ?_
    refine w_icmp_eq C (qt := 42) dX6_changesIn_35 (by decide) rfl h (fun _ h => ?_) (fun _ h => ?_)
    · refine w_iconst C 0 dX6_changesIn_42 rfl (by decide) ?_
      exact w_rz2 hr (by decide) h (by decide) dX6_changesIn_43
    · refine w_iconst C 1 dX6_changesIn_38 rfl (by decide) ?_
      refine w_goto (q := 43) C dX6_changesIn_39 (by decide) ?_
      exact w_rz2 hr (by decide) h (by decide) dX6_changesIn_43
theorem cfX6_changesIn (D : va_G) (cI : ClassId) (ad : Nat → Nat) {l : Launch} (had : gAp (gC D cI ad)) {F : Nat} {σ : St} {a0 : Int32} {a1 : Int32} {a2 : Int32} {a3 : Int32} {r : Int32} {σ' : St} (h : fX6_changesIn F σ a0 a1 a2 a3 = some (r, σ')) : MI l yX6_changesIn (wB yX6_changesIn cX6_changesIn 5 (some .boolean)) 4 93 (gC D cI ad) [.ref (ad 81), .int a0, .int a1, .int a2, .int a3] σ r σ' := mk_MZ had (by decide +kernel) (Nat.le_of_ble_eq_true rfl) (fun X hX C hr => wfX6_changesIn C hr h)

def fX6_countChanged (F : Nat) (σ : St) (a0 : Int32) (a1 : Int32) : Option (Int32 × St) := lp (fun (K2 : (St × Int32 × Int32) → Option (Int32 × St)) (v1 : St × Int32 × Int32) => ckI (a0) 8 (if (v1.1 7 (Int32.toNatClampNeg a0)) ≤ v1.2.1 then (some (v1.2.2, v1.1)) else bd2 (fX6_changesIn F v1.1 a0 v1.2.1 0 a1) fun r4 u5 => if r4 = 0 then (bd2 (fX6_changesIn F u5 a0 v1.2.1 1 a1) fun r6 u7 => if r6 = 0 then (K2 ((u7, v1.2.1 + 1, v1.2.2))) else K2 ((u7, v1.2.1 + 1, v1.2.2 + 1))) else K2 ((u5, v1.2.1 + 1, v1.2.2 + 1)))) F ((σ, 0, 0))
set_option maxRecDepth 20000 in
theorem wfX6_countChanged {X : XT} {D : va_G} {cI : ClassId} {ad : Nat → Nat} {F : Nat} {σ : St} {a0 : Int32} {a1 : Int32} {r : Int32} {σ' : St} (C : Cx X (gC D cI ad) cX6_countChanged 5 RX6 5 117 0) (hr : RetI X (gC D cI ad) cX6_countChanged 5 0 r σ') (h : fX6_countChanged F σ a0 a1 = some (r, σ')) : WP X (gC D cI ad) 5 0 0 σ [(0, .ref (ad 81)), (1, .int a0), (2, .int a1)] [] := by
  unfold fX6_countChanged at h
  refine w_iconst C 0 dX6_countChanged_0 rfl (by decide) ?_
  refine w_istore_n C [(3, .int 0), (0, .ref (ad 81)), (1, .int a0), (2, .int a1)] dX6_countChanged_1 rfl (by decide) rfl ?_
  refine w_iconst C 0 dX6_countChanged_2 rfl (by decide) ?_
  refine w_istore C [(4, .int 0), (3, .int 0), (0, .ref (ad 81)), (1, .int a0), (2, .int a1)] dX6_countChanged_3 rfl (by decide) rfl ?_
  refine w_sub [0, 1, 2, 3, 4] rfl ?_
  refine lp_w (fun v1 : St × Int32 × Int32 => WP X (gC D cI ad) 5 0 5 v1.1 [(4, .int v1.2.1), (3, .int v1.2.2), (0, .ref (ad 81)), (1, .int a0), (2, .int a1)] []) (fun K2 hK3 v1 h => ?_) F _ h
  refine w_iload C dX6_countChanged_5 rfl 0 rfl ?_
  refine w_aload_n C dX6_countChanged_7 rfl 2 rfl ?_
  refine w_get C 81 0 (Nat.le_of_ble_eq_true rfl) rfl rfl inB_X6 (by decide) tw2_101 rfl dX6_countChanged_8 rfl ?_
  refine w_get C 2 9 (Nat.le_of_ble_eq_true rfl) rfl rfl inB_X0 (by decide) tw1_97 rfl dX6_countChanged_11 rfl ?_
  refine w_iload_n C dX6_countChanged_14 rfl 3 rfl ?_
  refine w_iald C 7 8 0 (Nat.le_of_ble_eq_true rfl) (fun _ => rfl) rfl h dX6_countChanged_15 rfl (fun h => ?_)
  refine w_icmp_ge C (qt := 52) dX6_countChanged_16 (by decide) rfl h (fun _ h => ?_) (fun _ h => ?_)
  · refine w_iload_n C dX6_countChanged_52 rfl 1 rfl ?_
    exact w_ri2 hr h (by decide) dX6_countChanged_53
  · refine w_aload_n C dX6_countChanged_19 rfl 2 rfl ?_
    refine w_iload_n C dX6_countChanged_20 rfl 3 rfl ?_
    refine w_iload C dX6_countChanged_21 rfl 0 rfl ?_
    refine w_iconst C 0 dX6_countChanged_23 rfl (by decide) ?_
    refine w_iload_n C dX6_countChanged_24 rfl 4 rfl ?_
    refine bd2_w h (fun r4 u5 hc h => ?_)
    refine w_callVi C (As := [.int a0, .int v1.2.1, .int 0, .int a1]) (st := []) 81 (Nat.le_of_ble_eq_true rfl) rfl rfl (cfX6_changesIn D cI ad (l := X.2.1) C.2.2.1 hc) tw5_207 cy_X6_changesIn (by decide +kernel) ⟨Nat.le_of_ble_eq_true rfl, Nat.le_of_ble_eq_true rfl⟩ (by decide) rfl rfl (Nat.le_of_ble_eq_true rfl) dX6_countChanged_25 rfl ?_
    refine w_if_ne C (qt := 43) dX6_countChanged_28 (by decide) rfl h (fun _ h => ?_) (fun _ h => ?_)
    · refine w_iinc (j := 1) C (v1.2.2 + 1) [(3, .int (v1.2.2 + 1)), (4, .int v1.2.1), (0, .ref (ad 81)), (1, .int a0), (2, .int a1)] dX6_countChanged_43 rfl rfl rfl (by decide) rfl ?_
      refine w_iinc (j := 1) C (v1.2.1 + 1) [(4, .int (v1.2.1 + 1)), (3, .int (v1.2.2 + 1)), (0, .ref (ad 81)), (1, .int a0), (2, .int a1)] dX6_countChanged_46 rfl rfl rfl (by decide) rfl ?_
      refine w_goto (q := 5) C dX6_countChanged_49 (by decide) ?_
      exact w_sub [0, 1, 2, 3, 4] rfl (hK3 _ h)
    · refine w_aload_n C dX6_countChanged_31 rfl 2 rfl ?_
      refine w_iload_n C dX6_countChanged_32 rfl 3 rfl ?_
      refine w_iload C dX6_countChanged_33 rfl 0 rfl ?_
      refine w_iconst C 1 dX6_countChanged_35 rfl (by decide) ?_
      refine w_iload_n C dX6_countChanged_36 rfl 4 rfl ?_
      refine bd2_w h (fun r6 u7 hc h => ?_)
      refine w_callVi C (As := [.int a0, .int v1.2.1, .int 1, .int a1]) (st := []) 81 (Nat.le_of_ble_eq_true rfl) rfl rfl (cfX6_changesIn D cI ad (l := X.2.1) C.2.2.1 hc) tw5_207 cy_X6_changesIn (by decide +kernel) ⟨Nat.le_of_ble_eq_true rfl, Nat.le_of_ble_eq_true rfl⟩ (by decide) rfl rfl (Nat.le_of_ble_eq_true rfl) dX6_countChanged_37 rfl ?_
      refine w_if_eq C (qt := 46) dX6_countChanged_40 (by decide) rfl h (fun _ h => ?_) (fun _ h => ?_)
      · refine w_iinc (j := 0) C (v1.2.1 + 1) [(4, .int (v1.2.1 + 1)), (3, .int v1.2.2), (0, .ref (ad 81)), (1, .int a0), (2, .int a1)] dX6_countChanged_46 rfl rfl rfl (by decide) rfl ?_
        refine w_goto (q := 5) C dX6_countChanged_49 (by decide) ?_
        exact w_sub [0, 1, 2, 3, 4] rfl (hK3 _ h)
      · refine w_iinc (j := 1) C (v1.2.2 + 1) [(3, .int (v1.2.2 + 1)), (4, .int v1.2.1), (0, .ref (ad 81)), (1, .int a0), (2, .int a1)] dX6_countChanged_43 rfl rfl rfl (by decide) rfl ?_
        refine w_iinc (j := 1) C (v1.2.1 + 1) [(4, .int (v1.2.1 + 1)), (3, .int (v1.2.2 + 1)), (0, .ref (ad 81)), (1, .int a0), (2, .int a1)] dX6_countChanged_46 rfl rfl rfl (by decide) rfl ?_
        refine w_goto (q := 5) C dX6_countChanged_49 (by decide) ?_
        exact w_sub [0, 1, 2, 3, 4] rfl (hK3 _ h)
theorem cfX6_countChanged (D : va_G) (cI : ClassId) (ad : Nat → Nat) {l : Launch} (had : gAp (gC D cI ad)) {F : Nat} {σ : St} {a0 : Int32} {a1 : Int32} {r : Int32} {σ' : St} (h : fX6_countChanged F σ a0 a1 = some (r, σ')) : MI l yX6_countChanged (wB yX6_countChanged cX6_countChanged 5 (some .int)) 5 117 (gC D cI ad) [.ref (ad 81), .int a0, .int a1] σ r σ' := mk_MI had (by decide +kernel) (Nat.le_of_ble_eq_true rfl) (fun X hX C hr => wfX6_countChanged C hr h)

def fX10_inTime (F : Nat) (σ : St) (a0 : Int32) (a1 : Int32) : Option (Nat × Int32 × St) := bd1 (fX10_checkDance F σ a0) fun t1 => if t1 = 0 then (jn (fun v2 : Unit => some (2, 0, σ)) fun J3 => if a1 < 1 then (J3 (())) else if a1 ≤ 4 then (bd2 (fX10_isBinding F σ a0) fun r5 u6 => if r5 = 0 then (some (0, 0, u6)) else bd2 (fX6_countChanged F u6 a0 a1) fun r7 u8 => some (0, r7, u8)) else J3 (())) else some (t1, 0, σ)
set_option maxRecDepth 20000 in
theorem wfX10_inTime {X : XT} {D : va_G} {cI : ClassId} {ad : Nat → Nat} {F : Nat} {σ : St} {a0 : Int32} {a1 : Int32} {res : Nat × Int32 × St} (C : Cx X (gC D cI ad) cX10_inTime 3 RX10 8 141 2) (hr : RetXi X (gC D cI ad) cX10_inTime 3 2 res) (hx : ThrX X (gC D cI ad) cX10_inTime 3 2 res) (h : fX10_inTime F σ a0 a1 = some res) : WP X (gC D cI ad) 3 0 0 σ [(0, .ref (ad 0)), (1, .int a0), (2, .int a1)] [] := by
  unfold fX10_inTime at h
  refine w_aload_n C dX10_inTime_0 rfl 0 rfl ?_
  refine w_iload_n C dX10_inTime_1 rfl 1 rfl ?_
  refine bd1_w h (fun t1 hc h => ?_)
  refine w_callX C hx (As := [.int a0]) (st := []) 0 (by decide) rfl rfl (cfX10_checkDance D cI ad (l := X.2.1) C.2.2.1 hc) tw5_12 cy_X10_checkDance (by decide +kernel) ⟨by decide, by decide⟩ (by decide) rfl rfl (by decide) dX10_inTime_2 rfl h (fun h => ?_)
  refine w_iload_n C dX10_inTime_5 rfl 2 rfl ?_
  refine w_iconst C 1 dX10_inTime_6 rfl (by decide) ?_
  refine jn_w (fun v2 : Unit => WP X (gC D cI ad) 3 1 15 σ [] []) h (fun v2 h => ?_) (fun J3 hJ4 h => ?_)
  · exact w_thrW2 hx (tx := "no such time") 106 (by decide) h (by decide) dX10_inTime_15 dX10_inTime_18 dX10_inTime_19 dX10_inTime_22 dX10_inTime_25
  · refine w_icmp_lt C (qt := 15) dX10_inTime_7 (by decide) rfl h (fun _ h => ?_) (fun _ h => ?_)
    · exact w_sub [] rfl (hJ4 _ h)
    · refine w_iload_n C dX10_inTime_10 rfl 2 rfl ?_
      refine w_iconst C 4 dX10_inTime_11 rfl (by decide) ?_
      refine w_icmp_le C (qt := 26) dX10_inTime_12 (by decide) rfl h (fun _ h => ?_) (fun _ h => ?_)
      · refine w_aload_n C dX10_inTime_26 rfl 0 rfl ?_
        refine w_iload_n C dX10_inTime_27 rfl 1 rfl ?_
        refine bd2_w h (fun r5 u6 hc h => ?_)
        refine w_callVi C (As := [.int a0]) (st := []) 0 (Nat.le_of_ble_eq_true rfl) rfl rfl (cfX10_isBinding D cI ad (l := X.2.1) C.2.2.1 hc) tw5_19 cy_X10_isBinding (by decide +kernel) ⟨Nat.le_of_ble_eq_true rfl, Nat.le_of_ble_eq_true rfl⟩ (by decide) rfl rfl (Nat.le_of_ble_eq_true rfl) dX10_inTime_28 rfl ?_
        refine w_if_eq C (qt := 46) dX10_inTime_31 (by decide) rfl h (fun _ h => ?_) (fun _ h => ?_)
        · refine w_iconst C 0 dX10_inTime_46 rfl (by decide) ?_
          exact w_rxi hr h (by decide) dX10_inTime_47
        · refine w_aload_n C dX10_inTime_34 rfl 0 rfl ?_
          refine w_get C 0 12 (Nat.le_of_ble_eq_true rfl) rfl rfl inB_X10 (by decide) tw2_184 rfl dX10_inTime_35 rfl ?_
          refine w_iload_n C dX10_inTime_38 rfl 1 rfl ?_
          refine w_iload_n C dX10_inTime_39 rfl 2 rfl ?_
          refine bd2_w h (fun r7 u8 hc h => ?_)
          refine w_callVi C (As := [.int a0, .int a1]) (st := []) 81 (Nat.le_of_ble_eq_true rfl) rfl rfl (cfX6_countChanged D cI ad (l := X.2.1) C.2.2.1 hc) tw5_203 cy_X6_countChanged (by decide +kernel) ⟨Nat.le_of_ble_eq_true rfl, Nat.le_of_ble_eq_true rfl⟩ (by decide) rfl rfl (Nat.le_of_ble_eq_true rfl) dX10_inTime_40 rfl ?_
          refine w_goto (q := 47) C dX10_inTime_43 (by decide) ?_
          exact w_rxi hr h (by decide) dX10_inTime_47
      · exact w_sub [] rfl (hJ4 _ h)
theorem cfX10_inTime (D : va_G) (cI : ClassId) (ad : Nat → Nat) {l : Launch} (had : gAp (gC D cI ad)) {F : Nat} {σ : St} {a0 : Int32} {a1 : Int32} {res : Nat × Int32 × St} (h : fX10_inTime F σ a0 a1 = some res) : MX l yX10_inTime (wB yX10_inTime cX10_inTime 3 (some .int)) 8 141 2 (gC D cI ad) [.ref (ad 0), .int a0, .int a1] σ res := mk_MX had (by decide +kernel) (Nat.le_of_ble_eq_true rfl) (fun X hX C hr hx => wfX10_inTime C hr hx h)

def fX3_distance (F : Nat) (σ : St) : Option Int32 := some ((if 0 ≤ ((σ 68 0) - (σ 68 1)) then ((σ 68 0) - (σ 68 1)) else 0 - ((σ 68 0) - (σ 68 1))) + (if 0 ≤ ((σ 69 0) - (σ 69 1)) then ((σ 69 0) - (σ 69 1)) else 0 - ((σ 69 0) - (σ 69 1))))
set_option maxRecDepth 20000 in
theorem wfX3_distance {X : XT} {D : va_G} {cI : ClassId} {ad : Nat → Nat} {F : Nat} {σ : St}  {r : Int32} (C : Cx X (gC D cI ad) cX3_distance 1 RX3 1 21 0) (hr : RetI X (gC D cI ad) cX3_distance 1 0 r σ) (h : fX3_distance F σ = some r) : WP X (gC D cI ad) 1 0 0 σ [(0, .ref (ad 67))] [] := by
  unfold fX3_distance at h
  refine w_aload_n C dX3_distance_0 rfl 0 rfl ?_
  refine w_get C 67 0 (Nat.le_of_ble_eq_true rfl) rfl rfl inB_X3 (by decide) tw2_24 rfl dX3_distance_1 rfl ?_
  refine w_iconst C 0 dX3_distance_4 rfl (by decide) ?_
  refine w_ialdc C 68 2 0 0 (Nat.le_of_ble_eq_true rfl) (fun _ => rfl) rfl (by decide) (by decide) dX3_distance_5 rfl ?_
  refine w_aload_n C dX3_distance_6 rfl 0 rfl ?_
  refine w_get C 67 0 (Nat.le_of_ble_eq_true rfl) rfl rfl inB_X3 (by decide) tw2_24 rfl dX3_distance_7 rfl ?_
  refine w_iconst C 1 dX3_distance_10 rfl (by decide) ?_
  refine w_ialdc C 68 2 0 1 (Nat.le_of_ble_eq_true rfl) (fun _ => rfl) rfl (by decide) (by decide) dX3_distance_11 rfl ?_
  refine w_isub C dX3_distance_12 rfl ?_
  refine w_mabs C (by intro w hw; simp only [List.mem_cons, List.not_mem_nil, or_false] at hw; rcases hw with rfl | rfl | rfl | rfl; exacts [tw5_222, tw5_223, tw1_17, tw5_224]) ⟨Nat.le_of_ble_eq_true rfl, Nat.le_of_ble_eq_true rfl⟩ (by decide) dX3_distance_13 rfl ?_
  refine w_aload_n C dX3_distance_16 rfl 0 rfl ?_
  refine w_get C 67 1 (Nat.le_of_ble_eq_true rfl) rfl rfl inB_X3 (by decide) tw2_27 rfl dX3_distance_17 rfl ?_
  refine w_iconst C 0 dX3_distance_20 rfl (by decide) ?_
  refine w_ialdc C 69 2 0 0 (Nat.le_of_ble_eq_true rfl) (fun _ => rfl) rfl (by decide) (by decide) dX3_distance_21 rfl ?_
  refine w_aload_n C dX3_distance_22 rfl 0 rfl ?_
  refine w_get C 67 1 (Nat.le_of_ble_eq_true rfl) rfl rfl inB_X3 (by decide) tw2_27 rfl dX3_distance_23 rfl ?_
  refine w_iconst C 1 dX3_distance_26 rfl (by decide) ?_
  refine w_ialdc C 69 2 0 1 (Nat.le_of_ble_eq_true rfl) (fun _ => rfl) rfl (by decide) (by decide) dX3_distance_27 rfl ?_
  refine w_isub C dX3_distance_28 rfl ?_
  refine w_mabs C (by intro w hw; simp only [List.mem_cons, List.not_mem_nil, or_false] at hw; rcases hw with rfl | rfl | rfl | rfl; exacts [tw5_222, tw5_223, tw1_17, tw5_224]) ⟨Nat.le_of_ble_eq_true rfl, Nat.le_of_ble_eq_true rfl⟩ (by decide) dX3_distance_29 rfl ?_
  refine w_iadd C dX3_distance_32 rfl ?_
  exact w_ri1 hr h (by decide) dX3_distance_33
theorem cfX3_distance (D : va_G) (cI : ClassId) (ad : Nat → Nat) {l : Launch} (had : gAp (gC D cI ad)) {F : Nat} {σ : St}  {r : Int32} (h : fX3_distance F σ = some r) : MI l yX3_distance (wB yX3_distance cX3_distance 1 (some .int)) 1 21 (gC D cI ad) [.ref (ad 67)] σ r σ := mk_MI had (by decide +kernel) (Nat.le_of_ble_eq_true rfl) (fun X hX C hr => wfX3_distance C hr h)

def fX10_apart (F : Nat) (σ : St) (a0 : Int32) : Option (Nat × Int32 × St) := bd1 (fX10_checkDance F σ a0) fun t1 => if t1 = 0 then (bd1 (fX2_prepare F σ a0 0) fun u2 => bd2 (fX2_walkAll F u2) fun r3 u4 => bd1 (fX3_distance F u4) fun r5 => some (0, r5, u4)) else some (t1, 0, σ)
set_option maxRecDepth 20000 in
theorem wfX10_apart {X : XT} {D : va_G} {cI : ClassId} {ad : Nat → Nat} {F : Nat} {σ : St} {a0 : Int32} {res : Nat × Int32 × St} (C : Cx X (gC D cI ad) cX10_apart 2 RX10 8 131 1) (hr : RetXi X (gC D cI ad) cX10_apart 2 1 res) (hx : ThrX X (gC D cI ad) cX10_apart 2 1 res) (h : fX10_apart F σ a0 = some res) : WP X (gC D cI ad) 2 0 0 σ [(0, .ref (ad 0)), (1, .int a0)] [] := by
  unfold fX10_apart at h
  refine w_aload_n C dX10_apart_0 rfl 0 rfl ?_
  refine w_iload_n C dX10_apart_1 rfl 1 rfl ?_
  refine bd1_w h (fun t1 hc h => ?_)
  refine w_callX C hx (As := [.int a0]) (st := []) 0 (by decide) rfl rfl (cfX10_checkDance D cI ad (l := X.2.1) C.2.2.1 hc) tw5_12 cy_X10_checkDance (by decide +kernel) ⟨by decide, by decide⟩ (by decide) rfl rfl (by decide) dX10_apart_2 rfl h (fun h => ?_)
  refine w_aload_n C dX10_apart_5 rfl 0 rfl ?_
  refine w_get C 0 10 (Nat.le_of_ble_eq_true rfl) rfl rfl inB_X10 (by decide) tw2_182 rfl dX10_apart_6 rfl ?_
  refine w_aload_n C dX10_apart_9 rfl 0 rfl ?_
  refine w_get C 0 7 (Nat.le_of_ble_eq_true rfl) rfl rfl inB_X10 (by decide) tw2_179 rfl dX10_apart_10 rfl ?_
  refine w_iload_n C dX10_apart_13 rfl 1 rfl ?_
  refine w_iconst C 0 dX10_apart_14 rfl (by decide) ?_
  refine bd1_w h (fun u2 hc h => ?_)
  refine w_callVv C (As := [.ref (ad 30), .int a0, .int 0]) (st := []) 66 (Nat.le_of_ble_eq_true rfl) rfl rfl (cfX2_prepare D cI ad (l := X.2.1) C.2.2.1 hc) tw5_23 cy_X2_prepare (by decide +kernel) ⟨Nat.le_of_ble_eq_true rfl, Nat.le_of_ble_eq_true rfl⟩ (by decide) rfl rfl (Nat.le_of_ble_eq_true rfl) dX10_apart_15 rfl ?_
  refine w_aload_n C dX10_apart_18 rfl 0 rfl ?_
  refine w_get C 0 10 (Nat.le_of_ble_eq_true rfl) rfl rfl inB_X10 (by decide) tw2_182 rfl dX10_apart_19 rfl ?_
  refine bd2_w h (fun r3 u4 hc h => ?_)
  refine w_callVi C (As := []) (st := []) 66 (Nat.le_of_ble_eq_true rfl) rfl rfl (cfX2_walkAll D cI ad (l := X.2.1) C.2.2.1 hc) tw5_25 cy_X2_walkAll (by decide +kernel) ⟨Nat.le_of_ble_eq_true rfl, Nat.le_of_ble_eq_true rfl⟩ (by decide) rfl rfl (Nat.le_of_ble_eq_true rfl) dX10_apart_22 rfl ?_
  refine w_pop C rfl dX10_apart_25 rfl ?_
  refine w_aload_n C dX10_apart_26 rfl 0 rfl ?_
  refine w_get C 0 10 (Nat.le_of_ble_eq_true rfl) rfl rfl inB_X10 (by decide) tw2_182 rfl dX10_apart_27 rfl ?_
  refine w_get C 66 1 (Nat.le_of_ble_eq_true rfl) rfl rfl inB_X2 (by decide) tw2_42 rfl dX10_apart_30 rfl ?_
  refine bd1_w h (fun r5 hc h => ?_)
  refine w_callVi C (As := []) (st := []) 67 (Nat.le_of_ble_eq_true rfl) rfl rfl (cfX3_distance D cI ad (l := X.2.1) C.2.2.1 hc) tw5_218 cy_X3_distance (by decide +kernel) ⟨Nat.le_of_ble_eq_true rfl, Nat.le_of_ble_eq_true rfl⟩ (by decide) rfl rfl (Nat.le_of_ble_eq_true rfl) dX10_apart_33 rfl ?_
  exact w_rxi hr h (by decide) dX10_apart_36
theorem cfX10_apart (D : va_G) (cI : ClassId) (ad : Nat → Nat) {l : Launch} (had : gAp (gC D cI ad)) {F : Nat} {σ : St} {a0 : Int32} {res : Nat × Int32 × St} (h : fX10_apart F σ a0 = some res) : MX l yX10_apart (wB yX10_apart cX10_apart 2 (some .int)) 8 131 1 (gC D cI ad) [.ref (ad 0), .int a0] σ res := mk_MX had (by decide +kernel) (Nat.le_of_ble_eq_true rfl) (fun X hX C hr hx => wfX10_apart C hr hx h)

def fJ7_fill_53178_5 (F : Nat) (σ : St) (a1 : Int32) : Option St := lp (fun (K2 : (St × Int32) → Option St) (v1 : St × Int32) => if 8 ≤ v1.2 then (some v1.1) else ckI (v1.2) 8 (nm (up v1.1 85 (Int32.toNatClampNeg v1.2) a1) fun u4 => K2 ((u4, v1.2 + 1)))) F ((σ, 0))
set_option maxRecDepth 20000 in
theorem wfJ7_fill_53178_5 {X : XT} {D : va_G} {cI : ClassId} {ad : Nat → Nat} {F : Nat} {σ : St} {a1 : Int32} {σ' : St} (C : Cx X (gC D cI ad) cJ7_fill_53178 4 RJ7 0 0 0) (hr : RetV X (gC D cI ad) cJ7_fill_53178 4 0 σ') (h : fJ7_fill_53178_5 F σ a1 = some σ') : WP X (gC D cI ad) 4 0 0 σ [(0, .ref (ad 85)), (1, .int a1)] [] := by
  unfold fJ7_fill_53178_5 at h
  refine w_iconst C 0 dJ7_fill_53178_0 rfl (by decide) ?_
  refine w_istore_n C [(2, .int 0), (0, .ref (ad 85)), (1, .int a1)] dJ7_fill_53178_1 rfl (by decide) rfl ?_
  refine w_aload_n C dJ7_fill_53178_2 rfl 1 rfl ?_
  refine w_alen C 85 8 0 8 (Nat.le_of_ble_eq_true rfl) (fun _ => rfl) rfl (by decide) dJ7_fill_53178_3 rfl ?_
  refine w_istore_n C [(3, .int 8), (2, .int 0), (0, .ref (ad 85)), (1, .int a1)] dJ7_fill_53178_4 rfl (by decide) rfl ?_
  refine w_sub [0, 1, 2, 3] rfl ?_
  refine lp_w (fun v1 : St × Int32 => WP X (gC D cI ad) 4 0 5 v1.1 [(3, .int 8), (2, .int v1.2), (0, .ref (ad 85)), (1, .int a1)] []) (fun K2 hK3 v1 h => ?_) F _ h
  refine w_iload_n C dJ7_fill_53178_5 rfl 1 rfl ?_
  refine w_iload_n C dJ7_fill_53178_6 rfl 0 rfl ?_
  refine w_icmp_ge C (qt := 20) dJ7_fill_53178_7 (by decide) rfl h (fun _ h => ?_) (fun _ h => ?_)
  · exact w_rv hr h (by decide) dJ7_fill_53178_20
  · refine w_aload_n C dJ7_fill_53178_10 rfl 2 rfl ?_
    refine w_iload_n C dJ7_fill_53178_11 rfl 1 rfl ?_
    refine w_iload_n C dJ7_fill_53178_12 rfl 3 rfl ?_
    refine w_iast C 85 8 0 (Nat.le_of_ble_eq_true rfl) (fun _ => rfl) rfl h dJ7_fill_53178_13 rfl (fun h => ?_)
    refine w_nst h (fun u4 h => ?_)
    refine w_iinc (j := 1) C (v1.2 + 1) [(2, .int (v1.2 + 1)), (3, .int 8), (0, .ref (ad 85)), (1, .int a1)] dJ7_fill_53178_14 rfl rfl rfl (by decide) rfl ?_
    refine w_goto (q := 5) C dJ7_fill_53178_17 (by decide) ?_
    exact w_sub [1, 0, 2, 3] rfl (hK3 _ h)
theorem cfJ7_fill_53178_5 (D : va_G) (cI : ClassId) (ad : Nat → Nat) {l : Launch} (had : gAp (gC D cI ad)) {F : Nat} {σ : St} {a1 : Int32} {σ' : St} (h : fJ7_fill_53178_5 F σ a1 = some σ') : MV l yJ7_fill_53178 (wB yJ7_fill_53178 cJ7_fill_53178 4 none) 0 0 (gC D cI ad) [.ref (ad 85), .int a1] σ σ' := mk_MV had (by decide +kernel) (Nat.le_of_ble_eq_true rfl) (fun X hX C hr => wfJ7_fill_53178_5 C hr h)

def fX6_leastOf (F : Nat) (σ : St) (a0 : Int32) (a1 : Int32) (a2 : Int32) : Option Int32 := bd1 (fX6_rowOf F σ a0 a1 a2) fun r1 => ckI (r1) 128 (some (σ 83 (Int32.toNatClampNeg r1)))
set_option maxRecDepth 20000 in
theorem wfX6_leastOf {X : XT} {D : va_G} {cI : ClassId} {ad : Nat → Nat} {F : Nat} {σ : St} {a0 : Int32} {a1 : Int32} {a2 : Int32} {r : Int32} (C : Cx X (gC D cI ad) cX6_leastOf 4 RX6 1 22 0) (hr : RetI X (gC D cI ad) cX6_leastOf 4 0 r σ) (h : fX6_leastOf F σ a0 a1 a2 = some r) : WP X (gC D cI ad) 4 0 0 σ [(0, .ref (ad 81)), (1, .int a0), (2, .int a1), (3, .int a2)] [] := by
  unfold fX6_leastOf at h
  refine w_aload_n C dX6_leastOf_0 rfl 0 rfl ?_
  refine w_get C 81 3 (Nat.le_of_ble_eq_true rfl) rfl rfl inB_X6 (by decide) tw2_104 rfl dX6_leastOf_1 rfl ?_
  refine w_iload_n C dX6_leastOf_4 rfl 1 rfl ?_
  refine w_iload_n C dX6_leastOf_5 rfl 2 rfl ?_
  refine w_iload_n C dX6_leastOf_6 rfl 3 rfl ?_
  refine bd1_w h (fun r1 hc h => ?_)
  refine w_callSi C (As := [.int a0, .int a1, .int a2]) (st := [.ref (ad 83)]) (cfX6_rowOf D cI ad (l := X.2.1) C.2.2.1 hc) tw4_180 cs_X6_rowOf (by decide +kernel) ⟨Nat.le_of_ble_eq_true rfl, Nat.le_of_ble_eq_true rfl⟩ (by decide) rfl rfl (Nat.le_of_ble_eq_true rfl) dX6_leastOf_7 rfl ?_
  refine w_iald C 83 128 0 (Nat.le_of_ble_eq_true rfl) (fun _ => rfl) rfl h dX6_leastOf_10 rfl (fun h => ?_)
  exact w_ri1 hr h (by decide) dX6_leastOf_11
theorem cfX6_leastOf (D : va_G) (cI : ClassId) (ad : Nat → Nat) {l : Launch} (had : gAp (gC D cI ad)) {F : Nat} {σ : St} {a0 : Int32} {a1 : Int32} {a2 : Int32} {r : Int32} (h : fX6_leastOf F σ a0 a1 a2 = some r) : MI l yX6_leastOf (wB yX6_leastOf cX6_leastOf 4 (some .int)) 1 22 (gC D cI ad) [.ref (ad 81), .int a0, .int a1, .int a2] σ r σ := mk_MI had (by decide +kernel) (Nat.le_of_ble_eq_true rfl) (fun X hX C hr => wfX6_leastOf C hr h)

def fX1_contradict (F : Nat) (σ : St) (a0 : Int32) (a1 : Int32) : Option Int32 := lp (fun (K2 : Int32 → Option Int32) (v1 : Int32) => if 4 ≤ v1 then (some 0) else nm (v1 >>> (1 &&& 31)) fun x4 => nm (v1 &&& 1) fun x5 => bd1 (fX0_envoy F σ a0 x4) fun r6 => bd1 (fX0_envoy F σ a1 x5) fun r7 => if r6 = r7 then (lp (fun (K9 : Int32 → Option Int32) (v8 : Int32) => if 8 ≤ v8 then (K2 (v1 + 1)) else bd1 (fX6_leastOf F σ a0 x4 v8) fun r11 => bd1 (fX6_leastOf F σ a1 x5 v8) fun r12 => if r11 = ((-1)) then (K9 (v8 + 1)) else if r12 = ((-1)) then (K9 (v8 + 1)) else if r11 = r12 then (K9 (v8 + 1)) else some 1) F 0) else K2 (v1 + 1)) F 0
set_option maxRecDepth 20000 in
theorem wfX1_contradict {X : XT} {D : va_G} {cI : ClassId} {ad : Nat → Nat} {F : Nat} {σ : St} {a0 : Int32} {a1 : Int32} {r : Int32} (C : Cx X (gC D cI ad) cX1_contradict 9 RX1 2 45 0) (hr : RetZ X (gC D cI ad) cX1_contradict 9 0 r σ) (h : fX1_contradict F σ a0 a1 = some r) : WP X (gC D cI ad) 9 0 0 σ [(0, .ref (ad 84)), (1, .int a0), (2, .int a1)] [] := by
  unfold fX1_contradict at h
  refine w_iconst C 0 dX1_contradict_0 rfl (by decide) ?_
  refine w_istore_n C [(3, .int 0), (0, .ref (ad 84)), (1, .int a0), (2, .int a1)] dX1_contradict_1 rfl (by decide) rfl ?_
  refine w_sub [0, 1, 2, 3] rfl ?_
  refine lp_w (fun v1 : Int32 => WP X (gC D cI ad) 9 0 2 σ [(3, .int v1), (0, .ref (ad 84)), (1, .int a0), (2, .int a1)] []) (fun K2 hK3 v1 h => ?_) F _ h
  refine w_iload_n C dX1_contradict_2 rfl 0 rfl ?_
  refine w_iconst C 4 dX1_contradict_3 rfl (by decide) ?_
  refine w_icmp_ge C (qt := 111) dX1_contradict_4 (by decide) rfl h (fun _ h => ?_) (fun _ h => ?_)
  · refine w_iconst C 0 dX1_contradict_111 rfl (by decide) ?_
    exact w_rz1 hr (by decide) h (by decide) dX1_contradict_112
  · refine w_iload_n C dX1_contradict_7 rfl 0 rfl ?_
    refine w_iconst C 1 dX1_contradict_8 rfl (by decide) ?_
    refine w_ishr C dX1_contradict_9 rfl ?_
    refine w_nm h (fun x4 h => ?_)
    refine w_istore C [(4, .int x4), (3, .int v1), (0, .ref (ad 84)), (1, .int a0), (2, .int a1)] dX1_contradict_10 rfl (by decide) rfl ?_
    refine w_iload_n C dX1_contradict_12 rfl 1 rfl ?_
    refine w_iconst C 1 dX1_contradict_13 rfl (by decide) ?_
    refine w_iand C dX1_contradict_14 rfl ?_
    refine w_nm h (fun x5 h => ?_)
    refine w_istore C [(5, .int x5), (4, .int x4), (3, .int v1), (0, .ref (ad 84)), (1, .int a0), (2, .int a1)] dX1_contradict_15 rfl (by decide) rfl ?_
    refine w_aload_n C dX1_contradict_17 rfl 3 rfl ?_
    refine w_get C 84 0 (Nat.le_of_ble_eq_true rfl) rfl rfl inB_X1 (by decide) tw2_128 rfl dX1_contradict_18 rfl ?_
    refine w_iload_n C dX1_contradict_21 rfl 4 rfl ?_
    refine w_iload C dX1_contradict_22 rfl 1 rfl ?_
    refine bd1_w h (fun r6 hc h => ?_)
    refine w_callVi C (As := [.int a0, .int x4]) (st := []) 2 (Nat.le_of_ble_eq_true rfl) rfl rfl (cfX0_envoy D cI ad (l := X.2.1) C.2.2.1 hc) tw6_1 cy_X0_envoy (by decide +kernel) ⟨Nat.le_of_ble_eq_true rfl, Nat.le_of_ble_eq_true rfl⟩ (by decide) rfl rfl (Nat.le_of_ble_eq_true rfl) dX1_contradict_24 rfl ?_
    refine w_aload_n C dX1_contradict_27 rfl 3 rfl ?_
    refine w_get C 84 0 (Nat.le_of_ble_eq_true rfl) rfl rfl inB_X1 (by decide) tw2_128 rfl dX1_contradict_28 rfl ?_
    refine w_iload_n C dX1_contradict_31 rfl 5 rfl ?_
    refine w_iload C dX1_contradict_32 rfl 0 rfl ?_
    refine bd1_w h (fun r7 hc h => ?_)
    refine w_callVi C (As := [.int a1, .int x5]) (st := [.int r6]) 2 (Nat.le_of_ble_eq_true rfl) rfl rfl (cfX0_envoy D cI ad (l := X.2.1) C.2.2.1 hc) tw6_1 cy_X0_envoy (by decide +kernel) ⟨Nat.le_of_ble_eq_true rfl, Nat.le_of_ble_eq_true rfl⟩ (by decide) rfl rfl (Nat.le_of_ble_eq_true rfl) dX1_contradict_34 rfl ?_
    refine w_icmp_ne C (qt := 105) dX1_contradict_37 (by decide) rfl h (fun _ h => ?_) (fun _ h => ?_)
    · refine w_iinc (j := 2) C (v1 + 1) [(3, .int (v1 + 1)), (5, .int x5), (4, .int x4), (0, .ref (ad 84)), (1, .int a0), (2, .int a1)] dX1_contradict_105 rfl rfl rfl (by decide) rfl ?_
      refine w_goto (q := 2) C dX1_contradict_108 (by decide) ?_
      exact w_sub [0, 3, 4, 5] rfl (hK3 _ h)
    · refine w_iconst C 0 dX1_contradict_40 rfl (by decide) ?_
      refine w_istore C [(6, .int 0), (5, .int x5), (4, .int x4), (3, .int v1), (0, .ref (ad 84)), (1, .int a0), (2, .int a1)] dX1_contradict_41 rfl (by decide) rfl ?_
      refine w_sub [0, 1, 2, 3, 4, 5, 6] rfl ?_
      refine lp_w (fun v8 : Int32 => WP X (gC D cI ad) 9 0 43 σ [(6, .int v8), (5, .int x5), (4, .int x4), (3, .int v1), (0, .ref (ad 84)), (1, .int a0), (2, .int a1)] []) (fun K9 hK10 v8 h => ?_) F _ h
      refine w_iload C dX1_contradict_43 rfl 0 rfl ?_
      refine w_bipush C 8 dX1_contradict_45 rfl (by decide) ?_
      refine w_icmp_ge C (qt := 105) dX1_contradict_47 (by decide) rfl h (fun _ h => ?_) (fun _ h => ?_)
      · refine w_iinc (j := 3) C (v1 + 1) [(3, .int (v1 + 1)), (6, .int v8), (5, .int x5), (4, .int x4), (0, .ref (ad 84)), (1, .int a0), (2, .int a1)] dX1_contradict_105 rfl rfl rfl (by decide) rfl ?_
        refine w_goto (q := 2) C dX1_contradict_108 (by decide) ?_
        exact w_sub [0, 4, 5, 6] rfl (hK3 _ h)
      · refine w_aload_n C dX1_contradict_50 rfl 4 rfl ?_
        refine w_get C 84 1 (Nat.le_of_ble_eq_true rfl) rfl rfl inB_X1 (by decide) tw2_129 rfl dX1_contradict_51 rfl ?_
        refine w_iload_n C dX1_contradict_54 rfl 5 rfl ?_
        refine w_iload C dX1_contradict_55 rfl 2 rfl ?_
        refine w_iload C dX1_contradict_57 rfl 0 rfl ?_
        refine bd1_w h (fun r11 hc h => ?_)
        refine w_callVi C (As := [.int a0, .int x4, .int v8]) (st := []) 81 (Nat.le_of_ble_eq_true rfl) rfl rfl (cfX6_leastOf D cI ad (l := X.2.1) C.2.2.1 hc) tw6_2 cy_X6_leastOf (by decide +kernel) ⟨Nat.le_of_ble_eq_true rfl, Nat.le_of_ble_eq_true rfl⟩ (by decide) rfl rfl (Nat.le_of_ble_eq_true rfl) dX1_contradict_59 rfl ?_
        refine w_istore C [(7, .int r11), (6, .int v8), (5, .int x5), (4, .int x4), (3, .int v1), (0, .ref (ad 84)), (1, .int a0), (2, .int a1)] dX1_contradict_62 rfl (by decide) rfl ?_
        refine w_aload_n C dX1_contradict_64 rfl 5 rfl ?_
        refine w_get C 84 1 (Nat.le_of_ble_eq_true rfl) rfl rfl inB_X1 (by decide) tw2_129 rfl dX1_contradict_65 rfl ?_
        refine w_iload_n C dX1_contradict_68 rfl 7 rfl ?_
        refine w_iload C dX1_contradict_69 rfl 2 rfl ?_
        refine w_iload C dX1_contradict_71 rfl 1 rfl ?_
        refine bd1_w h (fun r12 hc h => ?_)
        refine w_callVi C (As := [.int a1, .int x5, .int v8]) (st := []) 81 (Nat.le_of_ble_eq_true rfl) rfl rfl (cfX6_leastOf D cI ad (l := X.2.1) C.2.2.1 hc) tw6_2 cy_X6_leastOf (by decide +kernel) ⟨Nat.le_of_ble_eq_true rfl, Nat.le_of_ble_eq_true rfl⟩ (by decide) rfl rfl (Nat.le_of_ble_eq_true rfl) dX1_contradict_73 rfl ?_
        refine w_istore C [(8, .int r12), (7, .int r11), (6, .int v8), (5, .int x5), (4, .int x4), (3, .int v1), (0, .ref (ad 84)), (1, .int a0), (2, .int a1)] dX1_contradict_76 rfl (by decide) rfl ?_
        refine w_iload C dX1_contradict_78 rfl 1 rfl ?_
        refine w_iconst C (-1) dX1_contradict_80 rfl (by decide) ?_
        refine w_icmp_eq C (qt := 99) dX1_contradict_81 (by decide) rfl h (fun _ h => ?_) (fun _ h => ?_)
        · refine w_iinc (j := 2) C (v8 + 1) [(6, .int (v8 + 1)), (8, .int r12), (7, .int r11), (5, .int x5), (4, .int x4), (3, .int v1), (0, .ref (ad 84)), (1, .int a0), (2, .int a1)] dX1_contradict_99 rfl rfl rfl (by decide) rfl ?_
          refine w_goto (q := 43) C dX1_contradict_102 (by decide) ?_
          exact w_sub [0, 3, 4, 5, 6, 7, 8] rfl (hK10 _ h)
        · refine w_iload C dX1_contradict_84 rfl 0 rfl ?_
          refine w_iconst C (-1) dX1_contradict_86 rfl (by decide) ?_
          refine w_icmp_eq C (qt := 99) dX1_contradict_87 (by decide) rfl h (fun _ h => ?_) (fun _ h => ?_)
          · refine w_iinc (j := 2) C (v8 + 1) [(6, .int (v8 + 1)), (8, .int r12), (7, .int r11), (5, .int x5), (4, .int x4), (3, .int v1), (0, .ref (ad 84)), (1, .int a0), (2, .int a1)] dX1_contradict_99 rfl rfl rfl (by decide) rfl ?_
            refine w_goto (q := 43) C dX1_contradict_102 (by decide) ?_
            exact w_sub [0, 3, 4, 5, 6, 7, 8] rfl (hK10 _ h)
          · refine w_iload C dX1_contradict_90 rfl 1 rfl ?_
            refine w_iload C dX1_contradict_92 rfl 0 rfl ?_
            refine w_icmp_eq C (qt := 99) dX1_contradict_94 (by decide) rfl h (fun _ h => ?_) (fun _ h => ?_)
            · refine w_iinc (j := 2) C (v8 + 1) [(6, .int (v8 + 1)), (8, .int r12), (7, .int r11), (5, .int x5), (4, .int x4), (3, .int v1), (0, .ref (ad 84)), (1, .int a0), (2, .int a1)] dX1_contradict_99 rfl rfl rfl (by decide) rfl ?_
              refine w_goto (q := 43) C dX1_contradict_102 (by decide) ?_
              exact w_sub [0, 3, 4, 5, 6, 7, 8] rfl (hK10 _ h)
            · refine w_iconst C 1 dX1_contradict_97 rfl (by decide) ?_
              exact w_rz1 hr (by decide) h (by decide) dX1_contradict_98
theorem cfX1_contradict (D : va_G) (cI : ClassId) (ad : Nat → Nat) {l : Launch} (had : gAp (gC D cI ad)) {F : Nat} {σ : St} {a0 : Int32} {a1 : Int32} {r : Int32} (h : fX1_contradict F σ a0 a1 = some r) : MI l yX1_contradict (wB yX1_contradict cX1_contradict 9 (some .boolean)) 2 45 (gC D cI ad) [.ref (ad 84), .int a0, .int a1] σ r σ := mk_MZ had (by decide +kernel) (Nat.le_of_ble_eq_true rfl) (fun X hX C hr => wfX1_contradict C hr h)

