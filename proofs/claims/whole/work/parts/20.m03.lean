def fX11_drawOf (F : Nat) (σ : St) (a0 : Int32) : Option (Int32 × St) := nm (up σ 0 48 (((σ 0 48) * 1103515245) + 12345)) fun u2 => ckZ (a0) (some ((((u2 0 48) >>> ((16 : Int32) &&& 31)) &&& 32767) - (((u2 0 48) >>> ((16 : Int32) &&& 31)) &&& 32767) / a0 * a0, u2))
set_option maxRecDepth 20000 in
theorem wfX11_drawOf {X : XT} {D : va_G} {cI cT : ClassId} {ad : Nat → Nat} {F : Nat} {σ : St} {a0 : Int32} {r : Int32} {σ' : St} (C : Cx X (gM D cI cT ad) cX11_drawOf 2 RX11 0 0 0) (hr : RetI X (gM D cI cT ad) cX11_drawOf 2 0 r σ') (h : fX11_drawOf F σ a0 = some (r, σ')) : WP X (gM D cI cT ad) 2 0 0 σ [(0, .ref (ad 0)), (1, .int a0)] [] := by
  unfold fX11_drawOf at h
  refine w_aload_n C dX11_drawOf_0 rfl 0 rfl ?_
  refine w_aload_n C dX11_drawOf_1 rfl 0 rfl ?_
  refine w_get C 0 48 (Nat.le_of_ble_eq_true rfl) rfl rfl inB_X11 (by decide) tw6_209 rfl dX11_drawOf_2 rfl ?_
  refine w_ldcw C 1103515245 dX11_drawOf_5 rfl tw9_54 ?_
  refine w_imul C dX11_drawOf_8 rfl ?_
  refine w_sipush C 12345 dX11_drawOf_9 rfl (by decide) ?_
  refine w_iadd C dX11_drawOf_12 rfl ?_
  refine w_put C 0 48 (((σ 0 48) * 1103515245) + 12345) (Nat.le_of_ble_eq_true rfl) rfl rfl inB_X11 tyX11_ok nmX11 (by decide) tw6_209 rfl rfl rfl (Nat.le_of_ble_eq_true rfl) rfl dX11_drawOf_13 rfl ?_
  refine w_nst h (fun u2 h => ?_)
  refine w_aload_n C dX11_drawOf_16 rfl 0 rfl ?_
  refine w_get C 0 48 (Nat.le_of_ble_eq_true rfl) rfl rfl inB_X11 (by decide) tw6_209 rfl dX11_drawOf_17 rfl ?_
  refine w_bipush C 16 dX11_drawOf_20 rfl (by decide) ?_
  refine w_ishr C dX11_drawOf_22 rfl ?_
  refine w_sipush C 32767 dX11_drawOf_23 rfl (by decide) ?_
  refine w_iand C dX11_drawOf_26 rfl ?_
  refine w_iload_n C dX11_drawOf_27 rfl 1 rfl ?_
  obtain ⟨hz, h⟩ := ckZ_w h
  refine w_irem C hz dX11_drawOf_28 rfl ?_
  exact w_ri2 hr h (by decide) dX11_drawOf_29
theorem cfX11_drawOf (D : va_G) (cI cT : ClassId) (ad : Nat → Nat) {l : Launch} (had : gAp (gM D cI cT ad)) {F : Nat} {σ : St} {a0 : Int32} {r : Int32} {σ' : St} (h : fX11_drawOf F σ a0 = some (r, σ')) : MI l yX11_drawOf (wB yX11_drawOf cX11_drawOf 2 (some .int)) 0 0 (gM D cI cT ad) [.ref (ad 0), .int a0] σ r σ' := mk_MI had (by decide +kernel) (Nat.le_of_ble_eq_true rfl) (fun X hX C hr => wfX11_drawOf C hr h)

def fX11_pack_2 (F : Nat) (σ : St) (a1 : Int32) : Option St := ckI (a1) 138 (nm (up σ 33 (Int32.toNatClampNeg a1) (σ 0 31)) fun u1 => ckI (a1 + 1) 138 (nm (up u1 33 (Int32.toNatClampNeg (a1 + 1)) (u1 0 32)) fun u2 => nm (a1 + 2) fun x3 => lp (fun (K5 : (St × Int32) → Option St) (v4 : St × Int32) => if (8 : Int32) ≤ v4.2 then (lp (fun (K8 : (St × Int32) → Option St) (v7 : St × Int32) => if (80 : Int32) ≤ v7.2 then (lp (fun (K11 : (St × Int32) → Option St) (v10 : St × Int32) => if (48 : Int32) ≤ v10.2 then (some v10.1) else ckI (v10.2) 48 (ckI (((x3 + 8) + 80) + v10.2) 138 (nm (up v10.1 33 (Int32.toNatClampNeg (((x3 + 8) + 80) + v10.2)) (v10.1 19 (Int32.toNatClampNeg v10.2))) fun u13 => K11 ((u13, v10.2 + 1))))) F ((v7.1, 0))) else ckI (v7.2) 160 (ckI ((x3 + 8) + v7.2) 138 (nm (up v7.1 33 (Int32.toNatClampNeg ((x3 + 8) + v7.2)) (v7.1 13 (Int32.toNatClampNeg v7.2))) fun u14 => K8 ((u14, v7.2 + 1))))) F ((v4.1, 0))) else ckI (v4.2) 8 (ckI (x3 + v4.2) 138 (nm (up v4.1 33 (Int32.toNatClampNeg (x3 + v4.2)) (v4.1 18 (Int32.toNatClampNeg v4.2))) fun u15 => K5 ((u15, v4.2 + 1))))) F ((u2, 0))))
set_option maxRecDepth 20000 in
theorem wfX11_pack_2 {X : XT} {D : va_G} {cI cT : ClassId} {ad : Nat → Nat} {F : Nat} {σ : St} {a1 : Int32} {σ' : St} (C : Cx X (gM D cI cT ad) cX11_pack 5 RX11 0 0 0) (hr : RetV X (gM D cI cT ad) cX11_pack 5 0 σ') (h : fX11_pack_2 F σ a1 = some σ') : WP X (gM D cI cT ad) 5 0 0 σ [(0, .ref (ad 0)), (1, .ref (ad 33)), (2, .int a1)] [] := by
  unfold fX11_pack_2 at h
  refine w_aload_n C dX11_pack_0 rfl 1 rfl ?_
  refine w_iload_n C dX11_pack_1 rfl 2 rfl ?_
  refine w_aload_n C dX11_pack_2 rfl 0 rfl ?_
  refine w_get C 0 31 (Nat.le_of_ble_eq_true rfl) rfl rfl inB_X11 (by decide) tw6_192 rfl dX11_pack_3 rfl ?_
  refine w_iast C 33 138 0 (Nat.le_of_ble_eq_true rfl) (fun _ => rfl) rfl h dX11_pack_6 rfl (fun h => ?_)
  refine w_nst h (fun u1 h => ?_)
  refine w_aload_n C dX11_pack_7 rfl 1 rfl ?_
  refine w_iload_n C dX11_pack_8 rfl 2 rfl ?_
  refine w_iconst C 1 dX11_pack_9 rfl (by decide) ?_
  refine w_iadd C dX11_pack_10 rfl ?_
  refine w_aload_n C dX11_pack_11 rfl 0 rfl ?_
  refine w_get C 0 32 (Nat.le_of_ble_eq_true rfl) rfl rfl inB_X11 (by decide) tw6_193 rfl dX11_pack_12 rfl ?_
  refine w_iast C 33 138 0 (Nat.le_of_ble_eq_true rfl) (fun _ => rfl) rfl h dX11_pack_15 rfl (fun h => ?_)
  refine w_nst h (fun u2 h => ?_)
  refine w_iload_n C dX11_pack_16 rfl 2 rfl ?_
  refine w_iconst C 2 dX11_pack_17 rfl (by decide) ?_
  refine w_iadd C dX11_pack_18 rfl ?_
  refine w_nm h (fun x3 h => ?_)
  refine w_istore_n C [(3, .int x3), (0, .ref (ad 0)), (1, .ref (ad 33)), (2, .int a1)] dX11_pack_19 rfl (by decide) rfl ?_
  refine w_iconst C 0 dX11_pack_20 rfl (by decide) ?_
  refine w_istore C [(4, .int 0), (3, .int x3), (0, .ref (ad 0)), (1, .ref (ad 33)), (2, .int a1)] dX11_pack_21 rfl (by decide) rfl ?_
  refine w_sub (lv' := [(4, .int 0), (3, .int x3), (0, .ref (ad 0)), (1, .ref (ad 33))]) [0, 1, 2, 3] rfl ?_
  refine lp_w (fun v4 : St × Int32 => WP X (gM D cI cT ad) 5 0 23 v4.1 [(4, .int v4.2), (3, .int x3), (0, .ref (ad 0)), (1, .ref (ad 33))] []) (fun K5 hK6 v4 h => ?_) F _ h
  refine w_iload C dX11_pack_23 rfl 0 rfl ?_
  refine w_bipush C 8 dX11_pack_25 rfl (by decide) ?_
  refine w_icmp_ge C (qt := 49) dX11_pack_27 (by decide) rfl h (fun _ h => ?_) (fun _ h => ?_)
  · refine w_iinc (j := 1) C (x3 + 8) [(3, .int (x3 + 8)), (4, .int v4.2), (0, .ref (ad 0)), (1, .ref (ad 33))] dX11_pack_49 rfl rfl rfl (by decide) rfl ?_
    refine w_iconst C 0 dX11_pack_52 rfl (by decide) ?_
    refine w_istore C [(4, .int 0), (3, .int (x3 + 8)), (0, .ref (ad 0)), (1, .ref (ad 33))] dX11_pack_53 rfl (by decide) rfl ?_
    refine w_sub (lv' := [(4, .int 0), (3, .int (x3 + 8)), (0, .ref (ad 0)), (1, .ref (ad 33))]) [0, 1, 2, 3] rfl ?_
    refine lp_w (fun v7 : St × Int32 => WP X (gM D cI cT ad) 5 0 55 v7.1 [(4, .int v7.2), (3, .int (x3 + 8)), (0, .ref (ad 0)), (1, .ref (ad 33))] []) (fun K8 hK9 v7 h => ?_) F _ h
    refine w_iload C dX11_pack_55 rfl 0 rfl ?_
    refine w_bipush C 80 dX11_pack_57 rfl (by decide) ?_
    refine w_icmp_ge C (qt := 81) dX11_pack_59 (by decide) rfl h (fun _ h => ?_) (fun _ h => ?_)
    · refine w_iinc (j := 1) C ((x3 + 8) + 80) [(3, .int ((x3 + 8) + 80)), (4, .int v7.2), (0, .ref (ad 0)), (1, .ref (ad 33))] dX11_pack_81 rfl rfl rfl (by decide) rfl ?_
      refine w_iconst C 0 dX11_pack_84 rfl (by decide) ?_
      refine w_istore C [(4, .int 0), (3, .int ((x3 + 8) + 80)), (0, .ref (ad 0)), (1, .ref (ad 33))] dX11_pack_85 rfl (by decide) rfl ?_
      refine w_sub (lv' := [(4, .int 0), (3, .int ((x3 + 8) + 80)), (0, .ref (ad 0)), (1, .ref (ad 33))]) [0, 1, 2, 3] rfl ?_
      refine lp_w (fun v10 : St × Int32 => WP X (gM D cI cT ad) 5 0 87 v10.1 [(4, .int v10.2), (3, .int ((x3 + 8) + 80)), (0, .ref (ad 0)), (1, .ref (ad 33))] []) (fun K11 hK12 v10 h => ?_) F _ h
      refine w_iload C dX11_pack_87 rfl 0 rfl ?_
      refine w_bipush C 48 dX11_pack_89 rfl (by decide) ?_
      refine w_icmp_ge C (qt := 113) dX11_pack_91 (by decide) rfl h (fun _ h => ?_) (fun _ h => ?_)
      · exact w_rv hr h (by decide) dX11_pack_113
      · refine w_aload_n C dX11_pack_94 rfl 3 rfl ?_
        refine w_iload_n C dX11_pack_95 rfl 1 rfl ?_
        refine w_iload C dX11_pack_96 rfl 0 rfl ?_
        refine w_iadd C dX11_pack_98 rfl ?_
        refine w_aload_n C dX11_pack_99 rfl 2 rfl ?_
        refine w_get C 0 29 (Nat.le_of_ble_eq_true rfl) rfl rfl inB_X11 (by decide) tw6_190 rfl dX11_pack_100 rfl ?_
        refine w_iload C dX11_pack_103 rfl 0 rfl ?_
        refine w_iald C 19 48 0 (Nat.le_of_ble_eq_true rfl) (fun _ => rfl) rfl h dX11_pack_105 rfl (fun h => ?_)
        refine w_iast C 33 138 0 (Nat.le_of_ble_eq_true rfl) (fun _ => rfl) rfl h dX11_pack_106 rfl (fun h => ?_)
        refine w_nst h (fun u13 h => ?_)
        refine w_iinc (j := 0) C (v10.2 + 1) [(4, .int (v10.2 + 1)), (3, .int ((x3 + 8) + 80)), (0, .ref (ad 0)), (1, .ref (ad 33))] dX11_pack_107 rfl rfl rfl (by decide) rfl ?_
        refine w_goto (q := 87) C dX11_pack_110 (by decide) ?_
        exact w_sub (lv' := [(4, .int (v10.2 + 1)), (3, .int ((x3 + 8) + 80)), (0, .ref (ad 0)), (1, .ref (ad 33))]) [0, 1, 2, 3] rfl (hK12 ((u13, v10.2 + 1)) h)
    · refine w_aload_n C dX11_pack_62 rfl 3 rfl ?_
      refine w_iload_n C dX11_pack_63 rfl 1 rfl ?_
      refine w_iload C dX11_pack_64 rfl 0 rfl ?_
      refine w_iadd C dX11_pack_66 rfl ?_
      refine w_aload_n C dX11_pack_67 rfl 2 rfl ?_
      refine w_get C 0 13 (Nat.le_of_ble_eq_true rfl) rfl rfl inB_X11 (by decide) tw6_174 rfl dX11_pack_68 rfl ?_
      refine w_iload C dX11_pack_71 rfl 0 rfl ?_
      refine w_iald C 13 160 0 (Nat.le_of_ble_eq_true rfl) (fun _ => rfl) rfl h dX11_pack_73 rfl (fun h => ?_)
      refine w_iast C 33 138 0 (Nat.le_of_ble_eq_true rfl) (fun _ => rfl) rfl h dX11_pack_74 rfl (fun h => ?_)
      refine w_nst h (fun u14 h => ?_)
      refine w_iinc (j := 0) C (v7.2 + 1) [(4, .int (v7.2 + 1)), (3, .int (x3 + 8)), (0, .ref (ad 0)), (1, .ref (ad 33))] dX11_pack_75 rfl rfl rfl (by decide) rfl ?_
      refine w_goto (q := 55) C dX11_pack_78 (by decide) ?_
      exact w_sub (lv' := [(4, .int (v7.2 + 1)), (3, .int (x3 + 8)), (0, .ref (ad 0)), (1, .ref (ad 33))]) [0, 1, 2, 3] rfl (hK9 ((u14, v7.2 + 1)) h)
  · refine w_aload_n C dX11_pack_30 rfl 3 rfl ?_
    refine w_iload_n C dX11_pack_31 rfl 1 rfl ?_
    refine w_iload C dX11_pack_32 rfl 0 rfl ?_
    refine w_iadd C dX11_pack_34 rfl ?_
    refine w_aload_n C dX11_pack_35 rfl 2 rfl ?_
    refine w_get C 0 28 (Nat.le_of_ble_eq_true rfl) rfl rfl inB_X11 (by decide) tw6_189 rfl dX11_pack_36 rfl ?_
    refine w_iload C dX11_pack_39 rfl 0 rfl ?_
    refine w_iald C 18 8 0 (Nat.le_of_ble_eq_true rfl) (fun _ => rfl) rfl h dX11_pack_41 rfl (fun h => ?_)
    refine w_iast C 33 138 0 (Nat.le_of_ble_eq_true rfl) (fun _ => rfl) rfl h dX11_pack_42 rfl (fun h => ?_)
    refine w_nst h (fun u15 h => ?_)
    refine w_iinc (j := 0) C (v4.2 + 1) [(4, .int (v4.2 + 1)), (3, .int x3), (0, .ref (ad 0)), (1, .ref (ad 33))] dX11_pack_43 rfl rfl rfl (by decide) rfl ?_
    refine w_goto (q := 23) C dX11_pack_46 (by decide) ?_
    exact w_sub (lv' := [(4, .int (v4.2 + 1)), (3, .int x3), (0, .ref (ad 0)), (1, .ref (ad 33))]) [0, 1, 2, 3] rfl (hK6 ((u15, v4.2 + 1)) h)
theorem cfX11_pack_2 (D : va_G) (cI cT : ClassId) (ad : Nat → Nat) {l : Launch} (had : gAp (gM D cI cT ad)) {F : Nat} {σ : St} {a1 : Int32} {σ' : St} (h : fX11_pack_2 F σ a1 = some σ') : MV l yX11_pack (wB yX11_pack cX11_pack 5 none) 0 0 (gM D cI cT ad) [.ref (ad 0), .ref (ad 33), .int a1] σ σ' := mk_MV had (by decide +kernel) (Nat.le_of_ble_eq_true rfl) (fun X hX C hr => wfX11_pack_2 C hr h)

def fX11_unpack_2 (F : Nat) (σ : St) (a1 : Int32) : Option St := ckI (a1) 138 (nm (up σ 0 31 (σ 33 (Int32.toNatClampNeg a1))) fun u2 => ckI (a1 + 1) 138 (nm (up u2 0 32 (u2 33 (Int32.toNatClampNeg (a1 + 1)))) fun u4 => nm (a1 + 2) fun x5 => lp (fun (K7 : (St × Int32) → Option St) (v6 : St × Int32) => if (8 : Int32) ≤ v6.2 then (lp (fun (K10 : (St × Int32) → Option St) (v9 : St × Int32) => if (80 : Int32) ≤ v9.2 then (lp (fun (K13 : (St × Int32) → Option St) (v12 : St × Int32) => if (48 : Int32) ≤ v12.2 then (some v12.1) else ckI (((x5 + 8) + 80) + v12.2) 138 (ckI (v12.2) 48 (nm (up v12.1 19 (Int32.toNatClampNeg v12.2) (v12.1 33 (Int32.toNatClampNeg (((x5 + 8) + 80) + v12.2)))) fun u15 => K13 ((u15, v12.2 + 1))))) F ((v9.1, 0))) else ckI ((x5 + 8) + v9.2) 138 (ckI (v9.2) 160 (nm (up v9.1 13 (Int32.toNatClampNeg v9.2) (v9.1 33 (Int32.toNatClampNeg ((x5 + 8) + v9.2)))) fun u16 => K10 ((u16, v9.2 + 1))))) F ((v6.1, 0))) else ckI (x5 + v6.2) 138 (ckI (v6.2) 8 (nm (up v6.1 18 (Int32.toNatClampNeg v6.2) (v6.1 33 (Int32.toNatClampNeg (x5 + v6.2)))) fun u17 => K7 ((u17, v6.2 + 1))))) F ((u4, 0))))
set_option maxRecDepth 20000 in
theorem wfX11_unpack_2 {X : XT} {D : va_G} {cI cT : ClassId} {ad : Nat → Nat} {F : Nat} {σ : St} {a1 : Int32} {σ' : St} (C : Cx X (gM D cI cT ad) cX11_unpack 5 RX11 0 0 0) (hr : RetV X (gM D cI cT ad) cX11_unpack 5 0 σ') (h : fX11_unpack_2 F σ a1 = some σ') : WP X (gM D cI cT ad) 5 0 0 σ [(0, .ref (ad 0)), (1, .ref (ad 33)), (2, .int a1)] [] := by
  unfold fX11_unpack_2 at h
  refine w_aload_n C dX11_unpack_0 rfl 0 rfl ?_
  refine w_aload_n C dX11_unpack_1 rfl 1 rfl ?_
  refine w_iload_n C dX11_unpack_2 rfl 2 rfl ?_
  refine w_iald C 33 138 0 (Nat.le_of_ble_eq_true rfl) (fun _ => rfl) rfl h dX11_unpack_3 rfl (fun h => ?_)
  refine w_put C 0 31 (σ 33 (Int32.toNatClampNeg a1)) (Nat.le_of_ble_eq_true rfl) rfl rfl inB_X11 tyX11_ok nmX11 (by decide) tw6_192 rfl rfl rfl (Nat.le_of_ble_eq_true rfl) rfl dX11_unpack_4 rfl ?_
  refine w_nst h (fun u2 h => ?_)
  refine w_aload_n C dX11_unpack_7 rfl 0 rfl ?_
  refine w_aload_n C dX11_unpack_8 rfl 1 rfl ?_
  refine w_iload_n C dX11_unpack_9 rfl 2 rfl ?_
  refine w_iconst C 1 dX11_unpack_10 rfl (by decide) ?_
  refine w_iadd C dX11_unpack_11 rfl ?_
  refine w_iald C 33 138 0 (Nat.le_of_ble_eq_true rfl) (fun _ => rfl) rfl h dX11_unpack_12 rfl (fun h => ?_)
  refine w_put C 0 32 (u2 33 (Int32.toNatClampNeg (a1 + 1))) (Nat.le_of_ble_eq_true rfl) rfl rfl inB_X11 tyX11_ok nmX11 (by decide) tw6_193 rfl rfl rfl (Nat.le_of_ble_eq_true rfl) rfl dX11_unpack_13 rfl ?_
  refine w_nst h (fun u4 h => ?_)
  refine w_iload_n C dX11_unpack_16 rfl 2 rfl ?_
  refine w_iconst C 2 dX11_unpack_17 rfl (by decide) ?_
  refine w_iadd C dX11_unpack_18 rfl ?_
  refine w_nm h (fun x5 h => ?_)
  refine w_istore_n C [(3, .int x5), (0, .ref (ad 0)), (1, .ref (ad 33)), (2, .int a1)] dX11_unpack_19 rfl (by decide) rfl ?_
  refine w_iconst C 0 dX11_unpack_20 rfl (by decide) ?_
  refine w_istore C [(4, .int 0), (3, .int x5), (0, .ref (ad 0)), (1, .ref (ad 33)), (2, .int a1)] dX11_unpack_21 rfl (by decide) rfl ?_
  refine w_sub (lv' := [(4, .int 0), (3, .int x5), (0, .ref (ad 0)), (1, .ref (ad 33))]) [0, 1, 2, 3] rfl ?_
  refine lp_w (fun v6 : St × Int32 => WP X (gM D cI cT ad) 5 0 23 v6.1 [(4, .int v6.2), (3, .int x5), (0, .ref (ad 0)), (1, .ref (ad 33))] []) (fun K7 hK8 v6 h => ?_) F _ h
  refine w_iload C dX11_unpack_23 rfl 0 rfl ?_
  refine w_bipush C 8 dX11_unpack_25 rfl (by decide) ?_
  refine w_icmp_ge C (qt := 49) dX11_unpack_27 (by decide) rfl h (fun _ h => ?_) (fun _ h => ?_)
  · refine w_iinc (j := 1) C (x5 + 8) [(3, .int (x5 + 8)), (4, .int v6.2), (0, .ref (ad 0)), (1, .ref (ad 33))] dX11_unpack_49 rfl rfl rfl (by decide) rfl ?_
    refine w_iconst C 0 dX11_unpack_52 rfl (by decide) ?_
    refine w_istore C [(4, .int 0), (3, .int (x5 + 8)), (0, .ref (ad 0)), (1, .ref (ad 33))] dX11_unpack_53 rfl (by decide) rfl ?_
    refine w_sub (lv' := [(4, .int 0), (3, .int (x5 + 8)), (0, .ref (ad 0)), (1, .ref (ad 33))]) [0, 1, 2, 3] rfl ?_
    refine lp_w (fun v9 : St × Int32 => WP X (gM D cI cT ad) 5 0 55 v9.1 [(4, .int v9.2), (3, .int (x5 + 8)), (0, .ref (ad 0)), (1, .ref (ad 33))] []) (fun K10 hK11 v9 h => ?_) F _ h
    refine w_iload C dX11_unpack_55 rfl 0 rfl ?_
    refine w_bipush C 80 dX11_unpack_57 rfl (by decide) ?_
    refine w_icmp_ge C (qt := 81) dX11_unpack_59 (by decide) rfl h (fun _ h => ?_) (fun _ h => ?_)
    · refine w_iinc (j := 1) C ((x5 + 8) + 80) [(3, .int ((x5 + 8) + 80)), (4, .int v9.2), (0, .ref (ad 0)), (1, .ref (ad 33))] dX11_unpack_81 rfl rfl rfl (by decide) rfl ?_
      refine w_iconst C 0 dX11_unpack_84 rfl (by decide) ?_
      refine w_istore C [(4, .int 0), (3, .int ((x5 + 8) + 80)), (0, .ref (ad 0)), (1, .ref (ad 33))] dX11_unpack_85 rfl (by decide) rfl ?_
      refine w_sub (lv' := [(4, .int 0), (3, .int ((x5 + 8) + 80)), (0, .ref (ad 0)), (1, .ref (ad 33))]) [0, 1, 2, 3] rfl ?_
      refine lp_w (fun v12 : St × Int32 => WP X (gM D cI cT ad) 5 0 87 v12.1 [(4, .int v12.2), (3, .int ((x5 + 8) + 80)), (0, .ref (ad 0)), (1, .ref (ad 33))] []) (fun K13 hK14 v12 h => ?_) F _ h
      refine w_iload C dX11_unpack_87 rfl 0 rfl ?_
      refine w_bipush C 48 dX11_unpack_89 rfl (by decide) ?_
      refine w_icmp_ge C (qt := 113) dX11_unpack_91 (by decide) rfl h (fun _ h => ?_) (fun _ h => ?_)
      · exact w_rv hr h (by decide) dX11_unpack_113
      · refine w_aload_n C dX11_unpack_94 rfl 2 rfl ?_
        refine w_get C 0 29 (Nat.le_of_ble_eq_true rfl) rfl rfl inB_X11 (by decide) tw6_190 rfl dX11_unpack_95 rfl ?_
        refine w_iload C dX11_unpack_98 rfl 0 rfl ?_
        refine w_aload_n C dX11_unpack_100 rfl 3 rfl ?_
        refine w_iload_n C dX11_unpack_101 rfl 1 rfl ?_
        refine w_iload C dX11_unpack_102 rfl 0 rfl ?_
        refine w_iadd C dX11_unpack_104 rfl ?_
        refine w_iald C 33 138 0 (Nat.le_of_ble_eq_true rfl) (fun _ => rfl) rfl h dX11_unpack_105 rfl (fun h => ?_)
        refine w_iast C 19 48 0 (Nat.le_of_ble_eq_true rfl) (fun _ => rfl) rfl h dX11_unpack_106 rfl (fun h => ?_)
        refine w_nst h (fun u15 h => ?_)
        refine w_iinc (j := 0) C (v12.2 + 1) [(4, .int (v12.2 + 1)), (3, .int ((x5 + 8) + 80)), (0, .ref (ad 0)), (1, .ref (ad 33))] dX11_unpack_107 rfl rfl rfl (by decide) rfl ?_
        refine w_goto (q := 87) C dX11_unpack_110 (by decide) ?_
        exact w_sub (lv' := [(4, .int (v12.2 + 1)), (3, .int ((x5 + 8) + 80)), (0, .ref (ad 0)), (1, .ref (ad 33))]) [0, 1, 2, 3] rfl (hK14 ((u15, v12.2 + 1)) h)
    · refine w_aload_n C dX11_unpack_62 rfl 2 rfl ?_
      refine w_get C 0 13 (Nat.le_of_ble_eq_true rfl) rfl rfl inB_X11 (by decide) tw6_174 rfl dX11_unpack_63 rfl ?_
      refine w_iload C dX11_unpack_66 rfl 0 rfl ?_
      refine w_aload_n C dX11_unpack_68 rfl 3 rfl ?_
      refine w_iload_n C dX11_unpack_69 rfl 1 rfl ?_
      refine w_iload C dX11_unpack_70 rfl 0 rfl ?_
      refine w_iadd C dX11_unpack_72 rfl ?_
      refine w_iald C 33 138 0 (Nat.le_of_ble_eq_true rfl) (fun _ => rfl) rfl h dX11_unpack_73 rfl (fun h => ?_)
      refine w_iast C 13 160 0 (Nat.le_of_ble_eq_true rfl) (fun _ => rfl) rfl h dX11_unpack_74 rfl (fun h => ?_)
      refine w_nst h (fun u16 h => ?_)
      refine w_iinc (j := 0) C (v9.2 + 1) [(4, .int (v9.2 + 1)), (3, .int (x5 + 8)), (0, .ref (ad 0)), (1, .ref (ad 33))] dX11_unpack_75 rfl rfl rfl (by decide) rfl ?_
      refine w_goto (q := 55) C dX11_unpack_78 (by decide) ?_
      exact w_sub (lv' := [(4, .int (v9.2 + 1)), (3, .int (x5 + 8)), (0, .ref (ad 0)), (1, .ref (ad 33))]) [0, 1, 2, 3] rfl (hK11 ((u16, v9.2 + 1)) h)
  · refine w_aload_n C dX11_unpack_30 rfl 2 rfl ?_
    refine w_get C 0 28 (Nat.le_of_ble_eq_true rfl) rfl rfl inB_X11 (by decide) tw6_189 rfl dX11_unpack_31 rfl ?_
    refine w_iload C dX11_unpack_34 rfl 0 rfl ?_
    refine w_aload_n C dX11_unpack_36 rfl 3 rfl ?_
    refine w_iload_n C dX11_unpack_37 rfl 1 rfl ?_
    refine w_iload C dX11_unpack_38 rfl 0 rfl ?_
    refine w_iadd C dX11_unpack_40 rfl ?_
    refine w_iald C 33 138 0 (Nat.le_of_ble_eq_true rfl) (fun _ => rfl) rfl h dX11_unpack_41 rfl (fun h => ?_)
    refine w_iast C 18 8 0 (Nat.le_of_ble_eq_true rfl) (fun _ => rfl) rfl h dX11_unpack_42 rfl (fun h => ?_)
    refine w_nst h (fun u17 h => ?_)
    refine w_iinc (j := 0) C (v6.2 + 1) [(4, .int (v6.2 + 1)), (3, .int x5), (0, .ref (ad 0)), (1, .ref (ad 33))] dX11_unpack_43 rfl rfl rfl (by decide) rfl ?_
    refine w_goto (q := 23) C dX11_unpack_46 (by decide) ?_
    exact w_sub (lv' := [(4, .int (v6.2 + 1)), (3, .int x5), (0, .ref (ad 0)), (1, .ref (ad 33))]) [0, 1, 2, 3] rfl (hK8 ((u17, v6.2 + 1)) h)
theorem cfX11_unpack_2 (D : va_G) (cI cT : ClassId) (ad : Nat → Nat) {l : Launch} (had : gAp (gM D cI cT ad)) {F : Nat} {σ : St} {a1 : Int32} {σ' : St} (h : fX11_unpack_2 F σ a1 = some σ') : MV l yX11_unpack (wB yX11_unpack cX11_unpack 5 none) 0 0 (gM D cI cT ad) [.ref (ad 0), .ref (ad 33), .int a1] σ σ' := mk_MV had (by decide +kernel) (Nat.le_of_ble_eq_true rfl) (fun X hX C hr => wfX11_unpack_2 C hr h)

def fX11_century (F : Nat) (σ : St) (a0 : Int32) (a1 : Int32) (a2 : Int32) : Option (Int32 × St) := nm (up σ 0 4 0) fun u2 => bd1 (fX11_isIn F u2 (Int32.toInt64 a2) 0 2) fun r3 => if r3 = 0 then (bd2 (fX11_fail F u2 1) fun r46 u47 => some (r46, u47)) else bd1 (fX11_isIn F u2 (Int32.toInt64 a1) 0 40) fun r4 => if r4 = 0 then (bd2 (fX11_fail F u2 2) fun r44 u45 => some (r44, u45)) else bd1 (fX11_pack_2 F u2 0) fun u5 => nm (up u5 0 48 a0) fun u7 => bd2 (fX11_binding F u7) fun r8 u9 => bd1 (fX11_bitsOf F u9 r8) fun r10 => lp (fun (K12 : (St × Int32 × Int32 × Int32 × Int32) → Option (Int32 × St)) (v11 : St × Int32 × Int32 × Int32 × Int32) => if a1 ≤ v11.2.1 then (bd1 (fX11_unpack_2 F v11.1 0) fun u14 => if a2 = 0 then (some (v11.2.2.2.2, u14)) else if a2 = (1 : Int32) then (some (v11.2.2.2.1, u14)) else some (v11.2.2.1, u14)) else nm (up v11.1 0 31 ((v11.1 0 31) + 1)) fun u16 => jn (fun v17 : St × Int32 => jn (fun v20 : St × Int32 => jn (fun v23 : St => jn (fun v26 : St => bd2 (fX11_binding F v26) fun r29 u30 => bd1 (fX11_bitsOf F u30 r29) fun r31 => jn (fun v32 : Int32 => if r31 = (u30 5 1) then (nm (v11.2.2.1 + 1) fun x36 => K12 ((u30, v11.2.1 + 1, x36, v32, r31))) else nm (v11.2.2.1 + 0) fun x35 => K12 ((u30, v11.2.1 + 1, x35, v32, r31))) fun J33 => if v11.2.1 = 0 then (J33 r31) else J33 (if r31 < v11.2.2.2.1 then r31 else v11.2.2.2.1)) fun J27 => if v20.2 = (1 : Int32) then (nm (up v23 0 32 ((v23 0 32) ||| ((1 : Int32) <<< (v17.2 &&& 31)))) fun u38 => J27 u38) else J27 v23) fun J24 => if v20.2 = 0 then (bd1 (fX11_danceAgain F v20.1 v17.2) fun u39 => J24 u39) else J24 v20.1) fun J21 => if (v17.1 5 1) = 0 then (J21 ((v17.1, 2))) else bd2 (fX11_drawOf F v17.1 3) fun r40 u41 => J21 ((u41, r40))) fun J18 => if (u16 5 1) = 0 then (J18 ((u16, 0))) else bd2 (fX11_drawOf F u16 (u16 5 1)) fun r42 u43 => J18 ((u43, r42))) F ((u9, 0, 0, r10, r10))
set_option maxRecDepth 20000 in
theorem wfX11_century {X : XT} {D : va_G} {cI cT : ClassId} {ad : Nat → Nat} {F : Nat} {σ : St} {a0 : Int32} {a1 : Int32} {a2 : Int32} {r : Int32} {σ' : St} (C : Cx X (gM D cI cT ad) cX11_century 10 RX11 7 162 0) (hr : RetI X (gM D cI cT ad) cX11_century 10 0 r σ') (h : fX11_century F σ a0 a1 a2 = some (r, σ')) : WP X (gM D cI cT ad) 10 0 0 σ [(0, .ref (ad 0)), (1, .int a0), (2, .int a1), (3, .int a2)] [] := by
  unfold fX11_century at h
  refine w_aload_n C dX11_century_0 rfl 0 rfl ?_
  refine w_iconst C 0 dX11_century_1 rfl (by decide) ?_
  refine w_put C 0 4 0 (Nat.le_of_ble_eq_true rfl) rfl rfl inB_X11 tyX11_ok nmX11 (by decide) tw6_165 rfl rfl rfl (Nat.le_of_ble_eq_true rfl) rfl dX11_century_2 rfl ?_
  refine w_nst h (fun u2 h => ?_)
  refine w_iload_n C dX11_century_5 rfl 3 rfl ?_
  refine w_i2l C dX11_century_6 rfl ?_
  refine w_lconst C 0 dX11_century_7 rfl (by decide) ?_
  refine w_ldc2 C (2) dX11_century_8 rfl tw8_124 ?_
  refine bd1_w h (fun r3 hc h => ?_)
  refine w_callSi C (n := 3) (As := [.long (Int32.toInt64 a2), .long 0, .long 2]) (st := []) (cfX11_isIn D cI cT ad (l := X.2.1) C.2.2.1 hc) tw8_99 cs_X11_isIn (by decide +kernel) ⟨Nat.le_of_ble_eq_true rfl, Nat.le_of_ble_eq_true rfl⟩ (by decide) rfl rfl (Nat.le_of_ble_eq_true rfl) dX11_century_11 rfl ?_
  refine w_if_ne C (qt := 23) dX11_century_14 (by decide) rfl h (fun _ h => ?_) (fun _ h => ?_)
  · refine w_iload_n C dX11_century_23 rfl 2 rfl ?_
    refine w_i2l C dX11_century_24 rfl ?_
    refine w_lconst C 0 dX11_century_25 rfl (by decide) ?_
    refine w_ldc2 C (40) dX11_century_26 rfl tw9_49 ?_
    refine bd1_w h (fun r4 hc h => ?_)
    refine w_callSi C (n := 3) (As := [.long (Int32.toInt64 a1), .long 0, .long 40]) (st := []) (cfX11_isIn D cI cT ad (l := X.2.1) C.2.2.1 hc) tw8_99 cs_X11_isIn (by decide +kernel) ⟨Nat.le_of_ble_eq_true rfl, Nat.le_of_ble_eq_true rfl⟩ (by decide) rfl rfl (Nat.le_of_ble_eq_true rfl) dX11_century_29 rfl ?_
    refine w_if_ne C (qt := 41) dX11_century_32 (by decide) rfl h (fun _ h => ?_) (fun _ h => ?_)
    · refine w_aload_n C dX11_century_41 rfl 0 rfl ?_
      refine w_aload_n C dX11_century_42 rfl 0 rfl ?_
      refine w_get C 0 49 (Nat.le_of_ble_eq_true rfl) rfl rfl inB_X11 (by decide) tw6_210 rfl dX11_century_43 rfl ?_
      refine w_iconst C 0 dX11_century_46 rfl (by decide) ?_
      refine bd1_w h (fun u5 hc h => ?_)
      refine w_callVv C (n := 2) (As := [.ref (ad 33), .int 0]) (st := []) 0 (Nat.le_of_ble_eq_true rfl) rfl rfl (cfX11_pack_2 D cI cT ad (l := X.2.1) C.2.2.1 hc) tw8_158 cy_X11_pack (by decide +kernel) ⟨Nat.le_of_ble_eq_true rfl, Nat.le_of_ble_eq_true rfl⟩ (by decide) rfl rfl (Nat.le_of_ble_eq_true rfl) dX11_century_47 rfl ?_
      refine w_aload_n C dX11_century_50 rfl 0 rfl ?_
      refine w_iload_n C dX11_century_51 rfl 1 rfl ?_
      refine w_put C 0 48 a0 (Nat.le_of_ble_eq_true rfl) rfl rfl inB_X11 tyX11_ok nmX11 (by decide) tw6_209 rfl rfl rfl (Nat.le_of_ble_eq_true rfl) rfl dX11_century_52 rfl ?_
      refine w_nst h (fun u7 h => ?_)
      refine w_aload_n C dX11_century_55 rfl 0 rfl ?_
      refine bd2_w h (fun r8 u9 hc h => ?_)
      refine w_callVi C (n := 0) (As := []) (st := []) 0 (Nat.le_of_ble_eq_true rfl) rfl rfl (cfX11_binding D cI cT ad (l := X.2.1) C.2.2.1 hc) tw8_1 cy_X11_binding (by decide +kernel) ⟨Nat.le_of_ble_eq_true rfl, Nat.le_of_ble_eq_true rfl⟩ (by decide) rfl rfl (Nat.le_of_ble_eq_true rfl) dX11_century_56 rfl ?_
      refine bd1_w h (fun r10 hc h => ?_)
      refine w_callSi C (n := 1) (As := [.int r8]) (st := []) (cfX11_bitsOf D cI cT ad (l := X.2.1) C.2.2.1 hc) tw8_224 cs_X11_bitsOf (by decide +kernel) ⟨Nat.le_of_ble_eq_true rfl, Nat.le_of_ble_eq_true rfl⟩ (by decide) rfl rfl (Nat.le_of_ble_eq_true rfl) dX11_century_59 rfl ?_
      refine w_istore C [(4, .int r10), (0, .ref (ad 0)), (1, .int a0), (2, .int a1), (3, .int a2)] dX11_century_62 rfl (by decide) rfl ?_
      refine w_iload C dX11_century_64 rfl 0 rfl ?_
      refine w_istore C [(5, .int r10), (4, .int r10), (0, .ref (ad 0)), (1, .int a0), (2, .int a1), (3, .int a2)] dX11_century_66 rfl (by decide) rfl ?_
      refine w_iconst C 0 dX11_century_68 rfl (by decide) ?_
      refine w_istore C [(6, .int 0), (5, .int r10), (4, .int r10), (0, .ref (ad 0)), (1, .int a0), (2, .int a1), (3, .int a2)] dX11_century_69 rfl (by decide) rfl ?_
      refine w_iconst C 0 dX11_century_71 rfl (by decide) ?_
      refine w_istore C [(7, .int 0), (6, .int 0), (5, .int r10), (4, .int r10), (0, .ref (ad 0)), (1, .int a0), (2, .int a1), (3, .int a2)] dX11_century_72 rfl (by decide) rfl ?_
      refine w_sub (lv' := [(7, .int 0), (6, .int 0), (5, .int r10), (4, .int r10), (0, .ref (ad 0)), (2, .int a1), (3, .int a2)]) [0, 1, 2, 3, 4, 6, 7] rfl ?_
      refine lp_w (fun v11 : St × Int32 × Int32 × Int32 × Int32 => WP X (gM D cI cT ad) 10 0 74 v11.1 [(7, .int v11.2.1), (6, .int v11.2.2.1), (5, .int v11.2.2.2.1), (4, .int v11.2.2.2.2), (0, .ref (ad 0)), (2, .int a1), (3, .int a2)] []) (fun K12 hK13 v11 h => ?_) F _ h
      refine w_iload C dX11_century_74 rfl 0 rfl ?_
      refine w_iload_n C dX11_century_76 rfl 5 rfl ?_
      refine w_icmp_ge C (qt := 220) dX11_century_77 (by decide) rfl h (fun _ h => ?_) (fun _ h => ?_)
      · refine w_aload_n C dX11_century_220 rfl 4 rfl ?_
        refine w_aload_n C dX11_century_221 rfl 4 rfl ?_
        refine w_get C 0 49 (Nat.le_of_ble_eq_true rfl) rfl rfl inB_X11 (by decide) tw6_210 rfl dX11_century_222 rfl ?_
        refine w_iconst C 0 dX11_century_225 rfl (by decide) ?_
        refine bd1_w h (fun u14 hc h => ?_)
        refine w_callVv C (n := 2) (As := [.ref (ad 33), .int 0]) (st := []) 0 (Nat.le_of_ble_eq_true rfl) rfl rfl (cfX11_unpack_2 D cI cT ad (l := X.2.1) C.2.2.1 hc) tw8_192 cy_X11_unpack (by decide +kernel) ⟨Nat.le_of_ble_eq_true rfl, Nat.le_of_ble_eq_true rfl⟩ (by decide) rfl rfl (Nat.le_of_ble_eq_true rfl) dX11_century_226 rfl ?_
        refine w_iload_n C dX11_century_229 rfl 6 rfl ?_
        refine w_if_ne C (qt := 238) dX11_century_230 (by decide) rfl h (fun _ h => ?_) (fun _ h => ?_)
        · refine w_iload_n C dX11_century_238 rfl 6 rfl ?_
          refine w_iconst C 1 dX11_century_239 rfl (by decide) ?_
          refine w_icmp_ne C (qt := 248) dX11_century_240 (by decide) rfl h (fun _ h => ?_) (fun _ h => ?_)
          · refine w_iload C dX11_century_248 rfl 1 rfl ?_
            exact w_ri2 hr h (by decide) dX11_century_250
          · refine w_iload C dX11_century_243 rfl 2 rfl ?_
            refine w_goto (q := 250) C dX11_century_245 (by decide) ?_
            exact w_ri2 hr h (by decide) dX11_century_250
        · refine w_iload C dX11_century_233 rfl 3 rfl ?_
          refine w_goto (q := 250) C dX11_century_235 (by decide) ?_
          exact w_ri2 hr h (by decide) dX11_century_250
      · refine w_aload_n C dX11_century_80 rfl 4 rfl ?_
        refine w_dup C rfl dX11_century_81 rfl ?_
        refine w_get C 0 31 (Nat.le_of_ble_eq_true rfl) rfl rfl inB_X11 (by decide) tw6_192 rfl dX11_century_82 rfl ?_
        refine w_iconst C 1 dX11_century_85 rfl (by decide) ?_
        refine w_iadd C dX11_century_86 rfl ?_
        refine w_put C 0 31 ((v11.1 0 31) + 1) (Nat.le_of_ble_eq_true rfl) rfl rfl inB_X11 tyX11_ok nmX11 (by decide) tw6_192 rfl rfl rfl (Nat.le_of_ble_eq_true rfl) rfl dX11_century_87 rfl ?_
        refine w_nst h (fun u16 h => ?_)
        refine w_aload_n C dX11_century_90 rfl 4 rfl ?_
        refine w_get C 0 5 (Nat.le_of_ble_eq_true rfl) rfl rfl inB_X11 (by decide) tw6_166 rfl dX11_century_91 rfl ?_
        refine w_iconst C 1 dX11_century_94 rfl (by decide) ?_
        refine w_ialdc C 5 8 0 1 (Nat.le_of_ble_eq_true rfl) (fun _ => rfl) rfl (by decide) (by show ¬ (_ ∨ _); decide) dX11_century_95 rfl ?_
        refine jn_w (fun v17 : St × Int32 => WP X (gM D cI cT ad) 10 0 113 v17.1 [(7, .int v11.2.1), (6, .int v11.2.2.1), (5, .int v11.2.2.2.1), (0, .ref (ad 0)), (2, .int a1), (3, .int a2)] [.int v17.2]) h (fun v17 h => ?_) (fun J18 hJ19 h => ?_)
        · refine w_istore C [(8, .int v17.2), (7, .int v11.2.1), (6, .int v11.2.2.1), (5, .int v11.2.2.2.1), (0, .ref (ad 0)), (2, .int a1), (3, .int a2)] dX11_century_113 rfl (by decide) rfl ?_
          refine w_aload_n C dX11_century_115 rfl 4 rfl ?_
          refine w_get C 0 5 (Nat.le_of_ble_eq_true rfl) rfl rfl inB_X11 (by decide) tw6_166 rfl dX11_century_116 rfl ?_
          refine w_iconst C 1 dX11_century_119 rfl (by decide) ?_
          refine w_ialdc C 5 8 0 1 (Nat.le_of_ble_eq_true rfl) (fun _ => rfl) rfl (by decide) (by show ¬ (_ ∨ _); decide) dX11_century_120 rfl ?_
          refine jn_w (fun v20 : St × Int32 => WP X (gM D cI cT ad) 10 0 133 v20.1 [(8, .int v17.2), (7, .int v11.2.1), (6, .int v11.2.2.1), (5, .int v11.2.2.2.1), (0, .ref (ad 0)), (2, .int a1), (3, .int a2)] [.int v20.2]) h (fun v20 h => ?_) (fun J21 hJ22 h => ?_)
          · refine w_istore C [(9, .int v20.2), (8, .int v17.2), (7, .int v11.2.1), (6, .int v11.2.2.1), (5, .int v11.2.2.2.1), (0, .ref (ad 0)), (2, .int a1), (3, .int a2)] dX11_century_133 rfl (by decide) rfl ?_
            refine w_iload C dX11_century_135 rfl 0 rfl ?_
            refine jn_w (fun v23 : St => WP X (gM D cI cT ad) 10 0 146 v23 [(9, .int v20.2), (8, .int v17.2), (7, .int v11.2.1), (6, .int v11.2.2.1), (5, .int v11.2.2.2.1), (0, .ref (ad 0)), (2, .int a1), (3, .int a2)] []) h (fun v23 h => ?_) (fun J24 hJ25 h => ?_)
            · refine w_iload C dX11_century_146 rfl 0 rfl ?_
              refine w_iconst C 1 dX11_century_148 rfl (by decide) ?_
              refine jn_w (fun v26 : St => WP X (gM D cI cT ad) 10 0 165 v26 [(7, .int v11.2.1), (6, .int v11.2.2.1), (5, .int v11.2.2.2.1), (0, .ref (ad 0)), (2, .int a1), (3, .int a2)] []) h (fun v26 h => ?_) (fun J27 hJ28 h => ?_)
              · refine w_aload_n C dX11_century_165 rfl 3 rfl ?_
                refine bd2_w h (fun r29 u30 hc h => ?_)
                refine w_callVi C (n := 0) (As := []) (st := []) 0 (Nat.le_of_ble_eq_true rfl) rfl rfl (cfX11_binding D cI cT ad (l := X.2.1) C.2.2.1 hc) tw8_1 cy_X11_binding (by decide +kernel) ⟨Nat.le_of_ble_eq_true rfl, Nat.le_of_ble_eq_true rfl⟩ (by decide) rfl rfl (Nat.le_of_ble_eq_true rfl) dX11_century_166 rfl ?_
                refine bd1_w h (fun r31 hc h => ?_)
                refine w_callSi C (n := 1) (As := [.int r29]) (st := []) (cfX11_bitsOf D cI cT ad (l := X.2.1) C.2.2.1 hc) tw8_224 cs_X11_bitsOf (by decide +kernel) ⟨Nat.le_of_ble_eq_true rfl, Nat.le_of_ble_eq_true rfl⟩ (by decide) rfl rfl (Nat.le_of_ble_eq_true rfl) dX11_century_169 rfl ?_
                refine w_istore C [(4, .int r31), (7, .int v11.2.1), (6, .int v11.2.2.1), (5, .int v11.2.2.2.1), (0, .ref (ad 0)), (2, .int a1), (3, .int a2)] dX11_century_172 rfl (by decide) rfl ?_
                refine w_iload C dX11_century_174 rfl 1 rfl ?_
                refine jn_w (fun v32 : Int32 => WP X (gM D cI cT ad) 10 0 191 u30 [(4, .int r31), (7, .int v11.2.1), (6, .int v11.2.2.1), (0, .ref (ad 0)), (2, .int a1), (3, .int a2)] [.int v32]) h (fun v32 h => ?_) (fun J33 hJ34 h => ?_)
                · refine w_istore C [(5, .int v32), (4, .int r31), (7, .int v11.2.1), (6, .int v11.2.2.1), (0, .ref (ad 0)), (2, .int a1), (3, .int a2)] dX11_century_191 rfl (by decide) rfl ?_
                  refine w_iload C dX11_century_193 rfl 3 rfl ?_
                  refine w_iload C dX11_century_195 rfl 1 rfl ?_
                  refine w_aload_n C dX11_century_197 rfl 4 rfl ?_
                  refine w_get C 0 5 (Nat.le_of_ble_eq_true rfl) rfl rfl inB_X11 (by decide) tw6_166 rfl dX11_century_198 rfl ?_
                  refine w_iconst C 1 dX11_century_201 rfl (by decide) ?_
                  refine w_ialdc C 5 8 0 1 (Nat.le_of_ble_eq_true rfl) (fun _ => rfl) rfl (by decide) (by show ¬ (_ ∨ _); decide) dX11_century_202 rfl ?_
                  refine w_icmp_ne C (qt := 210) dX11_century_203 (by decide) rfl h (fun _ h => ?_) (fun _ h => ?_)
                  · refine w_iconst C 0 dX11_century_210 rfl (by decide) ?_
                    refine w_iadd C dX11_century_211 rfl ?_
                    refine w_nm h (fun x35 h => ?_)
                    refine w_istore C [(6, .int x35), (5, .int v32), (4, .int r31), (7, .int v11.2.1), (0, .ref (ad 0)), (2, .int a1), (3, .int a2)] dX11_century_212 rfl (by decide) rfl ?_
                    refine w_iinc (j := 3) C (v11.2.1 + 1) [(7, .int (v11.2.1 + 1)), (6, .int x35), (5, .int v32), (4, .int r31), (0, .ref (ad 0)), (2, .int a1), (3, .int a2)] dX11_century_214 rfl rfl rfl (by decide) rfl ?_
                    refine w_goto (q := 74) C dX11_century_217 (by decide) ?_
                    exact w_sub (lv' := [(7, .int (v11.2.1 + 1)), (6, .int x35), (5, .int v32), (4, .int r31), (0, .ref (ad 0)), (2, .int a1), (3, .int a2)]) [0, 1, 2, 3, 4, 5, 6] rfl (hK13 ((u30, v11.2.1 + 1, x35, v32, r31)) h)
                  · refine w_iconst C 1 dX11_century_206 rfl (by decide) ?_
                    refine w_goto (q := 211) C dX11_century_207 (by decide) ?_
                    refine w_iadd C dX11_century_211 rfl ?_
                    refine w_nm h (fun x36 h => ?_)
                    refine w_istore C [(6, .int x36), (5, .int v32), (4, .int r31), (7, .int v11.2.1), (0, .ref (ad 0)), (2, .int a1), (3, .int a2)] dX11_century_212 rfl (by decide) rfl ?_
                    refine w_iinc (j := 3) C (v11.2.1 + 1) [(7, .int (v11.2.1 + 1)), (6, .int x36), (5, .int v32), (4, .int r31), (0, .ref (ad 0)), (2, .int a1), (3, .int a2)] dX11_century_214 rfl rfl rfl (by decide) rfl ?_
                    refine w_goto (q := 74) C dX11_century_217 (by decide) ?_
                    exact w_sub (lv' := [(7, .int (v11.2.1 + 1)), (6, .int x36), (5, .int v32), (4, .int r31), (0, .ref (ad 0)), (2, .int a1), (3, .int a2)]) [0, 1, 2, 3, 4, 5, 6] rfl (hK13 ((u30, v11.2.1 + 1, x36, v32, r31)) h)
                · refine w_if_ne C (qt := 184) dX11_century_176 (by decide) rfl h (fun _ h => ?_) (fun _ h => ?_)
                  · refine w_iload C dX11_century_184 rfl 3 rfl ?_
                    refine w_iload C dX11_century_186 rfl 0 rfl ?_
                    refine w_mmin C (all4 tw7_136 tw3_112 tw1_17 tw3_113) ⟨Nat.le_of_ble_eq_true rfl, Nat.le_of_ble_eq_true rfl⟩ (by decide) dX11_century_188 rfl ?_
                    exact w_sub (lv' := [(4, .int r31), (7, .int v11.2.1), (6, .int v11.2.2.1), (0, .ref (ad 0)), (2, .int a1), (3, .int a2)]) [0, 1, 2, 4, 5, 6] rfl (hJ34 (if r31 < v11.2.2.2.1 then r31 else v11.2.2.2.1) h)
                  · refine w_iload C dX11_century_179 rfl 0 rfl ?_
                    refine w_goto (q := 191) C dX11_century_181 (by decide) ?_
                    exact w_sub (lv' := [(4, .int r31), (7, .int v11.2.1), (6, .int v11.2.2.1), (0, .ref (ad 0)), (2, .int a1), (3, .int a2)]) [0, 1, 2, 4, 5, 6] rfl (hJ34 r31 h)
              · refine w_icmp_ne C (qt := 165) dX11_century_149 (by decide) rfl h (fun _ h => ?_) (fun _ h => ?_)
                · exact w_sub (lv' := [(7, .int v11.2.1), (6, .int v11.2.2.1), (5, .int v11.2.2.2.1), (0, .ref (ad 0)), (2, .int a1), (3, .int a2)]) [2, 3, 4, 5, 6, 7] rfl (hJ28 v23 h)
                · refine w_aload_n C dX11_century_152 rfl 5 rfl ?_
                  refine w_dup C rfl dX11_century_153 rfl ?_
                  refine w_get C 0 32 (Nat.le_of_ble_eq_true rfl) rfl rfl inB_X11 (by decide) tw6_193 rfl dX11_century_154 rfl ?_
                  refine w_iconst C 1 dX11_century_157 rfl (by decide) ?_
                  refine w_iload C dX11_century_158 rfl 1 rfl ?_
                  refine w_ishl C dX11_century_160 rfl ?_
                  refine w_ior C dX11_century_161 rfl ?_
                  refine w_put C 0 32 ((v23 0 32) ||| ((1 : Int32) <<< (v17.2 &&& 31))) (Nat.le_of_ble_eq_true rfl) rfl rfl inB_X11 tyX11_ok nmX11 (by decide) tw6_193 rfl rfl rfl (Nat.le_of_ble_eq_true rfl) rfl dX11_century_162 rfl ?_
                  refine w_nst h (fun u38 h => ?_)
                  exact w_sub (lv' := [(7, .int v11.2.1), (6, .int v11.2.2.1), (5, .int v11.2.2.2.1), (0, .ref (ad 0)), (2, .int a1), (3, .int a2)]) [2, 3, 4, 5, 6, 7] rfl (hJ28 u38 h)
            · refine w_if_ne C (qt := 146) dX11_century_137 (by decide) rfl h (fun _ h => ?_) (fun _ h => ?_)
              · exact w_sub (lv' := [(9, .int v20.2), (8, .int v17.2), (7, .int v11.2.1), (6, .int v11.2.2.1), (5, .int v11.2.2.2.1), (0, .ref (ad 0)), (2, .int a1), (3, .int a2)]) [0, 1, 2, 3, 4, 5, 6, 7] rfl (hJ25 v20.1 h)
              · refine w_aload_n C dX11_century_140 rfl 5 rfl ?_
                refine w_iload C dX11_century_141 rfl 1 rfl ?_
                refine bd1_w h (fun u39 hc h => ?_)
                refine w_callVv C (n := 1) (As := [.int v17.2]) (st := []) 0 (Nat.le_of_ble_eq_true rfl) rfl rfl (cfX11_danceAgain D cI cT ad (l := X.2.1) C.2.2.1 hc) tw8_166 cy_X11_danceAgain (by decide +kernel) ⟨Nat.le_of_ble_eq_true rfl, Nat.le_of_ble_eq_true rfl⟩ (by decide) rfl rfl (Nat.le_of_ble_eq_true rfl) dX11_century_143 rfl ?_
                exact w_sub (lv' := [(9, .int v20.2), (8, .int v17.2), (7, .int v11.2.1), (6, .int v11.2.2.1), (5, .int v11.2.2.2.1), (0, .ref (ad 0)), (2, .int a1), (3, .int a2)]) [0, 1, 2, 3, 4, 5, 6, 7] rfl (hJ25 u39 h)
          · refine w_if_ne C (qt := 128) dX11_century_121 (by decide) rfl h (fun _ h => ?_) (fun _ h => ?_)
            · refine w_aload_n C dX11_century_128 rfl 4 rfl ?_
              refine w_iconst C 3 dX11_century_129 rfl (by decide) ?_
              refine bd2_w h (fun r40 u41 hc h => ?_)
              refine w_callVi C (n := 1) (As := [.int 3]) (st := []) 0 (Nat.le_of_ble_eq_true rfl) rfl rfl (cfX11_drawOf D cI cT ad (l := X.2.1) C.2.2.1 hc) tw9_50 cy_X11_drawOf (by decide +kernel) ⟨Nat.le_of_ble_eq_true rfl, Nat.le_of_ble_eq_true rfl⟩ (by decide) rfl rfl (Nat.le_of_ble_eq_true rfl) dX11_century_130 rfl ?_
              exact w_sub (lv' := [(8, .int v17.2), (7, .int v11.2.1), (6, .int v11.2.2.1), (5, .int v11.2.2.2.1), (0, .ref (ad 0)), (2, .int a1), (3, .int a2)]) [0, 1, 2, 3, 4, 5, 6] rfl (hJ22 ((u41, r40)) h)
            · refine w_iconst C 2 dX11_century_124 rfl (by decide) ?_
              refine w_goto (q := 133) C dX11_century_125 (by decide) ?_
              exact w_sub (lv' := [(8, .int v17.2), (7, .int v11.2.1), (6, .int v11.2.2.1), (5, .int v11.2.2.2.1), (0, .ref (ad 0)), (2, .int a1), (3, .int a2)]) [0, 1, 2, 3, 4, 5, 6] rfl (hJ22 ((v17.1, 2)) h)
        · refine w_if_ne C (qt := 103) dX11_century_96 (by decide) rfl h (fun _ h => ?_) (fun _ h => ?_)
          · refine w_aload_n C dX11_century_103 rfl 4 rfl ?_
            refine w_aload_n C dX11_century_104 rfl 4 rfl ?_
            refine w_get C 0 5 (Nat.le_of_ble_eq_true rfl) rfl rfl inB_X11 (by decide) tw6_166 rfl dX11_century_105 rfl ?_
            refine w_iconst C 1 dX11_century_108 rfl (by decide) ?_
            refine w_ialdc C 5 8 0 1 (Nat.le_of_ble_eq_true rfl) (fun _ => rfl) rfl (by decide) (by show ¬ (_ ∨ _); decide) dX11_century_109 rfl ?_
            refine bd2_w h (fun r42 u43 hc h => ?_)
            refine w_callVi C (n := 1) (As := [.int (u16 5 1)]) (st := []) 0 (Nat.le_of_ble_eq_true rfl) rfl rfl (cfX11_drawOf D cI cT ad (l := X.2.1) C.2.2.1 hc) tw9_50 cy_X11_drawOf (by decide +kernel) ⟨Nat.le_of_ble_eq_true rfl, Nat.le_of_ble_eq_true rfl⟩ (by decide) rfl rfl (Nat.le_of_ble_eq_true rfl) dX11_century_110 rfl ?_
            exact w_sub (lv' := [(7, .int v11.2.1), (6, .int v11.2.2.1), (5, .int v11.2.2.2.1), (0, .ref (ad 0)), (2, .int a1), (3, .int a2)]) [0, 1, 2, 4, 5, 6] rfl (hJ19 ((u43, r42)) h)
          · refine w_iconst C 0 dX11_century_99 rfl (by decide) ?_
            refine w_goto (q := 113) C dX11_century_100 (by decide) ?_
            exact w_sub (lv' := [(7, .int v11.2.1), (6, .int v11.2.2.1), (5, .int v11.2.2.2.1), (0, .ref (ad 0)), (2, .int a1), (3, .int a2)]) [0, 1, 2, 4, 5, 6] rfl (hJ19 ((u16, 0)) h)
    · refine w_aload_n C dX11_century_35 rfl 0 rfl ?_
      refine w_iconst C 2 dX11_century_36 rfl (by decide) ?_
      refine bd2_w h (fun r44 u45 hc h => ?_)
      refine w_callVi C (n := 1) (As := [.int 2]) (st := []) 0 (Nat.le_of_ble_eq_true rfl) rfl rfl (cfX11_fail D cI cT ad (l := X.2.1) C.2.2.1 hc) tw7_117 cy_X11_fail (by decide +kernel) ⟨Nat.le_of_ble_eq_true rfl, Nat.le_of_ble_eq_true rfl⟩ (by decide) rfl rfl (Nat.le_of_ble_eq_true rfl) dX11_century_37 rfl ?_
      exact w_ri2 hr h (by decide) dX11_century_40
  · refine w_aload_n C dX11_century_17 rfl 0 rfl ?_
    refine w_iconst C 1 dX11_century_18 rfl (by decide) ?_
    refine bd2_w h (fun r46 u47 hc h => ?_)
    refine w_callVi C (n := 1) (As := [.int 1]) (st := []) 0 (Nat.le_of_ble_eq_true rfl) rfl rfl (cfX11_fail D cI cT ad (l := X.2.1) C.2.2.1 hc) tw7_117 cy_X11_fail (by decide +kernel) ⟨Nat.le_of_ble_eq_true rfl, Nat.le_of_ble_eq_true rfl⟩ (by decide) rfl rfl (Nat.le_of_ble_eq_true rfl) dX11_century_19 rfl ?_
    exact w_ri2 hr h (by decide) dX11_century_22
theorem cfX11_century (D : va_G) (cI cT : ClassId) (ad : Nat → Nat) {l : Launch} (had : gAp (gM D cI cT ad)) {F : Nat} {σ : St} {a0 : Int32} {a1 : Int32} {a2 : Int32} {r : Int32} {σ' : St} (h : fX11_century F σ a0 a1 a2 = some (r, σ')) : MI l yX11_century (wB yX11_century cX11_century 10 (some .int)) 7 162 (gM D cI cT ad) [.ref (ad 0), .int a0, .int a1, .int a2] σ r σ' := mk_MI had (by decide +kernel) (Nat.le_of_ble_eq_true rfl) (fun X hX C hr => wfX11_century C hr h)

def fX11_pack_3 (F : Nat) (σ : St) (a1 : Int32) : Option St := ckI (a1) 138 (nm (up σ 34 (Int32.toNatClampNeg a1) (σ 0 31)) fun u1 => ckI (a1 + 1) 138 (nm (up u1 34 (Int32.toNatClampNeg (a1 + 1)) (u1 0 32)) fun u2 => nm (a1 + 2) fun x3 => lp (fun (K5 : (St × Int32) → Option St) (v4 : St × Int32) => if (8 : Int32) ≤ v4.2 then (lp (fun (K8 : (St × Int32) → Option St) (v7 : St × Int32) => if (80 : Int32) ≤ v7.2 then (lp (fun (K11 : (St × Int32) → Option St) (v10 : St × Int32) => if (48 : Int32) ≤ v10.2 then (some v10.1) else ckI (v10.2) 48 (ckI (((x3 + 8) + 80) + v10.2) 138 (nm (up v10.1 34 (Int32.toNatClampNeg (((x3 + 8) + 80) + v10.2)) (v10.1 19 (Int32.toNatClampNeg v10.2))) fun u13 => K11 ((u13, v10.2 + 1))))) F ((v7.1, 0))) else ckI (v7.2) 160 (ckI ((x3 + 8) + v7.2) 138 (nm (up v7.1 34 (Int32.toNatClampNeg ((x3 + 8) + v7.2)) (v7.1 13 (Int32.toNatClampNeg v7.2))) fun u14 => K8 ((u14, v7.2 + 1))))) F ((v4.1, 0))) else ckI (v4.2) 8 (ckI (x3 + v4.2) 138 (nm (up v4.1 34 (Int32.toNatClampNeg (x3 + v4.2)) (v4.1 18 (Int32.toNatClampNeg v4.2))) fun u15 => K5 ((u15, v4.2 + 1))))) F ((u2, 0))))
set_option maxRecDepth 20000 in
theorem wfX11_pack_3 {X : XT} {D : va_G} {cI cT : ClassId} {ad : Nat → Nat} {F : Nat} {σ : St} {a1 : Int32} {σ' : St} (C : Cx X (gM D cI cT ad) cX11_pack 5 RX11 0 0 0) (hr : RetV X (gM D cI cT ad) cX11_pack 5 0 σ') (h : fX11_pack_3 F σ a1 = some σ') : WP X (gM D cI cT ad) 5 0 0 σ [(0, .ref (ad 0)), (1, .ref (ad 34)), (2, .int a1)] [] := by
  unfold fX11_pack_3 at h
  refine w_aload_n C dX11_pack_0 rfl 1 rfl ?_
  refine w_iload_n C dX11_pack_1 rfl 2 rfl ?_
  refine w_aload_n C dX11_pack_2 rfl 0 rfl ?_
  refine w_get C 0 31 (Nat.le_of_ble_eq_true rfl) rfl rfl inB_X11 (by decide) tw6_192 rfl dX11_pack_3 rfl ?_
  refine w_iast C 34 138 0 (Nat.le_of_ble_eq_true rfl) (fun _ => rfl) rfl h dX11_pack_6 rfl (fun h => ?_)
  refine w_nst h (fun u1 h => ?_)
  refine w_aload_n C dX11_pack_7 rfl 1 rfl ?_
  refine w_iload_n C dX11_pack_8 rfl 2 rfl ?_
  refine w_iconst C 1 dX11_pack_9 rfl (by decide) ?_
  refine w_iadd C dX11_pack_10 rfl ?_
  refine w_aload_n C dX11_pack_11 rfl 0 rfl ?_
  refine w_get C 0 32 (Nat.le_of_ble_eq_true rfl) rfl rfl inB_X11 (by decide) tw6_193 rfl dX11_pack_12 rfl ?_
  refine w_iast C 34 138 0 (Nat.le_of_ble_eq_true rfl) (fun _ => rfl) rfl h dX11_pack_15 rfl (fun h => ?_)
  refine w_nst h (fun u2 h => ?_)
  refine w_iload_n C dX11_pack_16 rfl 2 rfl ?_
  refine w_iconst C 2 dX11_pack_17 rfl (by decide) ?_
  refine w_iadd C dX11_pack_18 rfl ?_
  refine w_nm h (fun x3 h => ?_)
  refine w_istore_n C [(3, .int x3), (0, .ref (ad 0)), (1, .ref (ad 34)), (2, .int a1)] dX11_pack_19 rfl (by decide) rfl ?_
  refine w_iconst C 0 dX11_pack_20 rfl (by decide) ?_
  refine w_istore C [(4, .int 0), (3, .int x3), (0, .ref (ad 0)), (1, .ref (ad 34)), (2, .int a1)] dX11_pack_21 rfl (by decide) rfl ?_
  refine w_sub (lv' := [(4, .int 0), (3, .int x3), (0, .ref (ad 0)), (1, .ref (ad 34))]) [0, 1, 2, 3] rfl ?_
  refine lp_w (fun v4 : St × Int32 => WP X (gM D cI cT ad) 5 0 23 v4.1 [(4, .int v4.2), (3, .int x3), (0, .ref (ad 0)), (1, .ref (ad 34))] []) (fun K5 hK6 v4 h => ?_) F _ h
  refine w_iload C dX11_pack_23 rfl 0 rfl ?_
  refine w_bipush C 8 dX11_pack_25 rfl (by decide) ?_
  refine w_icmp_ge C (qt := 49) dX11_pack_27 (by decide) rfl h (fun _ h => ?_) (fun _ h => ?_)
  · refine w_iinc (j := 1) C (x3 + 8) [(3, .int (x3 + 8)), (4, .int v4.2), (0, .ref (ad 0)), (1, .ref (ad 34))] dX11_pack_49 rfl rfl rfl (by decide) rfl ?_
    refine w_iconst C 0 dX11_pack_52 rfl (by decide) ?_
    refine w_istore C [(4, .int 0), (3, .int (x3 + 8)), (0, .ref (ad 0)), (1, .ref (ad 34))] dX11_pack_53 rfl (by decide) rfl ?_
    refine w_sub (lv' := [(4, .int 0), (3, .int (x3 + 8)), (0, .ref (ad 0)), (1, .ref (ad 34))]) [0, 1, 2, 3] rfl ?_
    refine lp_w (fun v7 : St × Int32 => WP X (gM D cI cT ad) 5 0 55 v7.1 [(4, .int v7.2), (3, .int (x3 + 8)), (0, .ref (ad 0)), (1, .ref (ad 34))] []) (fun K8 hK9 v7 h => ?_) F _ h
    refine w_iload C dX11_pack_55 rfl 0 rfl ?_
    refine w_bipush C 80 dX11_pack_57 rfl (by decide) ?_
    refine w_icmp_ge C (qt := 81) dX11_pack_59 (by decide) rfl h (fun _ h => ?_) (fun _ h => ?_)
    · refine w_iinc (j := 1) C ((x3 + 8) + 80) [(3, .int ((x3 + 8) + 80)), (4, .int v7.2), (0, .ref (ad 0)), (1, .ref (ad 34))] dX11_pack_81 rfl rfl rfl (by decide) rfl ?_
      refine w_iconst C 0 dX11_pack_84 rfl (by decide) ?_
      refine w_istore C [(4, .int 0), (3, .int ((x3 + 8) + 80)), (0, .ref (ad 0)), (1, .ref (ad 34))] dX11_pack_85 rfl (by decide) rfl ?_
      refine w_sub (lv' := [(4, .int 0), (3, .int ((x3 + 8) + 80)), (0, .ref (ad 0)), (1, .ref (ad 34))]) [0, 1, 2, 3] rfl ?_
      refine lp_w (fun v10 : St × Int32 => WP X (gM D cI cT ad) 5 0 87 v10.1 [(4, .int v10.2), (3, .int ((x3 + 8) + 80)), (0, .ref (ad 0)), (1, .ref (ad 34))] []) (fun K11 hK12 v10 h => ?_) F _ h
      refine w_iload C dX11_pack_87 rfl 0 rfl ?_
      refine w_bipush C 48 dX11_pack_89 rfl (by decide) ?_
      refine w_icmp_ge C (qt := 113) dX11_pack_91 (by decide) rfl h (fun _ h => ?_) (fun _ h => ?_)
      · exact w_rv hr h (by decide) dX11_pack_113
      · refine w_aload_n C dX11_pack_94 rfl 3 rfl ?_
        refine w_iload_n C dX11_pack_95 rfl 1 rfl ?_
        refine w_iload C dX11_pack_96 rfl 0 rfl ?_
        refine w_iadd C dX11_pack_98 rfl ?_
        refine w_aload_n C dX11_pack_99 rfl 2 rfl ?_
        refine w_get C 0 29 (Nat.le_of_ble_eq_true rfl) rfl rfl inB_X11 (by decide) tw6_190 rfl dX11_pack_100 rfl ?_
        refine w_iload C dX11_pack_103 rfl 0 rfl ?_
        refine w_iald C 19 48 0 (Nat.le_of_ble_eq_true rfl) (fun _ => rfl) rfl h dX11_pack_105 rfl (fun h => ?_)
        refine w_iast C 34 138 0 (Nat.le_of_ble_eq_true rfl) (fun _ => rfl) rfl h dX11_pack_106 rfl (fun h => ?_)
        refine w_nst h (fun u13 h => ?_)
        refine w_iinc (j := 0) C (v10.2 + 1) [(4, .int (v10.2 + 1)), (3, .int ((x3 + 8) + 80)), (0, .ref (ad 0)), (1, .ref (ad 34))] dX11_pack_107 rfl rfl rfl (by decide) rfl ?_
        refine w_goto (q := 87) C dX11_pack_110 (by decide) ?_
        exact w_sub (lv' := [(4, .int (v10.2 + 1)), (3, .int ((x3 + 8) + 80)), (0, .ref (ad 0)), (1, .ref (ad 34))]) [0, 1, 2, 3] rfl (hK12 ((u13, v10.2 + 1)) h)
    · refine w_aload_n C dX11_pack_62 rfl 3 rfl ?_
      refine w_iload_n C dX11_pack_63 rfl 1 rfl ?_
      refine w_iload C dX11_pack_64 rfl 0 rfl ?_
      refine w_iadd C dX11_pack_66 rfl ?_
      refine w_aload_n C dX11_pack_67 rfl 2 rfl ?_
      refine w_get C 0 13 (Nat.le_of_ble_eq_true rfl) rfl rfl inB_X11 (by decide) tw6_174 rfl dX11_pack_68 rfl ?_
      refine w_iload C dX11_pack_71 rfl 0 rfl ?_
      refine w_iald C 13 160 0 (Nat.le_of_ble_eq_true rfl) (fun _ => rfl) rfl h dX11_pack_73 rfl (fun h => ?_)
      refine w_iast C 34 138 0 (Nat.le_of_ble_eq_true rfl) (fun _ => rfl) rfl h dX11_pack_74 rfl (fun h => ?_)
      refine w_nst h (fun u14 h => ?_)
      refine w_iinc (j := 0) C (v7.2 + 1) [(4, .int (v7.2 + 1)), (3, .int (x3 + 8)), (0, .ref (ad 0)), (1, .ref (ad 34))] dX11_pack_75 rfl rfl rfl (by decide) rfl ?_
      refine w_goto (q := 55) C dX11_pack_78 (by decide) ?_
      exact w_sub (lv' := [(4, .int (v7.2 + 1)), (3, .int (x3 + 8)), (0, .ref (ad 0)), (1, .ref (ad 34))]) [0, 1, 2, 3] rfl (hK9 ((u14, v7.2 + 1)) h)
  · refine w_aload_n C dX11_pack_30 rfl 3 rfl ?_
    refine w_iload_n C dX11_pack_31 rfl 1 rfl ?_
    refine w_iload C dX11_pack_32 rfl 0 rfl ?_
    refine w_iadd C dX11_pack_34 rfl ?_
    refine w_aload_n C dX11_pack_35 rfl 2 rfl ?_
    refine w_get C 0 28 (Nat.le_of_ble_eq_true rfl) rfl rfl inB_X11 (by decide) tw6_189 rfl dX11_pack_36 rfl ?_
    refine w_iload C dX11_pack_39 rfl 0 rfl ?_
    refine w_iald C 18 8 0 (Nat.le_of_ble_eq_true rfl) (fun _ => rfl) rfl h dX11_pack_41 rfl (fun h => ?_)
    refine w_iast C 34 138 0 (Nat.le_of_ble_eq_true rfl) (fun _ => rfl) rfl h dX11_pack_42 rfl (fun h => ?_)
    refine w_nst h (fun u15 h => ?_)
    refine w_iinc (j := 0) C (v4.2 + 1) [(4, .int (v4.2 + 1)), (3, .int x3), (0, .ref (ad 0)), (1, .ref (ad 34))] dX11_pack_43 rfl rfl rfl (by decide) rfl ?_
    refine w_goto (q := 23) C dX11_pack_46 (by decide) ?_
    exact w_sub (lv' := [(4, .int (v4.2 + 1)), (3, .int x3), (0, .ref (ad 0)), (1, .ref (ad 34))]) [0, 1, 2, 3] rfl (hK6 ((u15, v4.2 + 1)) h)
theorem cfX11_pack_3 (D : va_G) (cI cT : ClassId) (ad : Nat → Nat) {l : Launch} (had : gAp (gM D cI cT ad)) {F : Nat} {σ : St} {a1 : Int32} {σ' : St} (h : fX11_pack_3 F σ a1 = some σ') : MV l yX11_pack (wB yX11_pack cX11_pack 5 none) 0 0 (gM D cI cT ad) [.ref (ad 0), .ref (ad 34), .int a1] σ σ' := mk_MV had (by decide +kernel) (Nat.le_of_ble_eq_true rfl) (fun X hX C hr => wfX11_pack_3 C hr h)

def fX11_be (F : Nat) (σ : St) : Option St := lp (fun (K2 : (St × Int32) → Option St) (v1 : St × Int32) => if (5520 : Int32) ≤ v1.2 then (some v1.1) else ckI (v1.2) 5520 (ckI (v1.2) 5520 (nm (up v1.1 35 (Int32.toNatClampNeg v1.2) (v1.1 20 (Int32.toNatClampNeg v1.2))) fun u4 => K2 ((u4, v1.2 + 1))))) F ((σ, 0))
set_option maxRecDepth 20000 in
theorem wfX11_be {X : XT} {D : va_G} {cI cT : ClassId} {ad : Nat → Nat} {F : Nat} {σ : St}  {σ' : St} (C : Cx X (gM D cI cT ad) cX11_be 3 RX11 0 0 0) (hr : RetV X (gM D cI cT ad) cX11_be 3 0 σ') (h : fX11_be F σ = some σ') : WP X (gM D cI cT ad) 3 0 0 σ [(0, .ref (ad 35)), (1, .ref (ad 20))] [] := by
  unfold fX11_be at h
  refine w_iconst C 0 dX11_be_0 rfl (by decide) ?_
  refine w_istore_n C [(2, .int 0), (0, .ref (ad 35)), (1, .ref (ad 20))] dX11_be_1 rfl (by decide) rfl ?_
  refine w_sub (lv' := [(2, .int 0), (0, .ref (ad 35)), (1, .ref (ad 20))]) [0, 1, 2] rfl ?_
  refine lp_w (fun v1 : St × Int32 => WP X (gM D cI cT ad) 3 0 2 v1.1 [(2, .int v1.2), (0, .ref (ad 35)), (1, .ref (ad 20))] []) (fun K2 hK3 v1 h => ?_) F _ h
  refine w_iload_n C dX11_be_2 rfl 0 rfl ?_
  refine w_aload_n C dX11_be_3 rfl 1 rfl ?_
  refine w_alen C 35 5520 0 5520 (Nat.le_of_ble_eq_true rfl) (fun _ => rfl) rfl (by decide) dX11_be_4 rfl ?_
  refine w_icmp_ge C (qt := 20) dX11_be_5 (by decide) rfl h (fun _ h => ?_) (fun _ h => ?_)
  · exact w_rv hr h (by decide) dX11_be_20
  · refine w_aload_n C dX11_be_8 rfl 1 rfl ?_
    refine w_iload_n C dX11_be_9 rfl 0 rfl ?_
    refine w_aload_n C dX11_be_10 rfl 2 rfl ?_
    refine w_iload_n C dX11_be_11 rfl 0 rfl ?_
    refine w_iald C 20 5520 0 (Nat.le_of_ble_eq_true rfl) (fun _ => rfl) rfl h dX11_be_12 rfl (fun h => ?_)
    refine w_iast C 35 5520 0 (Nat.le_of_ble_eq_true rfl) (fun _ => rfl) rfl h dX11_be_13 rfl (fun h => ?_)
    refine w_nst h (fun u4 h => ?_)
    refine w_iinc (j := 0) C (v1.2 + 1) [(2, .int (v1.2 + 1)), (0, .ref (ad 35)), (1, .ref (ad 20))] dX11_be_14 rfl rfl rfl (by decide) rfl ?_
    refine w_goto (q := 2) C dX11_be_17 (by decide) ?_
    exact w_sub (lv' := [(2, .int (v1.2 + 1)), (0, .ref (ad 35)), (1, .ref (ad 20))]) [0, 1, 2] rfl (hK3 ((u4, v1.2 + 1)) h)
theorem cfX11_be (D : va_G) (cI cT : ClassId) (ad : Nat → Nat) {l : Launch} (had : gAp (gM D cI cT ad)) {F : Nat} {σ : St}  {σ' : St} (h : fX11_be F σ = some σ') : MV l yX11_be (wB yX11_be cX11_be 3 none) 0 0 (gM D cI cT ad) [.ref (ad 35), .ref (ad 20)] σ σ' := mk_MV had (by decide +kernel) (Nat.le_of_ble_eq_true rfl) (fun X hX C hr => wfX11_be C hr h)

def fX11_be_2 (F : Nat) (σ : St) : Option St := lp (fun (K2 : (St × Int32) → Option St) (v1 : St × Int32) => if (8 : Int32) ≤ v1.2 then (some v1.1) else ckI (v1.2) 8 (ckI (v1.2) 8 (nm (up v1.1 36 (Int32.toNatClampNeg v1.2) (v1.1 28 (Int32.toNatClampNeg v1.2))) fun u4 => K2 ((u4, v1.2 + 1))))) F ((σ, 0))
set_option maxRecDepth 20000 in
theorem wfX11_be_2 {X : XT} {D : va_G} {cI cT : ClassId} {ad : Nat → Nat} {F : Nat} {σ : St}  {σ' : St} (C : Cx X (gM D cI cT ad) cX11_be 3 RX11 0 0 0) (hr : RetV X (gM D cI cT ad) cX11_be 3 0 σ') (h : fX11_be_2 F σ = some σ') : WP X (gM D cI cT ad) 3 0 0 σ [(0, .ref (ad 36)), (1, .ref (ad 28))] [] := by
  unfold fX11_be_2 at h
  refine w_iconst C 0 dX11_be_0 rfl (by decide) ?_
  refine w_istore_n C [(2, .int 0), (0, .ref (ad 36)), (1, .ref (ad 28))] dX11_be_1 rfl (by decide) rfl ?_
  refine w_sub (lv' := [(2, .int 0), (0, .ref (ad 36)), (1, .ref (ad 28))]) [0, 1, 2] rfl ?_
  refine lp_w (fun v1 : St × Int32 => WP X (gM D cI cT ad) 3 0 2 v1.1 [(2, .int v1.2), (0, .ref (ad 36)), (1, .ref (ad 28))] []) (fun K2 hK3 v1 h => ?_) F _ h
  refine w_iload_n C dX11_be_2 rfl 0 rfl ?_
  refine w_aload_n C dX11_be_3 rfl 1 rfl ?_
  refine w_alen C 36 8 0 8 (Nat.le_of_ble_eq_true rfl) (fun _ => rfl) rfl (by decide) dX11_be_4 rfl ?_
  refine w_icmp_ge C (qt := 20) dX11_be_5 (by decide) rfl h (fun _ h => ?_) (fun _ h => ?_)
  · exact w_rv hr h (by decide) dX11_be_20
  · refine w_aload_n C dX11_be_8 rfl 1 rfl ?_
    refine w_iload_n C dX11_be_9 rfl 0 rfl ?_
    refine w_aload_n C dX11_be_10 rfl 2 rfl ?_
    refine w_iload_n C dX11_be_11 rfl 0 rfl ?_
    refine w_iald C 28 8 0 (Nat.le_of_ble_eq_true rfl) (fun _ => rfl) rfl h dX11_be_12 rfl (fun h => ?_)
    refine w_iast C 36 8 0 (Nat.le_of_ble_eq_true rfl) (fun _ => rfl) rfl h dX11_be_13 rfl (fun h => ?_)
    refine w_nst h (fun u4 h => ?_)
    refine w_iinc (j := 0) C (v1.2 + 1) [(2, .int (v1.2 + 1)), (0, .ref (ad 36)), (1, .ref (ad 28))] dX11_be_14 rfl rfl rfl (by decide) rfl ?_
    refine w_goto (q := 2) C dX11_be_17 (by decide) ?_
    exact w_sub (lv' := [(2, .int (v1.2 + 1)), (0, .ref (ad 36)), (1, .ref (ad 28))]) [0, 1, 2] rfl (hK3 ((u4, v1.2 + 1)) h)
theorem cfX11_be_2 (D : va_G) (cI cT : ClassId) (ad : Nat → Nat) {l : Launch} (had : gAp (gM D cI cT ad)) {F : Nat} {σ : St}  {σ' : St} (h : fX11_be_2 F σ = some σ') : MV l yX11_be (wB yX11_be cX11_be 3 none) 0 0 (gM D cI cT ad) [.ref (ad 36), .ref (ad 28)] σ σ' := mk_MV had (by decide +kernel) (Nat.le_of_ble_eq_true rfl) (fun X hX C hr => wfX11_be_2 C hr h)

def fX11_be_3 (F : Nat) (σ : St) : Option St := lp (fun (K2 : (St × Int32) → Option St) (v1 : St × Int32) => if (8 : Int32) ≤ v1.2 then (some v1.1) else ckI (v1.2) 8 (ckI (v1.2) 8 (nm (up v1.1 37 (Int32.toNatClampNeg v1.2) (v1.1 29 (Int32.toNatClampNeg v1.2))) fun u4 => K2 ((u4, v1.2 + 1))))) F ((σ, 0))
set_option maxRecDepth 20000 in
theorem wfX11_be_3 {X : XT} {D : va_G} {cI cT : ClassId} {ad : Nat → Nat} {F : Nat} {σ : St}  {σ' : St} (C : Cx X (gM D cI cT ad) cX11_be 3 RX11 0 0 0) (hr : RetV X (gM D cI cT ad) cX11_be 3 0 σ') (h : fX11_be_3 F σ = some σ') : WP X (gM D cI cT ad) 3 0 0 σ [(0, .ref (ad 37)), (1, .ref (ad 29))] [] := by
  unfold fX11_be_3 at h
  refine w_iconst C 0 dX11_be_0 rfl (by decide) ?_
  refine w_istore_n C [(2, .int 0), (0, .ref (ad 37)), (1, .ref (ad 29))] dX11_be_1 rfl (by decide) rfl ?_
  refine w_sub (lv' := [(2, .int 0), (0, .ref (ad 37)), (1, .ref (ad 29))]) [0, 1, 2] rfl ?_
  refine lp_w (fun v1 : St × Int32 => WP X (gM D cI cT ad) 3 0 2 v1.1 [(2, .int v1.2), (0, .ref (ad 37)), (1, .ref (ad 29))] []) (fun K2 hK3 v1 h => ?_) F _ h
  refine w_iload_n C dX11_be_2 rfl 0 rfl ?_
  refine w_aload_n C dX11_be_3 rfl 1 rfl ?_
  refine w_alen C 37 8 0 8 (Nat.le_of_ble_eq_true rfl) (fun _ => rfl) rfl (by decide) dX11_be_4 rfl ?_
  refine w_icmp_ge C (qt := 20) dX11_be_5 (by decide) rfl h (fun _ h => ?_) (fun _ h => ?_)
  · exact w_rv hr h (by decide) dX11_be_20
  · refine w_aload_n C dX11_be_8 rfl 1 rfl ?_
    refine w_iload_n C dX11_be_9 rfl 0 rfl ?_
    refine w_aload_n C dX11_be_10 rfl 2 rfl ?_
    refine w_iload_n C dX11_be_11 rfl 0 rfl ?_
    refine w_iald C 29 8 0 (Nat.le_of_ble_eq_true rfl) (fun _ => rfl) rfl h dX11_be_12 rfl (fun h => ?_)
    refine w_iast C 37 8 0 (Nat.le_of_ble_eq_true rfl) (fun _ => rfl) rfl h dX11_be_13 rfl (fun h => ?_)
    refine w_nst h (fun u4 h => ?_)
    refine w_iinc (j := 0) C (v1.2 + 1) [(2, .int (v1.2 + 1)), (0, .ref (ad 37)), (1, .ref (ad 29))] dX11_be_14 rfl rfl rfl (by decide) rfl ?_
    refine w_goto (q := 2) C dX11_be_17 (by decide) ?_
    exact w_sub (lv' := [(2, .int (v1.2 + 1)), (0, .ref (ad 37)), (1, .ref (ad 29))]) [0, 1, 2] rfl (hK3 ((u4, v1.2 + 1)) h)
theorem cfX11_be_3 (D : va_G) (cI cT : ClassId) (ad : Nat → Nat) {l : Launch} (had : gAp (gM D cI cT ad)) {F : Nat} {σ : St}  {σ' : St} (h : fX11_be_3 F σ = some σ') : MV l yX11_be (wB yX11_be cX11_be 3 none) 0 0 (gM D cI cT ad) [.ref (ad 37), .ref (ad 29)] σ σ' := mk_MV had (by decide +kernel) (Nat.le_of_ble_eq_true rfl) (fun X hX C hr => wfX11_be_3 C hr h)

def fX11_be_4 (F : Nat) (σ : St) : Option St := lp (fun (K2 : (St × Int32) → Option St) (v1 : St × Int32) => if (8 : Int32) ≤ v1.2 then (some v1.1) else ckI (v1.2) 8 (ckI (v1.2) 8 (nm (up v1.1 38 (Int32.toNatClampNeg v1.2) (v1.1 30 (Int32.toNatClampNeg v1.2))) fun u4 => K2 ((u4, v1.2 + 1))))) F ((σ, 0))
set_option maxRecDepth 20000 in
theorem wfX11_be_4 {X : XT} {D : va_G} {cI cT : ClassId} {ad : Nat → Nat} {F : Nat} {σ : St}  {σ' : St} (C : Cx X (gM D cI cT ad) cX11_be 3 RX11 0 0 0) (hr : RetV X (gM D cI cT ad) cX11_be 3 0 σ') (h : fX11_be_4 F σ = some σ') : WP X (gM D cI cT ad) 3 0 0 σ [(0, .ref (ad 38)), (1, .ref (ad 30))] [] := by
  unfold fX11_be_4 at h
  refine w_iconst C 0 dX11_be_0 rfl (by decide) ?_
  refine w_istore_n C [(2, .int 0), (0, .ref (ad 38)), (1, .ref (ad 30))] dX11_be_1 rfl (by decide) rfl ?_
  refine w_sub (lv' := [(2, .int 0), (0, .ref (ad 38)), (1, .ref (ad 30))]) [0, 1, 2] rfl ?_
  refine lp_w (fun v1 : St × Int32 => WP X (gM D cI cT ad) 3 0 2 v1.1 [(2, .int v1.2), (0, .ref (ad 38)), (1, .ref (ad 30))] []) (fun K2 hK3 v1 h => ?_) F _ h
  refine w_iload_n C dX11_be_2 rfl 0 rfl ?_
  refine w_aload_n C dX11_be_3 rfl 1 rfl ?_
  refine w_alen C 38 8 0 8 (Nat.le_of_ble_eq_true rfl) (fun _ => rfl) rfl (by decide) dX11_be_4 rfl ?_
  refine w_icmp_ge C (qt := 20) dX11_be_5 (by decide) rfl h (fun _ h => ?_) (fun _ h => ?_)
  · exact w_rv hr h (by decide) dX11_be_20
  · refine w_aload_n C dX11_be_8 rfl 1 rfl ?_
    refine w_iload_n C dX11_be_9 rfl 0 rfl ?_
    refine w_aload_n C dX11_be_10 rfl 2 rfl ?_
    refine w_iload_n C dX11_be_11 rfl 0 rfl ?_
    refine w_iald C 30 8 0 (Nat.le_of_ble_eq_true rfl) (fun _ => rfl) rfl h dX11_be_12 rfl (fun h => ?_)
    refine w_iast C 38 8 0 (Nat.le_of_ble_eq_true rfl) (fun _ => rfl) rfl h dX11_be_13 rfl (fun h => ?_)
    refine w_nst h (fun u4 h => ?_)
    refine w_iinc (j := 0) C (v1.2 + 1) [(2, .int (v1.2 + 1)), (0, .ref (ad 38)), (1, .ref (ad 30))] dX11_be_14 rfl rfl rfl (by decide) rfl ?_
    refine w_goto (q := 2) C dX11_be_17 (by decide) ?_
    exact w_sub (lv' := [(2, .int (v1.2 + 1)), (0, .ref (ad 38)), (1, .ref (ad 30))]) [0, 1, 2] rfl (hK3 ((u4, v1.2 + 1)) h)
theorem cfX11_be_4 (D : va_G) (cI cT : ClassId) (ad : Nat → Nat) {l : Launch} (had : gAp (gM D cI cT ad)) {F : Nat} {σ : St}  {σ' : St} (h : fX11_be_4 F σ = some σ') : MV l yX11_be (wB yX11_be cX11_be 3 none) 0 0 (gM D cI cT ad) [.ref (ad 38), .ref (ad 30)] σ σ' := mk_MV had (by decide +kernel) (Nat.le_of_ble_eq_true rfl) (fun X hX C hr => wfX11_be_4 C hr h)

def fX11_be_5 (F : Nat) (σ : St) : Option St := lp (fun (K2 : (St × Int32) → Option St) (v1 : St × Int32) => if (8 : Int32) ≤ v1.2 then (some v1.1) else ckI (v1.2) 8 (ckI (v1.2) 8 (nm (up v1.1 39 (Int32.toNatClampNeg v1.2) (v1.1 31 (Int32.toNatClampNeg v1.2))) fun u4 => K2 ((u4, v1.2 + 1))))) F ((σ, 0))
set_option maxRecDepth 20000 in
theorem wfX11_be_5 {X : XT} {D : va_G} {cI cT : ClassId} {ad : Nat → Nat} {F : Nat} {σ : St}  {σ' : St} (C : Cx X (gM D cI cT ad) cX11_be 3 RX11 0 0 0) (hr : RetV X (gM D cI cT ad) cX11_be 3 0 σ') (h : fX11_be_5 F σ = some σ') : WP X (gM D cI cT ad) 3 0 0 σ [(0, .ref (ad 39)), (1, .ref (ad 31))] [] := by
  unfold fX11_be_5 at h
  refine w_iconst C 0 dX11_be_0 rfl (by decide) ?_
  refine w_istore_n C [(2, .int 0), (0, .ref (ad 39)), (1, .ref (ad 31))] dX11_be_1 rfl (by decide) rfl ?_
  refine w_sub (lv' := [(2, .int 0), (0, .ref (ad 39)), (1, .ref (ad 31))]) [0, 1, 2] rfl ?_
  refine lp_w (fun v1 : St × Int32 => WP X (gM D cI cT ad) 3 0 2 v1.1 [(2, .int v1.2), (0, .ref (ad 39)), (1, .ref (ad 31))] []) (fun K2 hK3 v1 h => ?_) F _ h
  refine w_iload_n C dX11_be_2 rfl 0 rfl ?_
  refine w_aload_n C dX11_be_3 rfl 1 rfl ?_
  refine w_alen C 39 8 0 8 (Nat.le_of_ble_eq_true rfl) (fun _ => rfl) rfl (by decide) dX11_be_4 rfl ?_
  refine w_icmp_ge C (qt := 20) dX11_be_5 (by decide) rfl h (fun _ h => ?_) (fun _ h => ?_)
  · exact w_rv hr h (by decide) dX11_be_20
  · refine w_aload_n C dX11_be_8 rfl 1 rfl ?_
    refine w_iload_n C dX11_be_9 rfl 0 rfl ?_
    refine w_aload_n C dX11_be_10 rfl 2 rfl ?_
    refine w_iload_n C dX11_be_11 rfl 0 rfl ?_
    refine w_iald C 31 8 0 (Nat.le_of_ble_eq_true rfl) (fun _ => rfl) rfl h dX11_be_12 rfl (fun h => ?_)
    refine w_iast C 39 8 0 (Nat.le_of_ble_eq_true rfl) (fun _ => rfl) rfl h dX11_be_13 rfl (fun h => ?_)
    refine w_nst h (fun u4 h => ?_)
    refine w_iinc (j := 0) C (v1.2 + 1) [(2, .int (v1.2 + 1)), (0, .ref (ad 39)), (1, .ref (ad 31))] dX11_be_14 rfl rfl rfl (by decide) rfl ?_
    refine w_goto (q := 2) C dX11_be_17 (by decide) ?_
    exact w_sub (lv' := [(2, .int (v1.2 + 1)), (0, .ref (ad 39)), (1, .ref (ad 31))]) [0, 1, 2] rfl (hK3 ((u4, v1.2 + 1)) h)
theorem cfX11_be_5 (D : va_G) (cI cT : ClassId) (ad : Nat → Nat) {l : Launch} (had : gAp (gM D cI cT ad)) {F : Nat} {σ : St}  {σ' : St} (h : fX11_be_5 F σ = some σ') : MV l yX11_be (wB yX11_be cX11_be 3 none) 0 0 (gM D cI cT ad) [.ref (ad 39), .ref (ad 31)] σ σ' := mk_MV had (by decide +kernel) (Nat.le_of_ble_eq_true rfl) (fun X hX C hr => wfX11_be_5 C hr h)

def fX11_be_6 (F : Nat) (σ : St) : Option St := lp (fun (K2 : (St × Int32) → Option St) (v1 : St × Int32) => if (8 : Int32) ≤ v1.2 then (some v1.1) else ckI (v1.2) 8 (ckI (v1.2) 8 (nm (up v1.1 40 (Int32.toNatClampNeg v1.2) (v1.1 32 (Int32.toNatClampNeg v1.2))) fun u4 => K2 ((u4, v1.2 + 1))))) F ((σ, 0))
set_option maxRecDepth 20000 in
theorem wfX11_be_6 {X : XT} {D : va_G} {cI cT : ClassId} {ad : Nat → Nat} {F : Nat} {σ : St}  {σ' : St} (C : Cx X (gM D cI cT ad) cX11_be 3 RX11 0 0 0) (hr : RetV X (gM D cI cT ad) cX11_be 3 0 σ') (h : fX11_be_6 F σ = some σ') : WP X (gM D cI cT ad) 3 0 0 σ [(0, .ref (ad 40)), (1, .ref (ad 32))] [] := by
  unfold fX11_be_6 at h
  refine w_iconst C 0 dX11_be_0 rfl (by decide) ?_
  refine w_istore_n C [(2, .int 0), (0, .ref (ad 40)), (1, .ref (ad 32))] dX11_be_1 rfl (by decide) rfl ?_
  refine w_sub (lv' := [(2, .int 0), (0, .ref (ad 40)), (1, .ref (ad 32))]) [0, 1, 2] rfl ?_
  refine lp_w (fun v1 : St × Int32 => WP X (gM D cI cT ad) 3 0 2 v1.1 [(2, .int v1.2), (0, .ref (ad 40)), (1, .ref (ad 32))] []) (fun K2 hK3 v1 h => ?_) F _ h
  refine w_iload_n C dX11_be_2 rfl 0 rfl ?_
  refine w_aload_n C dX11_be_3 rfl 1 rfl ?_
  refine w_alen C 40 8 0 8 (Nat.le_of_ble_eq_true rfl) (fun _ => rfl) rfl (by decide) dX11_be_4 rfl ?_
  refine w_icmp_ge C (qt := 20) dX11_be_5 (by decide) rfl h (fun _ h => ?_) (fun _ h => ?_)
  · exact w_rv hr h (by decide) dX11_be_20
  · refine w_aload_n C dX11_be_8 rfl 1 rfl ?_
    refine w_iload_n C dX11_be_9 rfl 0 rfl ?_
    refine w_aload_n C dX11_be_10 rfl 2 rfl ?_
    refine w_iload_n C dX11_be_11 rfl 0 rfl ?_
    refine w_iald C 32 8 0 (Nat.le_of_ble_eq_true rfl) (fun _ => rfl) rfl h dX11_be_12 rfl (fun h => ?_)
    refine w_iast C 40 8 0 (Nat.le_of_ble_eq_true rfl) (fun _ => rfl) rfl h dX11_be_13 rfl (fun h => ?_)
    refine w_nst h (fun u4 h => ?_)
    refine w_iinc (j := 0) C (v1.2 + 1) [(2, .int (v1.2 + 1)), (0, .ref (ad 40)), (1, .ref (ad 32))] dX11_be_14 rfl rfl rfl (by decide) rfl ?_
    refine w_goto (q := 2) C dX11_be_17 (by decide) ?_
    exact w_sub (lv' := [(2, .int (v1.2 + 1)), (0, .ref (ad 40)), (1, .ref (ad 32))]) [0, 1, 2] rfl (hK3 ((u4, v1.2 + 1)) h)
theorem cfX11_be_6 (D : va_G) (cI cT : ClassId) (ad : Nat → Nat) {l : Launch} (had : gAp (gM D cI cT ad)) {F : Nat} {σ : St}  {σ' : St} (h : fX11_be_6 F σ = some σ') : MV l yX11_be (wB yX11_be cX11_be 3 none) 0 0 (gM D cI cT ad) [.ref (ad 40), .ref (ad 32)] σ σ' := mk_MV had (by decide +kernel) (Nat.le_of_ble_eq_true rfl) (fun X hX C hr => wfX11_be_6 C hr h)

def fX11_be_7 (F : Nat) (σ : St) : Option St := lp (fun (K2 : (St × Int32) → Option St) (v1 : St × Int32) => if (3 : Int32) ≤ v1.2 then (some v1.1) else ckI (v1.2) 3 (ckI (v1.2) 3 (nm (up v1.1 41 (Int32.toNatClampNeg v1.2) (v1.1 16 (Int32.toNatClampNeg v1.2))) fun u4 => K2 ((u4, v1.2 + 1))))) F ((σ, 0))
set_option maxRecDepth 20000 in
theorem wfX11_be_7 {X : XT} {D : va_G} {cI cT : ClassId} {ad : Nat → Nat} {F : Nat} {σ : St}  {σ' : St} (C : Cx X (gM D cI cT ad) cX11_be 3 RX11 0 0 0) (hr : RetV X (gM D cI cT ad) cX11_be 3 0 σ') (h : fX11_be_7 F σ = some σ') : WP X (gM D cI cT ad) 3 0 0 σ [(0, .ref (ad 41)), (1, .ref (ad 16))] [] := by
  unfold fX11_be_7 at h
  refine w_iconst C 0 dX11_be_0 rfl (by decide) ?_
  refine w_istore_n C [(2, .int 0), (0, .ref (ad 41)), (1, .ref (ad 16))] dX11_be_1 rfl (by decide) rfl ?_
  refine w_sub (lv' := [(2, .int 0), (0, .ref (ad 41)), (1, .ref (ad 16))]) [0, 1, 2] rfl ?_
  refine lp_w (fun v1 : St × Int32 => WP X (gM D cI cT ad) 3 0 2 v1.1 [(2, .int v1.2), (0, .ref (ad 41)), (1, .ref (ad 16))] []) (fun K2 hK3 v1 h => ?_) F _ h
  refine w_iload_n C dX11_be_2 rfl 0 rfl ?_
  refine w_aload_n C dX11_be_3 rfl 1 rfl ?_
  refine w_alen C 41 3 0 3 (Nat.le_of_ble_eq_true rfl) (fun _ => rfl) rfl (by decide) dX11_be_4 rfl ?_
  refine w_icmp_ge C (qt := 20) dX11_be_5 (by decide) rfl h (fun _ h => ?_) (fun _ h => ?_)
  · exact w_rv hr h (by decide) dX11_be_20
  · refine w_aload_n C dX11_be_8 rfl 1 rfl ?_
    refine w_iload_n C dX11_be_9 rfl 0 rfl ?_
    refine w_aload_n C dX11_be_10 rfl 2 rfl ?_
    refine w_iload_n C dX11_be_11 rfl 0 rfl ?_
    refine w_iald C 16 3 0 (Nat.le_of_ble_eq_true rfl) (fun _ => rfl) rfl h dX11_be_12 rfl (fun h => ?_)
    refine w_iast C 41 3 0 (Nat.le_of_ble_eq_true rfl) (fun _ => rfl) rfl h dX11_be_13 rfl (fun h => ?_)
    refine w_nst h (fun u4 h => ?_)
    refine w_iinc (j := 0) C (v1.2 + 1) [(2, .int (v1.2 + 1)), (0, .ref (ad 41)), (1, .ref (ad 16))] dX11_be_14 rfl rfl rfl (by decide) rfl ?_
    refine w_goto (q := 2) C dX11_be_17 (by decide) ?_
    exact w_sub (lv' := [(2, .int (v1.2 + 1)), (0, .ref (ad 41)), (1, .ref (ad 16))]) [0, 1, 2] rfl (hK3 ((u4, v1.2 + 1)) h)
theorem cfX11_be_7 (D : va_G) (cI cT : ClassId) (ad : Nat → Nat) {l : Launch} (had : gAp (gM D cI cT ad)) {F : Nat} {σ : St}  {σ' : St} (h : fX11_be_7 F σ = some σ') : MV l yX11_be (wB yX11_be cX11_be 3 none) 0 0 (gM D cI cT ad) [.ref (ad 41), .ref (ad 16)] σ σ' := mk_MV had (by decide +kernel) (Nat.le_of_ble_eq_true rfl) (fun X hX C hr => wfX11_be_7 C hr h)

def fX11_image (F : Nat) (σ : St) : Option St := nm (up σ 0 4 0) fun u2 => nm (up u2 0 50 1) fun u4 => nm (up u4 0 51 (u4 0 33)) fun u6 => nm (up u6 0 52 (u6 0 34)) fun u8 => bd1 (fX11_pack_3 F u8 0) fun u9 => bd1 (fX11_be F u9) fun u10 => bd1 (fX11_be_2 F u10) fun u11 => bd1 (fX11_be_3 F u11) fun u12 => bd1 (fX11_be_4 F u12) fun u13 => bd1 (fX11_be_5 F u13) fun u14 => bd1 (fX11_be_6 F u14) fun u15 => bd1 (fX11_be_7 F u15) fun u16 => some u16
set_option maxRecDepth 20000 in
theorem wfX11_image {X : XT} {D : va_G} {cI cT : ClassId} {ad : Nat → Nat} {F : Nat} {σ : St}  {σ' : St} (C : Cx X (gM D cI cT ad) cX11_image 1 RX11 1 24 0) (hr : RetV X (gM D cI cT ad) cX11_image 1 0 σ') (h : fX11_image F σ = some σ') : WP X (gM D cI cT ad) 1 0 0 σ [(0, .ref (ad 0))] [] := by
  unfold fX11_image at h
  refine w_aload_n C dX11_image_0 rfl 0 rfl ?_
  refine w_iconst C 0 dX11_image_1 rfl (by decide) ?_
  refine w_put C 0 4 0 (Nat.le_of_ble_eq_true rfl) rfl rfl inB_X11 tyX11_ok nmX11 (by decide) tw6_165 rfl rfl rfl (Nat.le_of_ble_eq_true rfl) rfl dX11_image_2 rfl ?_
  refine w_nst h (fun u2 h => ?_)
  refine w_aload_n C dX11_image_5 rfl 0 rfl ?_
  refine w_iconst C 1 dX11_image_6 rfl (by decide) ?_
  refine w_put C 0 50 1 (Nat.le_of_ble_eq_true rfl) rfl rfl inB_X11 tyX11_ok nmX11 (by decide) tw6_211 rfl rfl rfl (Nat.le_of_ble_eq_true rfl) rfl dX11_image_7 rfl ?_
  refine w_nst h (fun u4 h => ?_)
  refine w_aload_n C dX11_image_10 rfl 0 rfl ?_
  refine w_aload_n C dX11_image_11 rfl 0 rfl ?_
  refine w_get C 0 33 (Nat.le_of_ble_eq_true rfl) rfl rfl inB_X11 (by decide) tw6_194 rfl dX11_image_12 rfl ?_
  refine w_put C 0 51 (u4 0 33) (Nat.le_of_ble_eq_true rfl) rfl rfl inB_X11 tyX11_ok nmX11 (by decide) tw6_212 rfl rfl rfl (Nat.le_of_ble_eq_true rfl) rfl dX11_image_15 rfl ?_
  refine w_nst h (fun u6 h => ?_)
  refine w_aload_n C dX11_image_18 rfl 0 rfl ?_
  refine w_aload_n C dX11_image_19 rfl 0 rfl ?_
  refine w_get C 0 34 (Nat.le_of_ble_eq_true rfl) rfl rfl inB_X11 (by decide) tw6_195 rfl dX11_image_20 rfl ?_
  refine w_put C 0 52 (u6 0 34) (Nat.le_of_ble_eq_true rfl) rfl rfl inB_X11 tyX11_ok nmX11 (by decide) tw6_213 rfl rfl rfl (Nat.le_of_ble_eq_true rfl) rfl dX11_image_23 rfl ?_
  refine w_nst h (fun u8 h => ?_)
  refine w_aload_n C dX11_image_26 rfl 0 rfl ?_
  refine w_aload_n C dX11_image_27 rfl 0 rfl ?_
  refine w_get C 0 53 (Nat.le_of_ble_eq_true rfl) rfl rfl inB_X11 (by decide) tw6_214 rfl dX11_image_28 rfl ?_
  refine w_iconst C 0 dX11_image_31 rfl (by decide) ?_
  refine bd1_w h (fun u9 hc h => ?_)
  refine w_callVv C (n := 2) (As := [.ref (ad 34), .int 0]) (st := []) 0 (Nat.le_of_ble_eq_true rfl) rfl rfl (cfX11_pack_3 D cI cT ad (l := X.2.1) C.2.2.1 hc) tw8_158 cy_X11_pack (by decide +kernel) ⟨Nat.le_of_ble_eq_true rfl, Nat.le_of_ble_eq_true rfl⟩ (by decide) rfl rfl (Nat.le_of_ble_eq_true rfl) dX11_image_32 rfl ?_
  refine w_aload_n C dX11_image_35 rfl 0 rfl ?_
  refine w_get C 0 54 (Nat.le_of_ble_eq_true rfl) rfl rfl inB_X11 (by decide) tw6_215 rfl dX11_image_36 rfl ?_
  refine w_aload_n C dX11_image_39 rfl 0 rfl ?_
  refine w_get C 0 30 (Nat.le_of_ble_eq_true rfl) rfl rfl inB_X11 (by decide) tw6_191 rfl dX11_image_40 rfl ?_
  refine bd1_w h (fun u10 hc h => ?_)
  refine w_callSv C (n := 2) (As := [.ref (ad 35), .ref (ad 20)]) (st := []) (cfX11_be D cI cT ad (l := X.2.1) C.2.2.1 hc) tw9_59 cs_X11_be (by decide +kernel) ⟨Nat.le_of_ble_eq_true rfl, Nat.le_of_ble_eq_true rfl⟩ (by decide) rfl rfl (Nat.le_of_ble_eq_true rfl) dX11_image_43 rfl ?_
  refine w_aload_n C dX11_image_46 rfl 0 rfl ?_
  refine w_get C 0 55 (Nat.le_of_ble_eq_true rfl) rfl rfl inB_X11 (by decide) tw6_216 rfl dX11_image_47 rfl ?_
  refine w_aload_n C dX11_image_50 rfl 0 rfl ?_
  refine w_get C 0 43 (Nat.le_of_ble_eq_true rfl) rfl rfl inB_X11 (by decide) tw6_204 rfl dX11_image_51 rfl ?_
  refine bd1_w h (fun u11 hc h => ?_)
  refine w_callSv C (n := 2) (As := [.ref (ad 36), .ref (ad 28)]) (st := []) (cfX11_be_2 D cI cT ad (l := X.2.1) C.2.2.1 hc) tw9_59 cs_X11_be (by decide +kernel) ⟨Nat.le_of_ble_eq_true rfl, Nat.le_of_ble_eq_true rfl⟩ (by decide) rfl rfl (Nat.le_of_ble_eq_true rfl) dX11_image_54 rfl ?_
  refine w_aload_n C dX11_image_57 rfl 0 rfl ?_
  refine w_get C 0 56 (Nat.le_of_ble_eq_true rfl) rfl rfl inB_X11 (by decide) tw6_217 rfl dX11_image_58 rfl ?_
  refine w_aload_n C dX11_image_61 rfl 0 rfl ?_
  refine w_get C 0 44 (Nat.le_of_ble_eq_true rfl) rfl rfl inB_X11 (by decide) tw6_205 rfl dX11_image_62 rfl ?_
  refine bd1_w h (fun u12 hc h => ?_)
  refine w_callSv C (n := 2) (As := [.ref (ad 37), .ref (ad 29)]) (st := []) (cfX11_be_3 D cI cT ad (l := X.2.1) C.2.2.1 hc) tw9_59 cs_X11_be (by decide +kernel) ⟨Nat.le_of_ble_eq_true rfl, Nat.le_of_ble_eq_true rfl⟩ (by decide) rfl rfl (Nat.le_of_ble_eq_true rfl) dX11_image_65 rfl ?_
  refine w_aload_n C dX11_image_68 rfl 0 rfl ?_
  refine w_get C 0 57 (Nat.le_of_ble_eq_true rfl) rfl rfl inB_X11 (by decide) tw6_218 rfl dX11_image_69 rfl ?_
  refine w_aload_n C dX11_image_72 rfl 0 rfl ?_
  refine w_get C 0 45 (Nat.le_of_ble_eq_true rfl) rfl rfl inB_X11 (by decide) tw6_206 rfl dX11_image_73 rfl ?_
  refine bd1_w h (fun u13 hc h => ?_)
  refine w_callSv C (n := 2) (As := [.ref (ad 38), .ref (ad 30)]) (st := []) (cfX11_be_4 D cI cT ad (l := X.2.1) C.2.2.1 hc) tw9_59 cs_X11_be (by decide +kernel) ⟨Nat.le_of_ble_eq_true rfl, Nat.le_of_ble_eq_true rfl⟩ (by decide) rfl rfl (Nat.le_of_ble_eq_true rfl) dX11_image_76 rfl ?_
  refine w_aload_n C dX11_image_79 rfl 0 rfl ?_
  refine w_get C 0 58 (Nat.le_of_ble_eq_true rfl) rfl rfl inB_X11 (by decide) tw6_219 rfl dX11_image_80 rfl ?_
  refine w_aload_n C dX11_image_83 rfl 0 rfl ?_
  refine w_get C 0 46 (Nat.le_of_ble_eq_true rfl) rfl rfl inB_X11 (by decide) tw6_207 rfl dX11_image_84 rfl ?_
  refine bd1_w h (fun u14 hc h => ?_)
  refine w_callSv C (n := 2) (As := [.ref (ad 39), .ref (ad 31)]) (st := []) (cfX11_be_5 D cI cT ad (l := X.2.1) C.2.2.1 hc) tw9_59 cs_X11_be (by decide +kernel) ⟨Nat.le_of_ble_eq_true rfl, Nat.le_of_ble_eq_true rfl⟩ (by decide) rfl rfl (Nat.le_of_ble_eq_true rfl) dX11_image_87 rfl ?_
  refine w_aload_n C dX11_image_90 rfl 0 rfl ?_
  refine w_get C 0 59 (Nat.le_of_ble_eq_true rfl) rfl rfl inB_X11 (by decide) tw6_220 rfl dX11_image_91 rfl ?_
  refine w_aload_n C dX11_image_94 rfl 0 rfl ?_
  refine w_get C 0 47 (Nat.le_of_ble_eq_true rfl) rfl rfl inB_X11 (by decide) tw6_208 rfl dX11_image_95 rfl ?_
  refine bd1_w h (fun u15 hc h => ?_)
  refine w_callSv C (n := 2) (As := [.ref (ad 40), .ref (ad 32)]) (st := []) (cfX11_be_6 D cI cT ad (l := X.2.1) C.2.2.1 hc) tw9_59 cs_X11_be (by decide +kernel) ⟨Nat.le_of_ble_eq_true rfl, Nat.le_of_ble_eq_true rfl⟩ (by decide) rfl rfl (Nat.le_of_ble_eq_true rfl) dX11_image_98 rfl ?_
  refine w_aload_n C dX11_image_101 rfl 0 rfl ?_
  refine w_get C 0 60 (Nat.le_of_ble_eq_true rfl) rfl rfl inB_X11 (by decide) tw6_221 rfl dX11_image_102 rfl ?_
  refine w_aload_n C dX11_image_105 rfl 0 rfl ?_
  refine w_get C 0 16 (Nat.le_of_ble_eq_true rfl) rfl rfl inB_X11 (by decide) tw6_177 rfl dX11_image_106 rfl ?_
  refine bd1_w h (fun u16 hc h => ?_)
  refine w_callSv C (n := 2) (As := [.ref (ad 41), .ref (ad 16)]) (st := []) (cfX11_be_7 D cI cT ad (l := X.2.1) C.2.2.1 hc) tw9_59 cs_X11_be (by decide +kernel) ⟨Nat.le_of_ble_eq_true rfl, Nat.le_of_ble_eq_true rfl⟩ (by decide) rfl rfl (Nat.le_of_ble_eq_true rfl) dX11_image_109 rfl ?_
  exact w_rv hr h (by decide) dX11_image_112
theorem cfX11_image (D : va_G) (cI cT : ClassId) (ad : Nat → Nat) {l : Launch} (had : gAp (gM D cI cT ad)) {F : Nat} {σ : St}  {σ' : St} (h : fX11_image F σ = some σ') : MV l yX11_image (wB yX11_image cX11_image 1 none) 1 24 (gM D cI cT ad) [.ref (ad 0)] σ σ' := mk_MV had (by decide +kernel) (Nat.le_of_ble_eq_true rfl) (fun X hX C hr => wfX11_image C hr h)

def fX11_unpack_3 (F : Nat) (σ : St) (a1 : Int32) : Option St := ckI (a1) 138 (nm (up σ 0 31 (σ 34 (Int32.toNatClampNeg a1))) fun u2 => ckI (a1 + 1) 138 (nm (up u2 0 32 (u2 34 (Int32.toNatClampNeg (a1 + 1)))) fun u4 => nm (a1 + 2) fun x5 => lp (fun (K7 : (St × Int32) → Option St) (v6 : St × Int32) => if (8 : Int32) ≤ v6.2 then (lp (fun (K10 : (St × Int32) → Option St) (v9 : St × Int32) => if (80 : Int32) ≤ v9.2 then (lp (fun (K13 : (St × Int32) → Option St) (v12 : St × Int32) => if (48 : Int32) ≤ v12.2 then (some v12.1) else ckI (((x5 + 8) + 80) + v12.2) 138 (ckI (v12.2) 48 (nm (up v12.1 19 (Int32.toNatClampNeg v12.2) (v12.1 34 (Int32.toNatClampNeg (((x5 + 8) + 80) + v12.2)))) fun u15 => K13 ((u15, v12.2 + 1))))) F ((v9.1, 0))) else ckI ((x5 + 8) + v9.2) 138 (ckI (v9.2) 160 (nm (up v9.1 13 (Int32.toNatClampNeg v9.2) (v9.1 34 (Int32.toNatClampNeg ((x5 + 8) + v9.2)))) fun u16 => K10 ((u16, v9.2 + 1))))) F ((v6.1, 0))) else ckI (x5 + v6.2) 138 (ckI (v6.2) 8 (nm (up v6.1 18 (Int32.toNatClampNeg v6.2) (v6.1 34 (Int32.toNatClampNeg (x5 + v6.2)))) fun u17 => K7 ((u17, v6.2 + 1))))) F ((u4, 0))))
set_option maxRecDepth 20000 in
theorem wfX11_unpack_3 {X : XT} {D : va_G} {cI cT : ClassId} {ad : Nat → Nat} {F : Nat} {σ : St} {a1 : Int32} {σ' : St} (C : Cx X (gM D cI cT ad) cX11_unpack 5 RX11 0 0 0) (hr : RetV X (gM D cI cT ad) cX11_unpack 5 0 σ') (h : fX11_unpack_3 F σ a1 = some σ') : WP X (gM D cI cT ad) 5 0 0 σ [(0, .ref (ad 0)), (1, .ref (ad 34)), (2, .int a1)] [] := by
  unfold fX11_unpack_3 at h
  refine w_aload_n C dX11_unpack_0 rfl 0 rfl ?_
  refine w_aload_n C dX11_unpack_1 rfl 1 rfl ?_
  refine w_iload_n C dX11_unpack_2 rfl 2 rfl ?_
  refine w_iald C 34 138 0 (Nat.le_of_ble_eq_true rfl) (fun _ => rfl) rfl h dX11_unpack_3 rfl (fun h => ?_)
  refine w_put C 0 31 (σ 34 (Int32.toNatClampNeg a1)) (Nat.le_of_ble_eq_true rfl) rfl rfl inB_X11 tyX11_ok nmX11 (by decide) tw6_192 rfl rfl rfl (Nat.le_of_ble_eq_true rfl) rfl dX11_unpack_4 rfl ?_
  refine w_nst h (fun u2 h => ?_)
  refine w_aload_n C dX11_unpack_7 rfl 0 rfl ?_
  refine w_aload_n C dX11_unpack_8 rfl 1 rfl ?_
  refine w_iload_n C dX11_unpack_9 rfl 2 rfl ?_
  refine w_iconst C 1 dX11_unpack_10 rfl (by decide) ?_
  refine w_iadd C dX11_unpack_11 rfl ?_
  refine w_iald C 34 138 0 (Nat.le_of_ble_eq_true rfl) (fun _ => rfl) rfl h dX11_unpack_12 rfl (fun h => ?_)
  refine w_put C 0 32 (u2 34 (Int32.toNatClampNeg (a1 + 1))) (Nat.le_of_ble_eq_true rfl) rfl rfl inB_X11 tyX11_ok nmX11 (by decide) tw6_193 rfl rfl rfl (Nat.le_of_ble_eq_true rfl) rfl dX11_unpack_13 rfl ?_
  refine w_nst h (fun u4 h => ?_)
  refine w_iload_n C dX11_unpack_16 rfl 2 rfl ?_
  refine w_iconst C 2 dX11_unpack_17 rfl (by decide) ?_
  refine w_iadd C dX11_unpack_18 rfl ?_
  refine w_nm h (fun x5 h => ?_)
  refine w_istore_n C [(3, .int x5), (0, .ref (ad 0)), (1, .ref (ad 34)), (2, .int a1)] dX11_unpack_19 rfl (by decide) rfl ?_
  refine w_iconst C 0 dX11_unpack_20 rfl (by decide) ?_
  refine w_istore C [(4, .int 0), (3, .int x5), (0, .ref (ad 0)), (1, .ref (ad 34)), (2, .int a1)] dX11_unpack_21 rfl (by decide) rfl ?_
  refine w_sub (lv' := [(4, .int 0), (3, .int x5), (0, .ref (ad 0)), (1, .ref (ad 34))]) [0, 1, 2, 3] rfl ?_
  refine lp_w (fun v6 : St × Int32 => WP X (gM D cI cT ad) 5 0 23 v6.1 [(4, .int v6.2), (3, .int x5), (0, .ref (ad 0)), (1, .ref (ad 34))] []) (fun K7 hK8 v6 h => ?_) F _ h
  refine w_iload C dX11_unpack_23 rfl 0 rfl ?_
  refine w_bipush C 8 dX11_unpack_25 rfl (by decide) ?_
  refine w_icmp_ge C (qt := 49) dX11_unpack_27 (by decide) rfl h (fun _ h => ?_) (fun _ h => ?_)
  · refine w_iinc (j := 1) C (x5 + 8) [(3, .int (x5 + 8)), (4, .int v6.2), (0, .ref (ad 0)), (1, .ref (ad 34))] dX11_unpack_49 rfl rfl rfl (by decide) rfl ?_
    refine w_iconst C 0 dX11_unpack_52 rfl (by decide) ?_
    refine w_istore C [(4, .int 0), (3, .int (x5 + 8)), (0, .ref (ad 0)), (1, .ref (ad 34))] dX11_unpack_53 rfl (by decide) rfl ?_
    refine w_sub (lv' := [(4, .int 0), (3, .int (x5 + 8)), (0, .ref (ad 0)), (1, .ref (ad 34))]) [0, 1, 2, 3] rfl ?_
    refine lp_w (fun v9 : St × Int32 => WP X (gM D cI cT ad) 5 0 55 v9.1 [(4, .int v9.2), (3, .int (x5 + 8)), (0, .ref (ad 0)), (1, .ref (ad 34))] []) (fun K10 hK11 v9 h => ?_) F _ h
    refine w_iload C dX11_unpack_55 rfl 0 rfl ?_
    refine w_bipush C 80 dX11_unpack_57 rfl (by decide) ?_
    refine w_icmp_ge C (qt := 81) dX11_unpack_59 (by decide) rfl h (fun _ h => ?_) (fun _ h => ?_)
    · refine w_iinc (j := 1) C ((x5 + 8) + 80) [(3, .int ((x5 + 8) + 80)), (4, .int v9.2), (0, .ref (ad 0)), (1, .ref (ad 34))] dX11_unpack_81 rfl rfl rfl (by decide) rfl ?_
      refine w_iconst C 0 dX11_unpack_84 rfl (by decide) ?_
      refine w_istore C [(4, .int 0), (3, .int ((x5 + 8) + 80)), (0, .ref (ad 0)), (1, .ref (ad 34))] dX11_unpack_85 rfl (by decide) rfl ?_
      refine w_sub (lv' := [(4, .int 0), (3, .int ((x5 + 8) + 80)), (0, .ref (ad 0)), (1, .ref (ad 34))]) [0, 1, 2, 3] rfl ?_
      refine lp_w (fun v12 : St × Int32 => WP X (gM D cI cT ad) 5 0 87 v12.1 [(4, .int v12.2), (3, .int ((x5 + 8) + 80)), (0, .ref (ad 0)), (1, .ref (ad 34))] []) (fun K13 hK14 v12 h => ?_) F _ h
      refine w_iload C dX11_unpack_87 rfl 0 rfl ?_
      refine w_bipush C 48 dX11_unpack_89 rfl (by decide) ?_
      refine w_icmp_ge C (qt := 113) dX11_unpack_91 (by decide) rfl h (fun _ h => ?_) (fun _ h => ?_)
      · exact w_rv hr h (by decide) dX11_unpack_113
      · refine w_aload_n C dX11_unpack_94 rfl 2 rfl ?_
        refine w_get C 0 29 (Nat.le_of_ble_eq_true rfl) rfl rfl inB_X11 (by decide) tw6_190 rfl dX11_unpack_95 rfl ?_
        refine w_iload C dX11_unpack_98 rfl 0 rfl ?_
        refine w_aload_n C dX11_unpack_100 rfl 3 rfl ?_
        refine w_iload_n C dX11_unpack_101 rfl 1 rfl ?_
        refine w_iload C dX11_unpack_102 rfl 0 rfl ?_
        refine w_iadd C dX11_unpack_104 rfl ?_
        refine w_iald C 34 138 0 (Nat.le_of_ble_eq_true rfl) (fun _ => rfl) rfl h dX11_unpack_105 rfl (fun h => ?_)
        refine w_iast C 19 48 0 (Nat.le_of_ble_eq_true rfl) (fun _ => rfl) rfl h dX11_unpack_106 rfl (fun h => ?_)
        refine w_nst h (fun u15 h => ?_)
        refine w_iinc (j := 0) C (v12.2 + 1) [(4, .int (v12.2 + 1)), (3, .int ((x5 + 8) + 80)), (0, .ref (ad 0)), (1, .ref (ad 34))] dX11_unpack_107 rfl rfl rfl (by decide) rfl ?_
        refine w_goto (q := 87) C dX11_unpack_110 (by decide) ?_
        exact w_sub (lv' := [(4, .int (v12.2 + 1)), (3, .int ((x5 + 8) + 80)), (0, .ref (ad 0)), (1, .ref (ad 34))]) [0, 1, 2, 3] rfl (hK14 ((u15, v12.2 + 1)) h)
    · refine w_aload_n C dX11_unpack_62 rfl 2 rfl ?_
      refine w_get C 0 13 (Nat.le_of_ble_eq_true rfl) rfl rfl inB_X11 (by decide) tw6_174 rfl dX11_unpack_63 rfl ?_
      refine w_iload C dX11_unpack_66 rfl 0 rfl ?_
      refine w_aload_n C dX11_unpack_68 rfl 3 rfl ?_
      refine w_iload_n C dX11_unpack_69 rfl 1 rfl ?_
      refine w_iload C dX11_unpack_70 rfl 0 rfl ?_
      refine w_iadd C dX11_unpack_72 rfl ?_
      refine w_iald C 34 138 0 (Nat.le_of_ble_eq_true rfl) (fun _ => rfl) rfl h dX11_unpack_73 rfl (fun h => ?_)
      refine w_iast C 13 160 0 (Nat.le_of_ble_eq_true rfl) (fun _ => rfl) rfl h dX11_unpack_74 rfl (fun h => ?_)
      refine w_nst h (fun u16 h => ?_)
      refine w_iinc (j := 0) C (v9.2 + 1) [(4, .int (v9.2 + 1)), (3, .int (x5 + 8)), (0, .ref (ad 0)), (1, .ref (ad 34))] dX11_unpack_75 rfl rfl rfl (by decide) rfl ?_
      refine w_goto (q := 55) C dX11_unpack_78 (by decide) ?_
      exact w_sub (lv' := [(4, .int (v9.2 + 1)), (3, .int (x5 + 8)), (0, .ref (ad 0)), (1, .ref (ad 34))]) [0, 1, 2, 3] rfl (hK11 ((u16, v9.2 + 1)) h)
  · refine w_aload_n C dX11_unpack_30 rfl 2 rfl ?_
    refine w_get C 0 28 (Nat.le_of_ble_eq_true rfl) rfl rfl inB_X11 (by decide) tw6_189 rfl dX11_unpack_31 rfl ?_
    refine w_iload C dX11_unpack_34 rfl 0 rfl ?_
    refine w_aload_n C dX11_unpack_36 rfl 3 rfl ?_
    refine w_iload_n C dX11_unpack_37 rfl 1 rfl ?_
    refine w_iload C dX11_unpack_38 rfl 0 rfl ?_
    refine w_iadd C dX11_unpack_40 rfl ?_
    refine w_iald C 34 138 0 (Nat.le_of_ble_eq_true rfl) (fun _ => rfl) rfl h dX11_unpack_41 rfl (fun h => ?_)
    refine w_iast C 18 8 0 (Nat.le_of_ble_eq_true rfl) (fun _ => rfl) rfl h dX11_unpack_42 rfl (fun h => ?_)
    refine w_nst h (fun u17 h => ?_)
    refine w_iinc (j := 0) C (v6.2 + 1) [(4, .int (v6.2 + 1)), (3, .int x5), (0, .ref (ad 0)), (1, .ref (ad 34))] dX11_unpack_43 rfl rfl rfl (by decide) rfl ?_
    refine w_goto (q := 23) C dX11_unpack_46 (by decide) ?_
    exact w_sub (lv' := [(4, .int (v6.2 + 1)), (3, .int x5), (0, .ref (ad 0)), (1, .ref (ad 34))]) [0, 1, 2, 3] rfl (hK8 ((u17, v6.2 + 1)) h)
theorem cfX11_unpack_3 (D : va_G) (cI cT : ClassId) (ad : Nat → Nat) {l : Launch} (had : gAp (gM D cI cT ad)) {F : Nat} {σ : St} {a1 : Int32} {σ' : St} (h : fX11_unpack_3 F σ a1 = some σ') : MV l yX11_unpack (wB yX11_unpack cX11_unpack 5 none) 0 0 (gM D cI cT ad) [.ref (ad 0), .ref (ad 34), .int a1] σ σ' := mk_MV had (by decide +kernel) (Nat.le_of_ble_eq_true rfl) (fun X hX C hr => wfX11_unpack_3 C hr h)

def fX11_be_8 (F : Nat) (σ : St) : Option St := lp (fun (K2 : (St × Int32) → Option St) (v1 : St × Int32) => if (5520 : Int32) ≤ v1.2 then (some v1.1) else ckI (v1.2) 5520 (ckI (v1.2) 5520 (nm (up v1.1 20 (Int32.toNatClampNeg v1.2) (v1.1 35 (Int32.toNatClampNeg v1.2))) fun u4 => K2 ((u4, v1.2 + 1))))) F ((σ, 0))
set_option maxRecDepth 20000 in
theorem wfX11_be_8 {X : XT} {D : va_G} {cI cT : ClassId} {ad : Nat → Nat} {F : Nat} {σ : St}  {σ' : St} (C : Cx X (gM D cI cT ad) cX11_be 3 RX11 0 0 0) (hr : RetV X (gM D cI cT ad) cX11_be 3 0 σ') (h : fX11_be_8 F σ = some σ') : WP X (gM D cI cT ad) 3 0 0 σ [(0, .ref (ad 20)), (1, .ref (ad 35))] [] := by
  unfold fX11_be_8 at h
  refine w_iconst C 0 dX11_be_0 rfl (by decide) ?_
  refine w_istore_n C [(2, .int 0), (0, .ref (ad 20)), (1, .ref (ad 35))] dX11_be_1 rfl (by decide) rfl ?_
  refine w_sub (lv' := [(2, .int 0), (0, .ref (ad 20)), (1, .ref (ad 35))]) [0, 1, 2] rfl ?_
  refine lp_w (fun v1 : St × Int32 => WP X (gM D cI cT ad) 3 0 2 v1.1 [(2, .int v1.2), (0, .ref (ad 20)), (1, .ref (ad 35))] []) (fun K2 hK3 v1 h => ?_) F _ h
  refine w_iload_n C dX11_be_2 rfl 0 rfl ?_
  refine w_aload_n C dX11_be_3 rfl 1 rfl ?_
  refine w_alen C 20 5520 0 5520 (Nat.le_of_ble_eq_true rfl) (fun _ => rfl) rfl (by decide) dX11_be_4 rfl ?_
  refine w_icmp_ge C (qt := 20) dX11_be_5 (by decide) rfl h (fun _ h => ?_) (fun _ h => ?_)
  · exact w_rv hr h (by decide) dX11_be_20
  · refine w_aload_n C dX11_be_8 rfl 1 rfl ?_
    refine w_iload_n C dX11_be_9 rfl 0 rfl ?_
    refine w_aload_n C dX11_be_10 rfl 2 rfl ?_
    refine w_iload_n C dX11_be_11 rfl 0 rfl ?_
    refine w_iald C 35 5520 0 (Nat.le_of_ble_eq_true rfl) (fun _ => rfl) rfl h dX11_be_12 rfl (fun h => ?_)
    refine w_iast C 20 5520 0 (Nat.le_of_ble_eq_true rfl) (fun _ => rfl) rfl h dX11_be_13 rfl (fun h => ?_)
    refine w_nst h (fun u4 h => ?_)
    refine w_iinc (j := 0) C (v1.2 + 1) [(2, .int (v1.2 + 1)), (0, .ref (ad 20)), (1, .ref (ad 35))] dX11_be_14 rfl rfl rfl (by decide) rfl ?_
    refine w_goto (q := 2) C dX11_be_17 (by decide) ?_
    exact w_sub (lv' := [(2, .int (v1.2 + 1)), (0, .ref (ad 20)), (1, .ref (ad 35))]) [0, 1, 2] rfl (hK3 ((u4, v1.2 + 1)) h)
theorem cfX11_be_8 (D : va_G) (cI cT : ClassId) (ad : Nat → Nat) {l : Launch} (had : gAp (gM D cI cT ad)) {F : Nat} {σ : St}  {σ' : St} (h : fX11_be_8 F σ = some σ') : MV l yX11_be (wB yX11_be cX11_be 3 none) 0 0 (gM D cI cT ad) [.ref (ad 20), .ref (ad 35)] σ σ' := mk_MV had (by decide +kernel) (Nat.le_of_ble_eq_true rfl) (fun X hX C hr => wfX11_be_8 C hr h)

def fX11_be_9 (F : Nat) (σ : St) : Option St := lp (fun (K2 : (St × Int32) → Option St) (v1 : St × Int32) => if (8 : Int32) ≤ v1.2 then (some v1.1) else ckI (v1.2) 8 (ckI (v1.2) 8 (nm (up v1.1 28 (Int32.toNatClampNeg v1.2) (v1.1 36 (Int32.toNatClampNeg v1.2))) fun u4 => K2 ((u4, v1.2 + 1))))) F ((σ, 0))
set_option maxRecDepth 20000 in
theorem wfX11_be_9 {X : XT} {D : va_G} {cI cT : ClassId} {ad : Nat → Nat} {F : Nat} {σ : St}  {σ' : St} (C : Cx X (gM D cI cT ad) cX11_be 3 RX11 0 0 0) (hr : RetV X (gM D cI cT ad) cX11_be 3 0 σ') (h : fX11_be_9 F σ = some σ') : WP X (gM D cI cT ad) 3 0 0 σ [(0, .ref (ad 28)), (1, .ref (ad 36))] [] := by
  unfold fX11_be_9 at h
  refine w_iconst C 0 dX11_be_0 rfl (by decide) ?_
  refine w_istore_n C [(2, .int 0), (0, .ref (ad 28)), (1, .ref (ad 36))] dX11_be_1 rfl (by decide) rfl ?_
  refine w_sub (lv' := [(2, .int 0), (0, .ref (ad 28)), (1, .ref (ad 36))]) [0, 1, 2] rfl ?_
  refine lp_w (fun v1 : St × Int32 => WP X (gM D cI cT ad) 3 0 2 v1.1 [(2, .int v1.2), (0, .ref (ad 28)), (1, .ref (ad 36))] []) (fun K2 hK3 v1 h => ?_) F _ h
  refine w_iload_n C dX11_be_2 rfl 0 rfl ?_
  refine w_aload_n C dX11_be_3 rfl 1 rfl ?_
  refine w_alen C 28 8 0 8 (Nat.le_of_ble_eq_true rfl) (fun _ => rfl) rfl (by decide) dX11_be_4 rfl ?_
  refine w_icmp_ge C (qt := 20) dX11_be_5 (by decide) rfl h (fun _ h => ?_) (fun _ h => ?_)
  · exact w_rv hr h (by decide) dX11_be_20
  · refine w_aload_n C dX11_be_8 rfl 1 rfl ?_
    refine w_iload_n C dX11_be_9 rfl 0 rfl ?_
    refine w_aload_n C dX11_be_10 rfl 2 rfl ?_
    refine w_iload_n C dX11_be_11 rfl 0 rfl ?_
    refine w_iald C 36 8 0 (Nat.le_of_ble_eq_true rfl) (fun _ => rfl) rfl h dX11_be_12 rfl (fun h => ?_)
    refine w_iast C 28 8 0 (Nat.le_of_ble_eq_true rfl) (fun _ => rfl) rfl h dX11_be_13 rfl (fun h => ?_)
    refine w_nst h (fun u4 h => ?_)
    refine w_iinc (j := 0) C (v1.2 + 1) [(2, .int (v1.2 + 1)), (0, .ref (ad 28)), (1, .ref (ad 36))] dX11_be_14 rfl rfl rfl (by decide) rfl ?_
    refine w_goto (q := 2) C dX11_be_17 (by decide) ?_
    exact w_sub (lv' := [(2, .int (v1.2 + 1)), (0, .ref (ad 28)), (1, .ref (ad 36))]) [0, 1, 2] rfl (hK3 ((u4, v1.2 + 1)) h)
theorem cfX11_be_9 (D : va_G) (cI cT : ClassId) (ad : Nat → Nat) {l : Launch} (had : gAp (gM D cI cT ad)) {F : Nat} {σ : St}  {σ' : St} (h : fX11_be_9 F σ = some σ') : MV l yX11_be (wB yX11_be cX11_be 3 none) 0 0 (gM D cI cT ad) [.ref (ad 28), .ref (ad 36)] σ σ' := mk_MV had (by decide +kernel) (Nat.le_of_ble_eq_true rfl) (fun X hX C hr => wfX11_be_9 C hr h)

def fX11_be_10 (F : Nat) (σ : St) : Option St := lp (fun (K2 : (St × Int32) → Option St) (v1 : St × Int32) => if (8 : Int32) ≤ v1.2 then (some v1.1) else ckI (v1.2) 8 (ckI (v1.2) 8 (nm (up v1.1 29 (Int32.toNatClampNeg v1.2) (v1.1 37 (Int32.toNatClampNeg v1.2))) fun u4 => K2 ((u4, v1.2 + 1))))) F ((σ, 0))
set_option maxRecDepth 20000 in
theorem wfX11_be_10 {X : XT} {D : va_G} {cI cT : ClassId} {ad : Nat → Nat} {F : Nat} {σ : St}  {σ' : St} (C : Cx X (gM D cI cT ad) cX11_be 3 RX11 0 0 0) (hr : RetV X (gM D cI cT ad) cX11_be 3 0 σ') (h : fX11_be_10 F σ = some σ') : WP X (gM D cI cT ad) 3 0 0 σ [(0, .ref (ad 29)), (1, .ref (ad 37))] [] := by
  unfold fX11_be_10 at h
  refine w_iconst C 0 dX11_be_0 rfl (by decide) ?_
  refine w_istore_n C [(2, .int 0), (0, .ref (ad 29)), (1, .ref (ad 37))] dX11_be_1 rfl (by decide) rfl ?_
  refine w_sub (lv' := [(2, .int 0), (0, .ref (ad 29)), (1, .ref (ad 37))]) [0, 1, 2] rfl ?_
  refine lp_w (fun v1 : St × Int32 => WP X (gM D cI cT ad) 3 0 2 v1.1 [(2, .int v1.2), (0, .ref (ad 29)), (1, .ref (ad 37))] []) (fun K2 hK3 v1 h => ?_) F _ h
  refine w_iload_n C dX11_be_2 rfl 0 rfl ?_
  refine w_aload_n C dX11_be_3 rfl 1 rfl ?_
  refine w_alen C 29 8 0 8 (Nat.le_of_ble_eq_true rfl) (fun _ => rfl) rfl (by decide) dX11_be_4 rfl ?_
  refine w_icmp_ge C (qt := 20) dX11_be_5 (by decide) rfl h (fun _ h => ?_) (fun _ h => ?_)
  · exact w_rv hr h (by decide) dX11_be_20
  · refine w_aload_n C dX11_be_8 rfl 1 rfl ?_
    refine w_iload_n C dX11_be_9 rfl 0 rfl ?_
    refine w_aload_n C dX11_be_10 rfl 2 rfl ?_
    refine w_iload_n C dX11_be_11 rfl 0 rfl ?_
    refine w_iald C 37 8 0 (Nat.le_of_ble_eq_true rfl) (fun _ => rfl) rfl h dX11_be_12 rfl (fun h => ?_)
    refine w_iast C 29 8 0 (Nat.le_of_ble_eq_true rfl) (fun _ => rfl) rfl h dX11_be_13 rfl (fun h => ?_)
    refine w_nst h (fun u4 h => ?_)
    refine w_iinc (j := 0) C (v1.2 + 1) [(2, .int (v1.2 + 1)), (0, .ref (ad 29)), (1, .ref (ad 37))] dX11_be_14 rfl rfl rfl (by decide) rfl ?_
    refine w_goto (q := 2) C dX11_be_17 (by decide) ?_
    exact w_sub (lv' := [(2, .int (v1.2 + 1)), (0, .ref (ad 29)), (1, .ref (ad 37))]) [0, 1, 2] rfl (hK3 ((u4, v1.2 + 1)) h)
theorem cfX11_be_10 (D : va_G) (cI cT : ClassId) (ad : Nat → Nat) {l : Launch} (had : gAp (gM D cI cT ad)) {F : Nat} {σ : St}  {σ' : St} (h : fX11_be_10 F σ = some σ') : MV l yX11_be (wB yX11_be cX11_be 3 none) 0 0 (gM D cI cT ad) [.ref (ad 29), .ref (ad 37)] σ σ' := mk_MV had (by decide +kernel) (Nat.le_of_ble_eq_true rfl) (fun X hX C hr => wfX11_be_10 C hr h)

def fX11_be_11 (F : Nat) (σ : St) : Option St := lp (fun (K2 : (St × Int32) → Option St) (v1 : St × Int32) => if (8 : Int32) ≤ v1.2 then (some v1.1) else ckI (v1.2) 8 (ckI (v1.2) 8 (nm (up v1.1 30 (Int32.toNatClampNeg v1.2) (v1.1 38 (Int32.toNatClampNeg v1.2))) fun u4 => K2 ((u4, v1.2 + 1))))) F ((σ, 0))
set_option maxRecDepth 20000 in
theorem wfX11_be_11 {X : XT} {D : va_G} {cI cT : ClassId} {ad : Nat → Nat} {F : Nat} {σ : St}  {σ' : St} (C : Cx X (gM D cI cT ad) cX11_be 3 RX11 0 0 0) (hr : RetV X (gM D cI cT ad) cX11_be 3 0 σ') (h : fX11_be_11 F σ = some σ') : WP X (gM D cI cT ad) 3 0 0 σ [(0, .ref (ad 30)), (1, .ref (ad 38))] [] := by
  unfold fX11_be_11 at h
  refine w_iconst C 0 dX11_be_0 rfl (by decide) ?_
  refine w_istore_n C [(2, .int 0), (0, .ref (ad 30)), (1, .ref (ad 38))] dX11_be_1 rfl (by decide) rfl ?_
  refine w_sub (lv' := [(2, .int 0), (0, .ref (ad 30)), (1, .ref (ad 38))]) [0, 1, 2] rfl ?_
  refine lp_w (fun v1 : St × Int32 => WP X (gM D cI cT ad) 3 0 2 v1.1 [(2, .int v1.2), (0, .ref (ad 30)), (1, .ref (ad 38))] []) (fun K2 hK3 v1 h => ?_) F _ h
  refine w_iload_n C dX11_be_2 rfl 0 rfl ?_
  refine w_aload_n C dX11_be_3 rfl 1 rfl ?_
  refine w_alen C 30 8 0 8 (Nat.le_of_ble_eq_true rfl) (fun _ => rfl) rfl (by decide) dX11_be_4 rfl ?_
  refine w_icmp_ge C (qt := 20) dX11_be_5 (by decide) rfl h (fun _ h => ?_) (fun _ h => ?_)
  · exact w_rv hr h (by decide) dX11_be_20
  · refine w_aload_n C dX11_be_8 rfl 1 rfl ?_
    refine w_iload_n C dX11_be_9 rfl 0 rfl ?_
    refine w_aload_n C dX11_be_10 rfl 2 rfl ?_
    refine w_iload_n C dX11_be_11 rfl 0 rfl ?_
    refine w_iald C 38 8 0 (Nat.le_of_ble_eq_true rfl) (fun _ => rfl) rfl h dX11_be_12 rfl (fun h => ?_)
    refine w_iast C 30 8 0 (Nat.le_of_ble_eq_true rfl) (fun _ => rfl) rfl h dX11_be_13 rfl (fun h => ?_)
    refine w_nst h (fun u4 h => ?_)
    refine w_iinc (j := 0) C (v1.2 + 1) [(2, .int (v1.2 + 1)), (0, .ref (ad 30)), (1, .ref (ad 38))] dX11_be_14 rfl rfl rfl (by decide) rfl ?_
    refine w_goto (q := 2) C dX11_be_17 (by decide) ?_
    exact w_sub (lv' := [(2, .int (v1.2 + 1)), (0, .ref (ad 30)), (1, .ref (ad 38))]) [0, 1, 2] rfl (hK3 ((u4, v1.2 + 1)) h)
theorem cfX11_be_11 (D : va_G) (cI cT : ClassId) (ad : Nat → Nat) {l : Launch} (had : gAp (gM D cI cT ad)) {F : Nat} {σ : St}  {σ' : St} (h : fX11_be_11 F σ = some σ') : MV l yX11_be (wB yX11_be cX11_be 3 none) 0 0 (gM D cI cT ad) [.ref (ad 30), .ref (ad 38)] σ σ' := mk_MV had (by decide +kernel) (Nat.le_of_ble_eq_true rfl) (fun X hX C hr => wfX11_be_11 C hr h)

def fX11_be_12 (F : Nat) (σ : St) : Option St := lp (fun (K2 : (St × Int32) → Option St) (v1 : St × Int32) => if (8 : Int32) ≤ v1.2 then (some v1.1) else ckI (v1.2) 8 (ckI (v1.2) 8 (nm (up v1.1 31 (Int32.toNatClampNeg v1.2) (v1.1 39 (Int32.toNatClampNeg v1.2))) fun u4 => K2 ((u4, v1.2 + 1))))) F ((σ, 0))
set_option maxRecDepth 20000 in
theorem wfX11_be_12 {X : XT} {D : va_G} {cI cT : ClassId} {ad : Nat → Nat} {F : Nat} {σ : St}  {σ' : St} (C : Cx X (gM D cI cT ad) cX11_be 3 RX11 0 0 0) (hr : RetV X (gM D cI cT ad) cX11_be 3 0 σ') (h : fX11_be_12 F σ = some σ') : WP X (gM D cI cT ad) 3 0 0 σ [(0, .ref (ad 31)), (1, .ref (ad 39))] [] := by
  unfold fX11_be_12 at h
  refine w_iconst C 0 dX11_be_0 rfl (by decide) ?_
  refine w_istore_n C [(2, .int 0), (0, .ref (ad 31)), (1, .ref (ad 39))] dX11_be_1 rfl (by decide) rfl ?_
  refine w_sub (lv' := [(2, .int 0), (0, .ref (ad 31)), (1, .ref (ad 39))]) [0, 1, 2] rfl ?_
  refine lp_w (fun v1 : St × Int32 => WP X (gM D cI cT ad) 3 0 2 v1.1 [(2, .int v1.2), (0, .ref (ad 31)), (1, .ref (ad 39))] []) (fun K2 hK3 v1 h => ?_) F _ h
  refine w_iload_n C dX11_be_2 rfl 0 rfl ?_
  refine w_aload_n C dX11_be_3 rfl 1 rfl ?_
  refine w_alen C 31 8 0 8 (Nat.le_of_ble_eq_true rfl) (fun _ => rfl) rfl (by decide) dX11_be_4 rfl ?_
  refine w_icmp_ge C (qt := 20) dX11_be_5 (by decide) rfl h (fun _ h => ?_) (fun _ h => ?_)
  · exact w_rv hr h (by decide) dX11_be_20
  · refine w_aload_n C dX11_be_8 rfl 1 rfl ?_
    refine w_iload_n C dX11_be_9 rfl 0 rfl ?_
    refine w_aload_n C dX11_be_10 rfl 2 rfl ?_
    refine w_iload_n C dX11_be_11 rfl 0 rfl ?_
    refine w_iald C 39 8 0 (Nat.le_of_ble_eq_true rfl) (fun _ => rfl) rfl h dX11_be_12 rfl (fun h => ?_)
    refine w_iast C 31 8 0 (Nat.le_of_ble_eq_true rfl) (fun _ => rfl) rfl h dX11_be_13 rfl (fun h => ?_)
    refine w_nst h (fun u4 h => ?_)
    refine w_iinc (j := 0) C (v1.2 + 1) [(2, .int (v1.2 + 1)), (0, .ref (ad 31)), (1, .ref (ad 39))] dX11_be_14 rfl rfl rfl (by decide) rfl ?_
    refine w_goto (q := 2) C dX11_be_17 (by decide) ?_
    exact w_sub (lv' := [(2, .int (v1.2 + 1)), (0, .ref (ad 31)), (1, .ref (ad 39))]) [0, 1, 2] rfl (hK3 ((u4, v1.2 + 1)) h)
theorem cfX11_be_12 (D : va_G) (cI cT : ClassId) (ad : Nat → Nat) {l : Launch} (had : gAp (gM D cI cT ad)) {F : Nat} {σ : St}  {σ' : St} (h : fX11_be_12 F σ = some σ') : MV l yX11_be (wB yX11_be cX11_be 3 none) 0 0 (gM D cI cT ad) [.ref (ad 31), .ref (ad 39)] σ σ' := mk_MV had (by decide +kernel) (Nat.le_of_ble_eq_true rfl) (fun X hX C hr => wfX11_be_12 C hr h)

def fX11_be_13 (F : Nat) (σ : St) : Option St := lp (fun (K2 : (St × Int32) → Option St) (v1 : St × Int32) => if (8 : Int32) ≤ v1.2 then (some v1.1) else ckI (v1.2) 8 (ckI (v1.2) 8 (nm (up v1.1 32 (Int32.toNatClampNeg v1.2) (v1.1 40 (Int32.toNatClampNeg v1.2))) fun u4 => K2 ((u4, v1.2 + 1))))) F ((σ, 0))
set_option maxRecDepth 20000 in
theorem wfX11_be_13 {X : XT} {D : va_G} {cI cT : ClassId} {ad : Nat → Nat} {F : Nat} {σ : St}  {σ' : St} (C : Cx X (gM D cI cT ad) cX11_be 3 RX11 0 0 0) (hr : RetV X (gM D cI cT ad) cX11_be 3 0 σ') (h : fX11_be_13 F σ = some σ') : WP X (gM D cI cT ad) 3 0 0 σ [(0, .ref (ad 32)), (1, .ref (ad 40))] [] := by
  unfold fX11_be_13 at h
  refine w_iconst C 0 dX11_be_0 rfl (by decide) ?_
  refine w_istore_n C [(2, .int 0), (0, .ref (ad 32)), (1, .ref (ad 40))] dX11_be_1 rfl (by decide) rfl ?_
  refine w_sub (lv' := [(2, .int 0), (0, .ref (ad 32)), (1, .ref (ad 40))]) [0, 1, 2] rfl ?_
  refine lp_w (fun v1 : St × Int32 => WP X (gM D cI cT ad) 3 0 2 v1.1 [(2, .int v1.2), (0, .ref (ad 32)), (1, .ref (ad 40))] []) (fun K2 hK3 v1 h => ?_) F _ h
  refine w_iload_n C dX11_be_2 rfl 0 rfl ?_
  refine w_aload_n C dX11_be_3 rfl 1 rfl ?_
  refine w_alen C 32 8 0 8 (Nat.le_of_ble_eq_true rfl) (fun _ => rfl) rfl (by decide) dX11_be_4 rfl ?_
  refine w_icmp_ge C (qt := 20) dX11_be_5 (by decide) rfl h (fun _ h => ?_) (fun _ h => ?_)
  · exact w_rv hr h (by decide) dX11_be_20
  · refine w_aload_n C dX11_be_8 rfl 1 rfl ?_
    refine w_iload_n C dX11_be_9 rfl 0 rfl ?_
    refine w_aload_n C dX11_be_10 rfl 2 rfl ?_
    refine w_iload_n C dX11_be_11 rfl 0 rfl ?_
    refine w_iald C 40 8 0 (Nat.le_of_ble_eq_true rfl) (fun _ => rfl) rfl h dX11_be_12 rfl (fun h => ?_)
    refine w_iast C 32 8 0 (Nat.le_of_ble_eq_true rfl) (fun _ => rfl) rfl h dX11_be_13 rfl (fun h => ?_)
    refine w_nst h (fun u4 h => ?_)
    refine w_iinc (j := 0) C (v1.2 + 1) [(2, .int (v1.2 + 1)), (0, .ref (ad 32)), (1, .ref (ad 40))] dX11_be_14 rfl rfl rfl (by decide) rfl ?_
    refine w_goto (q := 2) C dX11_be_17 (by decide) ?_
    exact w_sub (lv' := [(2, .int (v1.2 + 1)), (0, .ref (ad 32)), (1, .ref (ad 40))]) [0, 1, 2] rfl (hK3 ((u4, v1.2 + 1)) h)
theorem cfX11_be_13 (D : va_G) (cI cT : ClassId) (ad : Nat → Nat) {l : Launch} (had : gAp (gM D cI cT ad)) {F : Nat} {σ : St}  {σ' : St} (h : fX11_be_13 F σ = some σ') : MV l yX11_be (wB yX11_be cX11_be 3 none) 0 0 (gM D cI cT ad) [.ref (ad 32), .ref (ad 40)] σ σ' := mk_MV had (by decide +kernel) (Nat.le_of_ble_eq_true rfl) (fun X hX C hr => wfX11_be_13 C hr h)

def fX11_be_14 (F : Nat) (σ : St) : Option St := lp (fun (K2 : (St × Int32) → Option St) (v1 : St × Int32) => if (3 : Int32) ≤ v1.2 then (some v1.1) else ckI (v1.2) 3 (ckI (v1.2) 3 (nm (up v1.1 16 (Int32.toNatClampNeg v1.2) (v1.1 41 (Int32.toNatClampNeg v1.2))) fun u4 => K2 ((u4, v1.2 + 1))))) F ((σ, 0))
set_option maxRecDepth 20000 in
theorem wfX11_be_14 {X : XT} {D : va_G} {cI cT : ClassId} {ad : Nat → Nat} {F : Nat} {σ : St}  {σ' : St} (C : Cx X (gM D cI cT ad) cX11_be 3 RX11 0 0 0) (hr : RetV X (gM D cI cT ad) cX11_be 3 0 σ') (h : fX11_be_14 F σ = some σ') : WP X (gM D cI cT ad) 3 0 0 σ [(0, .ref (ad 16)), (1, .ref (ad 41))] [] := by
  unfold fX11_be_14 at h
  refine w_iconst C 0 dX11_be_0 rfl (by decide) ?_
  refine w_istore_n C [(2, .int 0), (0, .ref (ad 16)), (1, .ref (ad 41))] dX11_be_1 rfl (by decide) rfl ?_
  refine w_sub (lv' := [(2, .int 0), (0, .ref (ad 16)), (1, .ref (ad 41))]) [0, 1, 2] rfl ?_
  refine lp_w (fun v1 : St × Int32 => WP X (gM D cI cT ad) 3 0 2 v1.1 [(2, .int v1.2), (0, .ref (ad 16)), (1, .ref (ad 41))] []) (fun K2 hK3 v1 h => ?_) F _ h
  refine w_iload_n C dX11_be_2 rfl 0 rfl ?_
  refine w_aload_n C dX11_be_3 rfl 1 rfl ?_
  refine w_alen C 16 3 0 3 (Nat.le_of_ble_eq_true rfl) (fun _ => rfl) rfl (by decide) dX11_be_4 rfl ?_
  refine w_icmp_ge C (qt := 20) dX11_be_5 (by decide) rfl h (fun _ h => ?_) (fun _ h => ?_)
  · exact w_rv hr h (by decide) dX11_be_20
  · refine w_aload_n C dX11_be_8 rfl 1 rfl ?_
    refine w_iload_n C dX11_be_9 rfl 0 rfl ?_
    refine w_aload_n C dX11_be_10 rfl 2 rfl ?_
    refine w_iload_n C dX11_be_11 rfl 0 rfl ?_
    refine w_iald C 41 3 0 (Nat.le_of_ble_eq_true rfl) (fun _ => rfl) rfl h dX11_be_12 rfl (fun h => ?_)
    refine w_iast C 16 3 0 (Nat.le_of_ble_eq_true rfl) (fun _ => rfl) rfl h dX11_be_13 rfl (fun h => ?_)
    refine w_nst h (fun u4 h => ?_)
    refine w_iinc (j := 0) C (v1.2 + 1) [(2, .int (v1.2 + 1)), (0, .ref (ad 16)), (1, .ref (ad 41))] dX11_be_14 rfl rfl rfl (by decide) rfl ?_
    refine w_goto (q := 2) C dX11_be_17 (by decide) ?_
    exact w_sub (lv' := [(2, .int (v1.2 + 1)), (0, .ref (ad 16)), (1, .ref (ad 41))]) [0, 1, 2] rfl (hK3 ((u4, v1.2 + 1)) h)
theorem cfX11_be_14 (D : va_G) (cI cT : ClassId) (ad : Nat → Nat) {l : Launch} (had : gAp (gM D cI cT ad)) {F : Nat} {σ : St}  {σ' : St} (h : fX11_be_14 F σ = some σ') : MV l yX11_be (wB yX11_be cX11_be 3 none) 0 0 (gM D cI cT ad) [.ref (ad 16), .ref (ad 41)] σ σ' := mk_MV had (by decide +kernel) (Nat.le_of_ble_eq_true rfl) (fun X hX C hr => wfX11_be_14 C hr h)

def fX11_restore (F : Nat) (σ : St) : Option (Int32 × St) := nm (up σ 0 4 0) fun u2 => if (u2 0 50) = 0 then (some (0, u2)) else nm (up u2 0 33 (u2 0 51)) fun u4 => nm (up u4 0 34 (u4 0 52)) fun u6 => bd1 (fX11_unpack_3 F u6 0) fun u7 => bd1 (fX11_be_8 F u7) fun u8 => bd1 (fX11_be_9 F u8) fun u9 => bd1 (fX11_be_10 F u9) fun u10 => bd1 (fX11_be_11 F u10) fun u11 => bd1 (fX11_be_12 F u11) fun u12 => bd1 (fX11_be_13 F u12) fun u13 => bd1 (fX11_be_14 F u13) fun u14 => some (1, u14)
set_option maxRecDepth 20000 in
theorem wfX11_restore {X : XT} {D : va_G} {cI cT : ClassId} {ad : Nat → Nat} {F : Nat} {σ : St}  {r : Int32} {σ' : St} (C : Cx X (gM D cI cT ad) cX11_restore 1 RX11 1 24 0) (hr : RetZ X (gM D cI cT ad) cX11_restore 1 0 r σ') (h : fX11_restore F σ = some (r, σ')) : WP X (gM D cI cT ad) 1 0 0 σ [(0, .ref (ad 0))] [] := by
  unfold fX11_restore at h
  refine w_aload_n C dX11_restore_0 rfl 0 rfl ?_
  refine w_iconst C 0 dX11_restore_1 rfl (by decide) ?_
  refine w_put C 0 4 0 (Nat.le_of_ble_eq_true rfl) rfl rfl inB_X11 tyX11_ok nmX11 (by decide) tw6_165 rfl rfl rfl (Nat.le_of_ble_eq_true rfl) rfl dX11_restore_2 rfl ?_
  refine w_nst h (fun u2 h => ?_)
  refine w_aload_n C dX11_restore_5 rfl 0 rfl ?_
  refine w_get C 0 50 (Nat.le_of_ble_eq_true rfl) rfl rfl inB_X11 (by decide) tw6_211 rfl dX11_restore_6 rfl ?_
  refine w_if_ne C (qt := 14) dX11_restore_9 (by decide) rfl h (fun _ h => ?_) (fun _ h => ?_)
  · refine w_aload_n C dX11_restore_14 rfl 0 rfl ?_
    refine w_aload_n C dX11_restore_15 rfl 0 rfl ?_
    refine w_get C 0 51 (Nat.le_of_ble_eq_true rfl) rfl rfl inB_X11 (by decide) tw6_212 rfl dX11_restore_16 rfl ?_
    refine w_put C 0 33 (u2 0 51) (Nat.le_of_ble_eq_true rfl) rfl rfl inB_X11 tyX11_ok nmX11 (by decide) tw6_194 rfl rfl rfl (Nat.le_of_ble_eq_true rfl) rfl dX11_restore_19 rfl ?_
    refine w_nst h (fun u4 h => ?_)
    refine w_aload_n C dX11_restore_22 rfl 0 rfl ?_
    refine w_aload_n C dX11_restore_23 rfl 0 rfl ?_
    refine w_get C 0 52 (Nat.le_of_ble_eq_true rfl) rfl rfl inB_X11 (by decide) tw6_213 rfl dX11_restore_24 rfl ?_
    refine w_put C 0 34 (u4 0 52) (Nat.le_of_ble_eq_true rfl) rfl rfl inB_X11 tyX11_ok nmX11 (by decide) tw6_195 rfl rfl rfl (Nat.le_of_ble_eq_true rfl) rfl dX11_restore_27 rfl ?_
    refine w_nst h (fun u6 h => ?_)
    refine w_aload_n C dX11_restore_30 rfl 0 rfl ?_
    refine w_aload_n C dX11_restore_31 rfl 0 rfl ?_
    refine w_get C 0 53 (Nat.le_of_ble_eq_true rfl) rfl rfl inB_X11 (by decide) tw6_214 rfl dX11_restore_32 rfl ?_
    refine w_iconst C 0 dX11_restore_35 rfl (by decide) ?_
    refine bd1_w h (fun u7 hc h => ?_)
    refine w_callVv C (n := 2) (As := [.ref (ad 34), .int 0]) (st := []) 0 (Nat.le_of_ble_eq_true rfl) rfl rfl (cfX11_unpack_3 D cI cT ad (l := X.2.1) C.2.2.1 hc) tw8_192 cy_X11_unpack (by decide +kernel) ⟨Nat.le_of_ble_eq_true rfl, Nat.le_of_ble_eq_true rfl⟩ (by decide) rfl rfl (Nat.le_of_ble_eq_true rfl) dX11_restore_36 rfl ?_
    refine w_aload_n C dX11_restore_39 rfl 0 rfl ?_
    refine w_get C 0 30 (Nat.le_of_ble_eq_true rfl) rfl rfl inB_X11 (by decide) tw6_191 rfl dX11_restore_40 rfl ?_
    refine w_aload_n C dX11_restore_43 rfl 0 rfl ?_
    refine w_get C 0 54 (Nat.le_of_ble_eq_true rfl) rfl rfl inB_X11 (by decide) tw6_215 rfl dX11_restore_44 rfl ?_
    refine bd1_w h (fun u8 hc h => ?_)
    refine w_callSv C (n := 2) (As := [.ref (ad 20), .ref (ad 35)]) (st := []) (cfX11_be_8 D cI cT ad (l := X.2.1) C.2.2.1 hc) tw9_59 cs_X11_be (by decide +kernel) ⟨Nat.le_of_ble_eq_true rfl, Nat.le_of_ble_eq_true rfl⟩ (by decide) rfl rfl (Nat.le_of_ble_eq_true rfl) dX11_restore_47 rfl ?_
    refine w_aload_n C dX11_restore_50 rfl 0 rfl ?_
    refine w_get C 0 43 (Nat.le_of_ble_eq_true rfl) rfl rfl inB_X11 (by decide) tw6_204 rfl dX11_restore_51 rfl ?_
    refine w_aload_n C dX11_restore_54 rfl 0 rfl ?_
    refine w_get C 0 55 (Nat.le_of_ble_eq_true rfl) rfl rfl inB_X11 (by decide) tw6_216 rfl dX11_restore_55 rfl ?_
    refine bd1_w h (fun u9 hc h => ?_)
    refine w_callSv C (n := 2) (As := [.ref (ad 28), .ref (ad 36)]) (st := []) (cfX11_be_9 D cI cT ad (l := X.2.1) C.2.2.1 hc) tw9_59 cs_X11_be (by decide +kernel) ⟨Nat.le_of_ble_eq_true rfl, Nat.le_of_ble_eq_true rfl⟩ (by decide) rfl rfl (Nat.le_of_ble_eq_true rfl) dX11_restore_58 rfl ?_
    refine w_aload_n C dX11_restore_61 rfl 0 rfl ?_
    refine w_get C 0 44 (Nat.le_of_ble_eq_true rfl) rfl rfl inB_X11 (by decide) tw6_205 rfl dX11_restore_62 rfl ?_
    refine w_aload_n C dX11_restore_65 rfl 0 rfl ?_
    refine w_get C 0 56 (Nat.le_of_ble_eq_true rfl) rfl rfl inB_X11 (by decide) tw6_217 rfl dX11_restore_66 rfl ?_
    refine bd1_w h (fun u10 hc h => ?_)
    refine w_callSv C (n := 2) (As := [.ref (ad 29), .ref (ad 37)]) (st := []) (cfX11_be_10 D cI cT ad (l := X.2.1) C.2.2.1 hc) tw9_59 cs_X11_be (by decide +kernel) ⟨Nat.le_of_ble_eq_true rfl, Nat.le_of_ble_eq_true rfl⟩ (by decide) rfl rfl (Nat.le_of_ble_eq_true rfl) dX11_restore_69 rfl ?_
    refine w_aload_n C dX11_restore_72 rfl 0 rfl ?_
    refine w_get C 0 45 (Nat.le_of_ble_eq_true rfl) rfl rfl inB_X11 (by decide) tw6_206 rfl dX11_restore_73 rfl ?_
    refine w_aload_n C dX11_restore_76 rfl 0 rfl ?_
    refine w_get C 0 57 (Nat.le_of_ble_eq_true rfl) rfl rfl inB_X11 (by decide) tw6_218 rfl dX11_restore_77 rfl ?_
    refine bd1_w h (fun u11 hc h => ?_)
    refine w_callSv C (n := 2) (As := [.ref (ad 30), .ref (ad 38)]) (st := []) (cfX11_be_11 D cI cT ad (l := X.2.1) C.2.2.1 hc) tw9_59 cs_X11_be (by decide +kernel) ⟨Nat.le_of_ble_eq_true rfl, Nat.le_of_ble_eq_true rfl⟩ (by decide) rfl rfl (Nat.le_of_ble_eq_true rfl) dX11_restore_80 rfl ?_
    refine w_aload_n C dX11_restore_83 rfl 0 rfl ?_
    refine w_get C 0 46 (Nat.le_of_ble_eq_true rfl) rfl rfl inB_X11 (by decide) tw6_207 rfl dX11_restore_84 rfl ?_
    refine w_aload_n C dX11_restore_87 rfl 0 rfl ?_
    refine w_get C 0 58 (Nat.le_of_ble_eq_true rfl) rfl rfl inB_X11 (by decide) tw6_219 rfl dX11_restore_88 rfl ?_
    refine bd1_w h (fun u12 hc h => ?_)
    refine w_callSv C (n := 2) (As := [.ref (ad 31), .ref (ad 39)]) (st := []) (cfX11_be_12 D cI cT ad (l := X.2.1) C.2.2.1 hc) tw9_59 cs_X11_be (by decide +kernel) ⟨Nat.le_of_ble_eq_true rfl, Nat.le_of_ble_eq_true rfl⟩ (by decide) rfl rfl (Nat.le_of_ble_eq_true rfl) dX11_restore_91 rfl ?_
    refine w_aload_n C dX11_restore_94 rfl 0 rfl ?_
    refine w_get C 0 47 (Nat.le_of_ble_eq_true rfl) rfl rfl inB_X11 (by decide) tw6_208 rfl dX11_restore_95 rfl ?_
    refine w_aload_n C dX11_restore_98 rfl 0 rfl ?_
    refine w_get C 0 59 (Nat.le_of_ble_eq_true rfl) rfl rfl inB_X11 (by decide) tw6_220 rfl dX11_restore_99 rfl ?_
    refine bd1_w h (fun u13 hc h => ?_)
    refine w_callSv C (n := 2) (As := [.ref (ad 32), .ref (ad 40)]) (st := []) (cfX11_be_13 D cI cT ad (l := X.2.1) C.2.2.1 hc) tw9_59 cs_X11_be (by decide +kernel) ⟨Nat.le_of_ble_eq_true rfl, Nat.le_of_ble_eq_true rfl⟩ (by decide) rfl rfl (Nat.le_of_ble_eq_true rfl) dX11_restore_102 rfl ?_
    refine w_aload_n C dX11_restore_105 rfl 0 rfl ?_
    refine w_get C 0 16 (Nat.le_of_ble_eq_true rfl) rfl rfl inB_X11 (by decide) tw6_177 rfl dX11_restore_106 rfl ?_
    refine w_aload_n C dX11_restore_109 rfl 0 rfl ?_
    refine w_get C 0 60 (Nat.le_of_ble_eq_true rfl) rfl rfl inB_X11 (by decide) tw6_221 rfl dX11_restore_110 rfl ?_
    refine bd1_w h (fun u14 hc h => ?_)
    refine w_callSv C (n := 2) (As := [.ref (ad 16), .ref (ad 41)]) (st := []) (cfX11_be_14 D cI cT ad (l := X.2.1) C.2.2.1 hc) tw9_59 cs_X11_be (by decide +kernel) ⟨Nat.le_of_ble_eq_true rfl, Nat.le_of_ble_eq_true rfl⟩ (by decide) rfl rfl (Nat.le_of_ble_eq_true rfl) dX11_restore_113 rfl ?_
    refine w_iconst C 1 dX11_restore_116 rfl (by decide) ?_
    exact w_rz2 hr (by decide) h (by decide) dX11_restore_117
  · refine w_iconst C 0 dX11_restore_12 rfl (by decide) ?_
    exact w_rz2 hr (by decide) h (by decide) dX11_restore_13
theorem cfX11_restore (D : va_G) (cI cT : ClassId) (ad : Nat → Nat) {l : Launch} (had : gAp (gM D cI cT ad)) {F : Nat} {σ : St}  {r : Int32} {σ' : St} (h : fX11_restore F σ = some (r, σ')) : MI l yX11_restore (wB yX11_restore cX11_restore 1 (some .boolean)) 1 24 (gM D cI cT ad) [.ref (ad 0)] σ r σ' := mk_MZ had (by decide +kernel) (Nat.le_of_ble_eq_true rfl) (fun X hX C hr => wfX11_restore C hr h)

