def fX11_refuse (F : Nat) (σ : St) (a0 : Int32) : Option (Int32 × St) := ckI (a0) 3 (ckI (a0) 3 (nm (up σ 16 (Int32.toNatClampNeg a0) ((σ 16 (Int32.toNatClampNeg a0)) + 1)) fun u1 => some ((-1), u1)))
set_option maxRecDepth 20000 in
theorem wfX11_refuse {X : XT} {D : va_G} {cI cT : ClassId} {ad : Nat → Nat} {F : Nat} {σ : St} {a0 : Int32} {r : Int32} {σ' : St} (C : Cx X (gM D cI cT ad) cX11_refuse 2 RX11 0 0 0) (hr : RetI X (gM D cI cT ad) cX11_refuse 2 0 r σ') (h : fX11_refuse F σ a0 = some (r, σ')) : WP X (gM D cI cT ad) 2 0 0 σ [(0, .ref (ad 0)), (1, .int a0)] [] := by
  unfold fX11_refuse at h
  refine w_aload_n C dX11_refuse_0 rfl 0 rfl ?_
  refine w_get C 0 16 (Nat.le_of_ble_eq_true rfl) rfl rfl inB_X11 (by decide) tw6_177 rfl dX11_refuse_1 rfl ?_
  refine w_iload_n C dX11_refuse_4 rfl 1 rfl ?_
  refine w_dup2 C rfl rfl dX11_refuse_5 rfl ?_
  refine w_iald C 16 3 0 (Nat.le_of_ble_eq_true rfl) (fun _ => rfl) rfl h dX11_refuse_6 rfl (fun h => ?_)
  refine w_iconst C 1 dX11_refuse_7 rfl (by decide) ?_
  refine w_iadd C dX11_refuse_8 rfl ?_
  refine w_iast C 16 3 0 (Nat.le_of_ble_eq_true rfl) (fun _ => rfl) rfl h dX11_refuse_9 rfl (fun h => ?_)
  refine w_nst h (fun u1 h => ?_)
  refine w_iconst C (-1) dX11_refuse_10 rfl (by decide) ?_
  exact w_ri2 hr h (by decide) dX11_refuse_11
theorem cfX11_refuse (D : va_G) (cI cT : ClassId) (ad : Nat → Nat) {l : Launch} (had : gAp (gM D cI cT ad)) {F : Nat} {σ : St} {a0 : Int32} {r : Int32} {σ' : St} (h : fX11_refuse F σ a0 = some (r, σ')) : MI l yX11_refuse (wB yX11_refuse cX11_refuse 2 (some .int)) 0 0 (gM D cI cT ad) [.ref (ad 0), .int a0] σ r σ' := mk_MI had (by decide +kernel) (Nat.le_of_ble_eq_true rfl) (fun X hX C hr => wfX11_refuse C hr h)

def fX11_pack (F : Nat) (σ : St) (a1 : Int32) : Option St := ckI (a1) 5520 (nm (up σ 20 (Int32.toNatClampNeg a1) (σ 0 31)) fun u1 => ckI (a1 + 1) 5520 (nm (up u1 20 (Int32.toNatClampNeg (a1 + 1)) (u1 0 32)) fun u2 => nm (a1 + 2) fun x3 => lp (fun (K5 : (St × Int32) → Option St) (v4 : St × Int32) => if 8 ≤ v4.2 then (lp (fun (K8 : (St × Int32) → Option St) (v7 : St × Int32) => if 80 ≤ v7.2 then (lp (fun (K11 : (St × Int32) → Option St) (v10 : St × Int32) => if 48 ≤ v10.2 then (some v10.1) else ckI (v10.2) 48 (ckI (((x3 + 8) + 80) + v10.2) 5520 (nm (up v10.1 20 (Int32.toNatClampNeg (((x3 + 8) + 80) + v10.2)) (v10.1 19 (Int32.toNatClampNeg v10.2))) fun u13 => K11 ((u13, v10.2 + 1))))) F ((v7.1, 0))) else ckI (v7.2) 160 (ckI ((x3 + 8) + v7.2) 5520 (nm (up v7.1 20 (Int32.toNatClampNeg ((x3 + 8) + v7.2)) (v7.1 13 (Int32.toNatClampNeg v7.2))) fun u14 => K8 ((u14, v7.2 + 1))))) F ((v4.1, 0))) else ckI (v4.2) 8 (ckI (x3 + v4.2) 5520 (nm (up v4.1 20 (Int32.toNatClampNeg (x3 + v4.2)) (v4.1 18 (Int32.toNatClampNeg v4.2))) fun u15 => K5 ((u15, v4.2 + 1))))) F ((u2, 0))))
set_option maxRecDepth 20000 in
theorem wfX11_pack {X : XT} {D : va_G} {cI cT : ClassId} {ad : Nat → Nat} {F : Nat} {σ : St} {a1 : Int32} {σ' : St} (C : Cx X (gM D cI cT ad) cX11_pack 5 RX11 0 0 0) (hr : RetV X (gM D cI cT ad) cX11_pack 5 0 σ') (h : fX11_pack F σ a1 = some σ') : WP X (gM D cI cT ad) 5 0 0 σ [(0, .ref (ad 0)), (1, .ref (ad 20)), (2, .int a1)] [] := by
  unfold fX11_pack at h
  refine w_aload_n C dX11_pack_0 rfl 1 rfl ?_
  refine w_iload_n C dX11_pack_1 rfl 2 rfl ?_
  refine w_aload_n C dX11_pack_2 rfl 0 rfl ?_
  refine w_get C 0 31 (Nat.le_of_ble_eq_true rfl) rfl rfl inB_X11 (by decide) tw6_192 rfl dX11_pack_3 rfl ?_
  refine w_iast C 20 5520 0 (Nat.le_of_ble_eq_true rfl) (fun _ => rfl) rfl h dX11_pack_6 rfl (fun h => ?_)
  refine w_nst h (fun u1 h => ?_)
  refine w_aload_n C dX11_pack_7 rfl 1 rfl ?_
  refine w_iload_n C dX11_pack_8 rfl 2 rfl ?_
  refine w_iconst C 1 dX11_pack_9 rfl (by decide) ?_
  refine w_iadd C dX11_pack_10 rfl ?_
  refine w_aload_n C dX11_pack_11 rfl 0 rfl ?_
  refine w_get C 0 32 (Nat.le_of_ble_eq_true rfl) rfl rfl inB_X11 (by decide) tw6_193 rfl dX11_pack_12 rfl ?_
  refine w_iast C 20 5520 0 (Nat.le_of_ble_eq_true rfl) (fun _ => rfl) rfl h dX11_pack_15 rfl (fun h => ?_)
  refine w_nst h (fun u2 h => ?_)
  refine w_iload_n C dX11_pack_16 rfl 2 rfl ?_
  refine w_iconst C 2 dX11_pack_17 rfl (by decide) ?_
  refine w_iadd C dX11_pack_18 rfl ?_
  refine w_nm h (fun x3 h => ?_)
  refine w_istore_n C [(3, .int x3), (0, .ref (ad 0)), (1, .ref (ad 20)), (2, .int a1)] dX11_pack_19 rfl (by decide) rfl ?_
  refine w_iconst C 0 dX11_pack_20 rfl (by decide) ?_
  refine w_istore C [(4, .int 0), (3, .int x3), (0, .ref (ad 0)), (1, .ref (ad 20)), (2, .int a1)] dX11_pack_21 rfl (by decide) rfl ?_
  refine w_sub [0, 1, 2, 3] rfl ?_
  refine lp_w (fun v4 : St × Int32 => WP X (gM D cI cT ad) 5 0 23 v4.1 [(4, .int v4.2), (3, .int x3), (0, .ref (ad 0)), (1, .ref (ad 20))] []) (fun K5 hK6 v4 h => ?_) F _ h
  refine w_iload C dX11_pack_23 rfl 0 rfl ?_
  refine w_bipush C 8 dX11_pack_25 rfl (by decide) ?_
  refine w_icmp_ge C (qt := 49) dX11_pack_27 (by decide) rfl h (fun _ h => ?_) (fun _ h => ?_)
  · refine w_iinc (j := 1) C (x3 + 8) [(3, .int (x3 + 8)), (4, .int v4.2), (0, .ref (ad 0)), (1, .ref (ad 20))] dX11_pack_49 rfl rfl rfl (by decide) rfl ?_
    refine w_iconst C 0 dX11_pack_52 rfl (by decide) ?_
    refine w_istore C [(4, .int 0), (3, .int (x3 + 8)), (0, .ref (ad 0)), (1, .ref (ad 20))] dX11_pack_53 rfl (by decide) rfl ?_
    refine w_sub [0, 1, 2, 3] rfl ?_
    refine lp_w (fun v7 : St × Int32 => WP X (gM D cI cT ad) 5 0 55 v7.1 [(4, .int v7.2), (3, .int (x3 + 8)), (0, .ref (ad 0)), (1, .ref (ad 20))] []) (fun K8 hK9 v7 h => ?_) F _ h
    refine w_iload C dX11_pack_55 rfl 0 rfl ?_
    refine w_bipush C 80 dX11_pack_57 rfl (by decide) ?_
    refine w_icmp_ge C (qt := 81) dX11_pack_59 (by decide) rfl h (fun _ h => ?_) (fun _ h => ?_)
    · refine w_iinc (j := 1) C ((x3 + 8) + 80) [(3, .int ((x3 + 8) + 80)), (4, .int v7.2), (0, .ref (ad 0)), (1, .ref (ad 20))] dX11_pack_81 rfl rfl rfl (by decide) rfl ?_
      refine w_iconst C 0 dX11_pack_84 rfl (by decide) ?_
      refine w_istore C [(4, .int 0), (3, .int ((x3 + 8) + 80)), (0, .ref (ad 0)), (1, .ref (ad 20))] dX11_pack_85 rfl (by decide) rfl ?_
      refine w_sub [0, 1, 2, 3] rfl ?_
      refine lp_w (fun v10 : St × Int32 => WP X (gM D cI cT ad) 5 0 87 v10.1 [(4, .int v10.2), (3, .int ((x3 + 8) + 80)), (0, .ref (ad 0)), (1, .ref (ad 20))] []) (fun K11 hK12 v10 h => ?_) F _ h
      refine w_iload C dX11_pack_87 rfl 0 rfl ?_
      refine w_bipush C 48 dX11_pack_89 rfl (by decide) ?_
      refine w_icmp_ge C (qt := 113) dX11_pack_91 (by decide) rfl h (fun _ h => ?_) (fun _ h => ?_)
      · exact w_rv hr h (by decide) dX11_pack_113
      · refine w_aload_n C dX11_pack_94 rfl 3 rfl ?_
        refine w_iload_n C dX11_pack_95 rfl 1 rfl ?_
        refine w_iload C dX11_pack_96 rfl 0 rfl ?_
        refine w_iadd C dX11_pack_98 rfl ?_
        refine w_aload_n C dX11_pack_99 rfl 2 rfl ?_
        refine w_get C 0 29 (Nat.le_of_ble_eq_true rfl) rfl rfl inB_X11 (by decide) tw6_190 rfl dX11_pack_100 rfl ?_
        refine w_iload C dX11_pack_103 rfl 0 rfl ?_
        refine w_iald C 19 48 0 (Nat.le_of_ble_eq_true rfl) (fun _ => rfl) rfl h dX11_pack_105 rfl (fun h => ?_)
        refine w_iast C 20 5520 0 (Nat.le_of_ble_eq_true rfl) (fun _ => rfl) rfl h dX11_pack_106 rfl (fun h => ?_)
        refine w_nst h (fun u13 h => ?_)
        refine w_iinc (j := 0) C (v10.2 + 1) [(4, .int (v10.2 + 1)), (3, .int ((x3 + 8) + 80)), (0, .ref (ad 0)), (1, .ref (ad 20))] dX11_pack_107 rfl rfl rfl (by decide) rfl ?_
        refine w_goto (q := 87) C dX11_pack_110 (by decide) ?_
        exact w_sub [0, 1, 2, 3] rfl (hK12 _ h)
    · refine w_aload_n C dX11_pack_62 rfl 3 rfl ?_
      refine w_iload_n C dX11_pack_63 rfl 1 rfl ?_
      refine w_iload C dX11_pack_64 rfl 0 rfl ?_
      refine w_iadd C dX11_pack_66 rfl ?_
      refine w_aload_n C dX11_pack_67 rfl 2 rfl ?_
      refine w_get C 0 13 (Nat.le_of_ble_eq_true rfl) rfl rfl inB_X11 (by decide) tw6_174 rfl dX11_pack_68 rfl ?_
      refine w_iload C dX11_pack_71 rfl 0 rfl ?_
      refine w_iald C 13 160 0 (Nat.le_of_ble_eq_true rfl) (fun _ => rfl) rfl h dX11_pack_73 rfl (fun h => ?_)
      refine w_iast C 20 5520 0 (Nat.le_of_ble_eq_true rfl) (fun _ => rfl) rfl h dX11_pack_74 rfl (fun h => ?_)
      refine w_nst h (fun u14 h => ?_)
      refine w_iinc (j := 0) C (v7.2 + 1) [(4, .int (v7.2 + 1)), (3, .int (x3 + 8)), (0, .ref (ad 0)), (1, .ref (ad 20))] dX11_pack_75 rfl rfl rfl (by decide) rfl ?_
      refine w_goto (q := 55) C dX11_pack_78 (by decide) ?_
      exact w_sub [0, 1, 2, 3] rfl (hK9 _ h)
  · refine w_aload_n C dX11_pack_30 rfl 3 rfl ?_
    refine w_iload_n C dX11_pack_31 rfl 1 rfl ?_
    refine w_iload C dX11_pack_32 rfl 0 rfl ?_
    refine w_iadd C dX11_pack_34 rfl ?_
    refine w_aload_n C dX11_pack_35 rfl 2 rfl ?_
    refine w_get C 0 28 (Nat.le_of_ble_eq_true rfl) rfl rfl inB_X11 (by decide) tw6_189 rfl dX11_pack_36 rfl ?_
    refine w_iload C dX11_pack_39 rfl 0 rfl ?_
    refine w_iald C 18 8 0 (Nat.le_of_ble_eq_true rfl) (fun _ => rfl) rfl h dX11_pack_41 rfl (fun h => ?_)
    refine w_iast C 20 5520 0 (Nat.le_of_ble_eq_true rfl) (fun _ => rfl) rfl h dX11_pack_42 rfl (fun h => ?_)
    refine w_nst h (fun u15 h => ?_)
    refine w_iinc (j := 0) C (v4.2 + 1) [(4, .int (v4.2 + 1)), (3, .int x3), (0, .ref (ad 0)), (1, .ref (ad 20))] dX11_pack_43 rfl rfl rfl (by decide) rfl ?_
    refine w_goto (q := 23) C dX11_pack_46 (by decide) ?_
    exact w_sub [0, 1, 2, 3] rfl (hK6 _ h)
theorem cfX11_pack (D : va_G) (cI cT : ClassId) (ad : Nat → Nat) {l : Launch} (had : gAp (gM D cI cT ad)) {F : Nat} {σ : St} {a1 : Int32} {σ' : St} (h : fX11_pack F σ a1 = some σ') : MV l yX11_pack (wB yX11_pack cX11_pack 5 none) 0 0 (gM D cI cT ad) [.ref (ad 0), .ref (ad 20), .int a1] σ σ' := mk_MV had (by decide +kernel) (Nat.le_of_ble_eq_true rfl) (fun X hX C hr => wfX11_pack C hr h)

def fX11_keep (F : Nat) (σ : St) : Option St := jn (fun v1 : St => bd1 (fX11_pack F v1 (138 * (v1 0 33))) fun u4 => nm (up u4 0 33 ((u4 0 33) + 1)) fun u6 => some u6) fun J2 => if (σ 0 33) = 40 then (lp (fun (K8 : (St × Int32) → Option St) (v7 : St × Int32) => if 5520 ≤ v7.2 then (nm (up v7.1 0 33 ((v7.1 0 33) - 1)) fun u11 => J2 u11) else ckI (v7.2) 5520 (ckI (v7.2 - 138) 5520 (nm (up v7.1 20 (Int32.toNatClampNeg (v7.2 - 138)) (v7.1 20 (Int32.toNatClampNeg v7.2))) fun u12 => K8 ((u12, v7.2 + 1))))) F ((σ, 138))) else J2 σ
set_option maxRecDepth 20000 in
theorem wfX11_keep {X : XT} {D : va_G} {cI cT : ClassId} {ad : Nat → Nat} {F : Nat} {σ : St}  {σ' : St} (C : Cx X (gM D cI cT ad) cX11_keep 2 RX11 1 24 0) (hr : RetV X (gM D cI cT ad) cX11_keep 2 0 σ') (h : fX11_keep F σ = some σ') : WP X (gM D cI cT ad) 2 0 0 σ [(0, .ref (ad 0))] [] := by
  unfold fX11_keep at h
  refine w_aload_n C dX11_keep_0 rfl 0 rfl ?_
  refine w_get C 0 33 (Nat.le_of_ble_eq_true rfl) rfl rfl inB_X11 (by decide) tw6_194 rfl dX11_keep_1 rfl ?_
  refine w_bipush C 40 dX11_keep_4 rfl (by decide) ?_
  refine jn_w (fun v1 : St => WP X (gM D cI cT ad) 2 0 54 v1 [(0, .ref (ad 0))] []) h (fun v1 h => ?_) (fun J2 hJ3 h => ?_)
  · refine w_aload_n C dX11_keep_54 rfl 0 rfl ?_
    refine w_aload_n C dX11_keep_55 rfl 0 rfl ?_
    refine w_get C 0 30 (Nat.le_of_ble_eq_true rfl) rfl rfl inB_X11 (by decide) tw6_191 rfl dX11_keep_56 rfl ?_
    refine w_sipush C 138 dX11_keep_59 rfl (by decide) ?_
    refine w_aload_n C dX11_keep_62 rfl 0 rfl ?_
    refine w_get C 0 33 (Nat.le_of_ble_eq_true rfl) rfl rfl inB_X11 (by decide) tw6_194 rfl dX11_keep_63 rfl ?_
    refine w_imul C dX11_keep_66 rfl ?_
    refine bd1_w h (fun u4 hc h => ?_)
    refine w_callVv C (As := [.ref (ad 20), .int (138 * (v1 0 33))]) (st := []) 0 (Nat.le_of_ble_eq_true rfl) rfl rfl (cfX11_pack D cI cT ad (l := X.2.1) C.2.2.1 hc) tw8_158 cy_X11_pack (by decide +kernel) ⟨Nat.le_of_ble_eq_true rfl, Nat.le_of_ble_eq_true rfl⟩ (by decide) rfl rfl (Nat.le_of_ble_eq_true rfl) dX11_keep_67 rfl ?_
    refine w_aload_n C dX11_keep_70 rfl 0 rfl ?_
    refine w_dup C rfl dX11_keep_71 rfl ?_
    refine w_get C 0 33 (Nat.le_of_ble_eq_true rfl) rfl rfl inB_X11 (by decide) tw6_194 rfl dX11_keep_72 rfl ?_
    refine w_iconst C 1 dX11_keep_75 rfl (by decide) ?_
    refine w_iadd C dX11_keep_76 rfl ?_
    refine w_put C 0 33 ((u4 0 33) + 1) (Nat.le_of_ble_eq_true rfl) rfl rfl inB_X11 tyX11_ok nmX11 (by decide) tw6_194 rfl rfl rfl (Nat.le_of_ble_eq_true rfl) rfl dX11_keep_77 rfl ?_
    refine w_nst h (fun u6 h => ?_)
    exact w_rv hr h (by decide) dX11_keep_80
  · refine w_icmp_ne C (qt := 54) dX11_keep_6 (by decide) rfl h (fun _ h => ?_) (fun _ h => ?_)
    · exact w_sub [0] rfl (hJ3 _ h)
    · refine w_sipush C 138 dX11_keep_9 rfl (by decide) ?_
      refine w_istore_n C [(1, .int 138), (0, .ref (ad 0))] dX11_keep_12 rfl (by decide) rfl ?_
      refine w_sub [0, 1] rfl ?_
      refine lp_w (fun v7 : St × Int32 => WP X (gM D cI cT ad) 2 0 13 v7.1 [(1, .int v7.2), (0, .ref (ad 0))] []) (fun K8 hK9 v7 h => ?_) F _ h
      refine w_iload_n C dX11_keep_13 rfl 0 rfl ?_
      refine w_aload_n C dX11_keep_14 rfl 1 rfl ?_
      refine w_get C 0 30 (Nat.le_of_ble_eq_true rfl) rfl rfl inB_X11 (by decide) tw6_191 rfl dX11_keep_15 rfl ?_
      refine w_alen C 20 5520 0 5520 (Nat.le_of_ble_eq_true rfl) (fun _ => rfl) rfl (by decide) dX11_keep_18 rfl ?_
      refine w_icmp_ge C (qt := 44) dX11_keep_19 (by decide) rfl h (fun _ h => ?_) (fun _ h => ?_)
      · refine w_aload_n C dX11_keep_44 rfl 1 rfl ?_
        refine w_dup C rfl dX11_keep_45 rfl ?_
        refine w_get C 0 33 (Nat.le_of_ble_eq_true rfl) rfl rfl inB_X11 (by decide) tw6_194 rfl dX11_keep_46 rfl ?_
        refine w_iconst C 1 dX11_keep_49 rfl (by decide) ?_
        refine w_isub C dX11_keep_50 rfl ?_
        refine w_put C 0 33 ((v7.1 0 33) - 1) (Nat.le_of_ble_eq_true rfl) rfl rfl inB_X11 tyX11_ok nmX11 (by decide) tw6_194 rfl rfl rfl (Nat.le_of_ble_eq_true rfl) rfl dX11_keep_51 rfl ?_
        refine w_nst h (fun u11 h => ?_)
        exact w_sub [1] rfl (hJ3 _ h)
      · refine w_aload_n C dX11_keep_22 rfl 1 rfl ?_
        refine w_get C 0 30 (Nat.le_of_ble_eq_true rfl) rfl rfl inB_X11 (by decide) tw6_191 rfl dX11_keep_23 rfl ?_
        refine w_iload_n C dX11_keep_26 rfl 0 rfl ?_
        refine w_sipush C 138 dX11_keep_27 rfl (by decide) ?_
        refine w_isub C dX11_keep_30 rfl ?_
        refine w_aload_n C dX11_keep_31 rfl 1 rfl ?_
        refine w_get C 0 30 (Nat.le_of_ble_eq_true rfl) rfl rfl inB_X11 (by decide) tw6_191 rfl dX11_keep_32 rfl ?_
        refine w_iload_n C dX11_keep_35 rfl 0 rfl ?_
        refine w_iald C 20 5520 0 (Nat.le_of_ble_eq_true rfl) (fun _ => rfl) rfl h dX11_keep_36 rfl (fun h => ?_)
        refine w_iast C 20 5520 0 (Nat.le_of_ble_eq_true rfl) (fun _ => rfl) rfl h dX11_keep_37 rfl (fun h => ?_)
        refine w_nst h (fun u12 h => ?_)
        refine w_iinc (j := 0) C (v7.2 + 1) [(1, .int (v7.2 + 1)), (0, .ref (ad 0))] dX11_keep_38 rfl rfl rfl (by decide) rfl ?_
        refine w_goto (q := 13) C dX11_keep_41 (by decide) ?_
        exact w_sub [0, 1] rfl (hK9 _ h)
theorem cfX11_keep (D : va_G) (cI cT : ClassId) (ad : Nat → Nat) {l : Launch} (had : gAp (gM D cI cT ad)) {F : Nat} {σ : St}  {σ' : St} (h : fX11_keep F σ = some σ') : MV l yX11_keep (wB yX11_keep cX11_keep 2 none) 1 24 (gM D cI cT ad) [.ref (ad 0)] σ σ' := mk_MV had (by decide +kernel) (Nat.le_of_ble_eq_true rfl) (fun X hX C hr => wfX11_keep C hr h)

def fX11_years (F : Nat) (σ : St) (a0 : Int32) : Option (Int32 × St) := nm (up σ 0 4 0) fun u2 => bd1 (fX11_isIn F u2 (Int32.toInt64 a0) 1 50) fun r3 => jn (fun v4 : Unit => bd2 (fX11_refuse F u2 1) fun r7 u8 => some (r7, u8)) fun J5 => if r3 = 0 then (J5 (())) else if ((u2 0 31) + a0) ≤ 999 then (bd1 (fX11_keep F u2) fun u9 => nm (up u9 0 31 ((u9 0 31) + a0)) fun u11 => some (u11 0 31, u11)) else J5 (())
set_option maxRecDepth 20000 in
theorem wfX11_years {X : XT} {D : va_G} {cI cT : ClassId} {ad : Nat → Nat} {F : Nat} {σ : St} {a0 : Int32} {r : Int32} {σ' : St} (C : Cx X (gM D cI cT ad) cX11_years 2 RX11 2 45 0) (hr : RetI X (gM D cI cT ad) cX11_years 2 0 r σ') (h : fX11_years F σ a0 = some (r, σ')) : WP X (gM D cI cT ad) 2 0 0 σ [(0, .ref (ad 0)), (1, .int a0)] [] := by
  unfold fX11_years at h
  refine w_aload_n C dX11_years_0 rfl 0 rfl ?_
  refine w_iconst C 0 dX11_years_1 rfl (by decide) ?_
  refine w_put C 0 4 0 (Nat.le_of_ble_eq_true rfl) rfl rfl inB_X11 tyX11_ok nmX11 (by decide) tw6_165 rfl rfl rfl (Nat.le_of_ble_eq_true rfl) rfl dX11_years_2 rfl ?_
  refine w_nst h (fun u2 h => ?_)
  refine w_iload_n C dX11_years_5 rfl 1 rfl ?_
  refine w_i2l C dX11_years_6 rfl ?_
  refine w_lconst C 1 dX11_years_7 rfl (by decide) ?_
  refine w_ldc2 C (50) dX11_years_8 rfl tw8_149 ?_
  refine bd1_w h (fun r3 hc h => ?_)
  refine w_callSi C (As := [.long (Int32.toInt64 a0), .long 1, .long 50]) (st := []) (cfX11_isIn D cI cT ad (l := X.2.1) C.2.2.1 hc) tw8_99 cs_X11_isIn (by decide +kernel) ⟨Nat.le_of_ble_eq_true rfl, Nat.le_of_ble_eq_true rfl⟩ (by decide) rfl rfl (Nat.le_of_ble_eq_true rfl) dX11_years_11 rfl ?_
  refine jn_w (fun v4 : Unit => WP X (gM D cI cT ad) 2 0 29 u2 [(0, .ref (ad 0))] []) h (fun v4 h => ?_) (fun J5 hJ6 h => ?_)
  · refine w_aload_n C dX11_years_29 rfl 0 rfl ?_
    refine w_iconst C 1 dX11_years_30 rfl (by decide) ?_
    refine bd2_w h (fun r7 u8 hc h => ?_)
    refine w_callVi C (As := [.int 1]) (st := []) 0 (Nat.le_of_ble_eq_true rfl) rfl rfl (cfX11_refuse D cI cT ad (l := X.2.1) C.2.2.1 hc) tw8_150 cy_X11_refuse (by decide +kernel) ⟨Nat.le_of_ble_eq_true rfl, Nat.le_of_ble_eq_true rfl⟩ (by decide) rfl rfl (Nat.le_of_ble_eq_true rfl) dX11_years_31 rfl ?_
    exact w_ri2 hr h (by decide) dX11_years_34
  · refine w_if_eq C (qt := 29) dX11_years_14 (by decide) rfl h (fun _ h => ?_) (fun _ h => ?_)
    · exact w_sub [0] rfl (hJ6 _ h)
    · refine w_aload_n C dX11_years_17 rfl 0 rfl ?_
      refine w_get C 0 31 (Nat.le_of_ble_eq_true rfl) rfl rfl inB_X11 (by decide) tw6_192 rfl dX11_years_18 rfl ?_
      refine w_iload_n C dX11_years_21 rfl 1 rfl ?_
      refine w_iadd C dX11_years_22 rfl ?_
      refine w_sipush C 999 dX11_years_23 rfl (by decide) ?_
      refine w_icmp_le C (qt := 35) dX11_years_26 (by decide) rfl h (fun _ h => ?_) (fun _ h => ?_)
      · refine w_aload_n C dX11_years_35 rfl 0 rfl ?_
        refine bd1_w h (fun u9 hc h => ?_)
        refine w_callVv C (As := []) (st := []) 0 (Nat.le_of_ble_eq_true rfl) rfl rfl (cfX11_keep D cI cT ad (l := X.2.1) C.2.2.1 hc) tw8_154 cy_X11_keep (by decide +kernel) ⟨Nat.le_of_ble_eq_true rfl, Nat.le_of_ble_eq_true rfl⟩ (by decide) rfl rfl (Nat.le_of_ble_eq_true rfl) dX11_years_36 rfl ?_
        refine w_aload_n C dX11_years_39 rfl 0 rfl ?_
        refine w_dup C rfl dX11_years_40 rfl ?_
        refine w_get C 0 31 (Nat.le_of_ble_eq_true rfl) rfl rfl inB_X11 (by decide) tw6_192 rfl dX11_years_41 rfl ?_
        refine w_iload_n C dX11_years_44 rfl 1 rfl ?_
        refine w_iadd C dX11_years_45 rfl ?_
        refine w_put C 0 31 ((u9 0 31) + a0) (Nat.le_of_ble_eq_true rfl) rfl rfl inB_X11 tyX11_ok nmX11 (by decide) tw6_192 rfl rfl rfl (Nat.le_of_ble_eq_true rfl) rfl dX11_years_46 rfl ?_
        refine w_nst h (fun u11 h => ?_)
        refine w_aload_n C dX11_years_49 rfl 0 rfl ?_
        refine w_get C 0 31 (Nat.le_of_ble_eq_true rfl) rfl rfl inB_X11 (by decide) tw6_192 rfl dX11_years_50 rfl ?_
        exact w_ri2 hr h (by decide) dX11_years_53
      · exact w_sub [0] rfl (hJ6 _ h)
theorem cfX11_years (D : va_G) (cI cT : ClassId) (ad : Nat → Nat) {l : Launch} (had : gAp (gM D cI cT ad)) {F : Nat} {σ : St} {a0 : Int32} {r : Int32} {σ' : St} (h : fX11_years F σ a0 = some (r, σ')) : MI l yX11_years (wB yX11_years cX11_years 2 (some .int)) 2 45 (gM D cI cT ad) [.ref (ad 0), .int a0] σ r σ' := mk_MI had (by decide +kernel) (Nat.le_of_ble_eq_true rfl) (fun X hX C hr => wfX11_years C hr h)

def fX11_danceAgain (F : Nat) (σ : St) (a0 : Int32) : Option St := ckI (a0) 8 (nm (up σ 18 (Int32.toNatClampNeg a0) (σ 0 31)) fun u1 => nm (up u1 0 32 ((u1 0 32) &&& ((1 <<< (a0 &&& 31)) ^^^ ((-1))))) fun u3 => some u3)
set_option maxRecDepth 20000 in
theorem wfX11_danceAgain {X : XT} {D : va_G} {cI cT : ClassId} {ad : Nat → Nat} {F : Nat} {σ : St} {a0 : Int32} {σ' : St} (C : Cx X (gM D cI cT ad) cX11_danceAgain 2 RX11 0 0 0) (hr : RetV X (gM D cI cT ad) cX11_danceAgain 2 0 σ') (h : fX11_danceAgain F σ a0 = some σ') : WP X (gM D cI cT ad) 2 0 0 σ [(0, .ref (ad 0)), (1, .int a0)] [] := by
  unfold fX11_danceAgain at h
  refine w_aload_n C dX11_danceAgain_0 rfl 0 rfl ?_
  refine w_get C 0 28 (Nat.le_of_ble_eq_true rfl) rfl rfl inB_X11 (by decide) tw6_189 rfl dX11_danceAgain_1 rfl ?_
  refine w_iload_n C dX11_danceAgain_4 rfl 1 rfl ?_
  refine w_aload_n C dX11_danceAgain_5 rfl 0 rfl ?_
  refine w_get C 0 31 (Nat.le_of_ble_eq_true rfl) rfl rfl inB_X11 (by decide) tw6_192 rfl dX11_danceAgain_6 rfl ?_
  refine w_iast C 18 8 0 (Nat.le_of_ble_eq_true rfl) (fun _ => rfl) rfl h dX11_danceAgain_9 rfl (fun h => ?_)
  refine w_nst h (fun u1 h => ?_)
  refine w_aload_n C dX11_danceAgain_10 rfl 0 rfl ?_
  refine w_dup C rfl dX11_danceAgain_11 rfl ?_
  refine w_get C 0 32 (Nat.le_of_ble_eq_true rfl) rfl rfl inB_X11 (by decide) tw6_193 rfl dX11_danceAgain_12 rfl ?_
  refine w_iconst C 1 dX11_danceAgain_15 rfl (by decide) ?_
  refine w_iload_n C dX11_danceAgain_16 rfl 1 rfl ?_
  refine w_ishl C dX11_danceAgain_17 rfl ?_
  refine w_iconst C (-1) dX11_danceAgain_18 rfl (by decide) ?_
  refine w_ixor C dX11_danceAgain_19 rfl ?_
  refine w_iand C dX11_danceAgain_20 rfl ?_
  refine w_put C 0 32 ((u1 0 32) &&& ((1 <<< (a0 &&& 31)) ^^^ ((-1)))) (Nat.le_of_ble_eq_true rfl) rfl rfl inB_X11 tyX11_ok nmX11 (by decide) tw6_193 rfl rfl rfl (Nat.le_of_ble_eq_true rfl) rfl dX11_danceAgain_21 rfl ?_
  refine w_nst h (fun u3 h => ?_)
  exact w_rv hr h (by decide) dX11_danceAgain_24
theorem cfX11_danceAgain (D : va_G) (cI cT : ClassId) (ad : Nat → Nat) {l : Launch} (had : gAp (gM D cI cT ad)) {F : Nat} {σ : St} {a0 : Int32} {σ' : St} (h : fX11_danceAgain F σ a0 = some σ') : MV l yX11_danceAgain (wB yX11_danceAgain cX11_danceAgain 2 none) 0 0 (gM D cI cT ad) [.ref (ad 0), .int a0] σ σ' := mk_MV had (by decide +kernel) (Nat.le_of_ble_eq_true rfl) (fun X hX C hr => wfX11_danceAgain C hr h)

def fX11_again (F : Nat) (σ : St) (a0 : Int32) : Option (Int32 × St) := nm (up σ 0 4 0) fun u2 => bd1 (fX11_isDance F u2 a0) fun r3 => if r3 = 0 then (bd2 (fX11_fail F u2 1) fun r7 u8 => some (r7, u8)) else bd1 (fX11_keep F u2) fun u4 => ckI (a0) 8 (nm ((u4 0 31) - (u4 18 (Int32.toNatClampNeg a0))) fun x5 => bd1 (fX11_danceAgain F u4 a0) fun u6 => some (x5, u6))
set_option maxRecDepth 20000 in
theorem wfX11_again {X : XT} {D : va_G} {cI cT : ClassId} {ad : Nat → Nat} {F : Nat} {σ : St} {a0 : Int32} {r : Int32} {σ' : St} (C : Cx X (gM D cI cT ad) cX11_again 3 RX11 2 46 0) (hr : RetI X (gM D cI cT ad) cX11_again 3 0 r σ') (h : fX11_again F σ a0 = some (r, σ')) : WP X (gM D cI cT ad) 3 0 0 σ [(0, .ref (ad 0)), (1, .int a0)] [] := by
  unfold fX11_again at h
  refine w_aload_n C dX11_again_0 rfl 0 rfl ?_
  refine w_iconst C 0 dX11_again_1 rfl (by decide) ?_
  refine w_put C 0 4 0 (Nat.le_of_ble_eq_true rfl) rfl rfl inB_X11 tyX11_ok nmX11 (by decide) tw6_165 rfl rfl rfl (Nat.le_of_ble_eq_true rfl) rfl dX11_again_2 rfl ?_
  refine w_nst h (fun u2 h => ?_)
  refine w_aload_n C dX11_again_5 rfl 0 rfl ?_
  refine w_iload_n C dX11_again_6 rfl 1 rfl ?_
  refine bd1_w h (fun r3 hc h => ?_)
  refine w_callVi C (As := [.int a0]) (st := []) 0 (Nat.le_of_ble_eq_true rfl) rfl rfl (cfX11_isDance D cI cT ad (l := X.2.1) C.2.2.1 hc) tw8_106 cy_X11_isDance (by decide +kernel) ⟨Nat.le_of_ble_eq_true rfl, Nat.le_of_ble_eq_true rfl⟩ (by decide) rfl rfl (Nat.le_of_ble_eq_true rfl) dX11_again_7 rfl ?_
  refine w_if_ne C (qt := 19) dX11_again_10 (by decide) rfl h (fun _ h => ?_) (fun _ h => ?_)
  · refine w_aload_n C dX11_again_19 rfl 0 rfl ?_
    refine bd1_w h (fun u4 hc h => ?_)
    refine w_callVv C (As := []) (st := []) 0 (Nat.le_of_ble_eq_true rfl) rfl rfl (cfX11_keep D cI cT ad (l := X.2.1) C.2.2.1 hc) tw8_154 cy_X11_keep (by decide +kernel) ⟨Nat.le_of_ble_eq_true rfl, Nat.le_of_ble_eq_true rfl⟩ (by decide) rfl rfl (Nat.le_of_ble_eq_true rfl) dX11_again_20 rfl ?_
    refine w_aload_n C dX11_again_23 rfl 0 rfl ?_
    refine w_get C 0 31 (Nat.le_of_ble_eq_true rfl) rfl rfl inB_X11 (by decide) tw6_192 rfl dX11_again_24 rfl ?_
    refine w_aload_n C dX11_again_27 rfl 0 rfl ?_
    refine w_get C 0 28 (Nat.le_of_ble_eq_true rfl) rfl rfl inB_X11 (by decide) tw6_189 rfl dX11_again_28 rfl ?_
    refine w_iload_n C dX11_again_31 rfl 1 rfl ?_
    refine w_iald C 18 8 0 (Nat.le_of_ble_eq_true rfl) (fun _ => rfl) rfl h dX11_again_32 rfl (fun h => ?_)
    refine w_isub C dX11_again_33 rfl ?_
    refine w_nm h (fun x5 h => ?_)
    refine w_istore_n C [(2, .int x5), (0, .ref (ad 0)), (1, .int a0)] dX11_again_34 rfl (by decide) rfl ?_
    refine w_aload_n C dX11_again_35 rfl 1 rfl ?_
    refine w_iload_n C dX11_again_36 rfl 2 rfl ?_
    refine bd1_w h (fun u6 hc h => ?_)
    refine w_callVv C (As := [.int a0]) (st := []) 0 (Nat.le_of_ble_eq_true rfl) rfl rfl (cfX11_danceAgain D cI cT ad (l := X.2.1) C.2.2.1 hc) tw8_166 cy_X11_danceAgain (by decide +kernel) ⟨Nat.le_of_ble_eq_true rfl, Nat.le_of_ble_eq_true rfl⟩ (by decide) rfl rfl (Nat.le_of_ble_eq_true rfl) dX11_again_37 rfl ?_
    refine w_iload_n C dX11_again_40 rfl 0 rfl ?_
    exact w_ri2 hr h (by decide) dX11_again_41
  · refine w_aload_n C dX11_again_13 rfl 0 rfl ?_
    refine w_iconst C 1 dX11_again_14 rfl (by decide) ?_
    refine bd2_w h (fun r7 u8 hc h => ?_)
    refine w_callVi C (As := [.int 1]) (st := []) 0 (Nat.le_of_ble_eq_true rfl) rfl rfl (cfX11_fail D cI cT ad (l := X.2.1) C.2.2.1 hc) tw7_117 cy_X11_fail (by decide +kernel) ⟨Nat.le_of_ble_eq_true rfl, Nat.le_of_ble_eq_true rfl⟩ (by decide) rfl rfl (Nat.le_of_ble_eq_true rfl) dX11_again_15 rfl ?_
    exact w_ri2 hr h (by decide) dX11_again_18
theorem cfX11_again (D : va_G) (cI cT : ClassId) (ad : Nat → Nat) {l : Launch} (had : gAp (gM D cI cT ad)) {F : Nat} {σ : St} {a0 : Int32} {r : Int32} {σ' : St} (h : fX11_again F σ a0 = some (r, σ')) : MI l yX11_again (wB yX11_again cX11_again 3 (some .int)) 2 46 (gM D cI cT ad) [.ref (ad 0), .int a0] σ r σ' := mk_MI had (by decide +kernel) (Nat.le_of_ble_eq_true rfl) (fun X hX C hr => wfX11_again C hr h)

def fX11_breaks (F : Nat) (σ : St) (a0 : Int32) : Option (Int32 × St) := nm (up σ 0 4 0) fun u2 => bd1 (fX11_isDance F u2 a0) fun r3 => if r3 = 0 then (nm (up u2 0 4 1) fun u10 => some (0, u10)) else bd1 (fX11_isOf F u2 (u2 0 32) a0) fun r4 => if r4 = 0 then (bd1 (fX11_keep F u2) fun u5 => nm (up u5 0 32 ((u5 0 32) ||| (1 <<< (a0 &&& 31)))) fun u7 => some (1, u7)) else nm (up u2 16 1 ((u2 16 1) + 1)) fun u8 => some (0, u8)
set_option maxRecDepth 20000 in
theorem wfX11_breaks {X : XT} {D : va_G} {cI cT : ClassId} {ad : Nat → Nat} {F : Nat} {σ : St} {a0 : Int32} {r : Int32} {σ' : St} (C : Cx X (gM D cI cT ad) cX11_breaks 2 RX11 2 46 0) (hr : RetZ X (gM D cI cT ad) cX11_breaks 2 0 r σ') (h : fX11_breaks F σ a0 = some (r, σ')) : WP X (gM D cI cT ad) 2 0 0 σ [(0, .ref (ad 0)), (1, .int a0)] [] := by
  unfold fX11_breaks at h
  refine w_aload_n C dX11_breaks_0 rfl 0 rfl ?_
  refine w_iconst C 0 dX11_breaks_1 rfl (by decide) ?_
  refine w_put C 0 4 0 (Nat.le_of_ble_eq_true rfl) rfl rfl inB_X11 tyX11_ok nmX11 (by decide) tw6_165 rfl rfl rfl (Nat.le_of_ble_eq_true rfl) rfl dX11_breaks_2 rfl ?_
  refine w_nst h (fun u2 h => ?_)
  refine w_aload_n C dX11_breaks_5 rfl 0 rfl ?_
  refine w_iload_n C dX11_breaks_6 rfl 1 rfl ?_
  refine bd1_w h (fun r3 hc h => ?_)
  refine w_callVi C (As := [.int a0]) (st := []) 0 (Nat.le_of_ble_eq_true rfl) rfl rfl (cfX11_isDance D cI cT ad (l := X.2.1) C.2.2.1 hc) tw8_106 cy_X11_isDance (by decide +kernel) ⟨Nat.le_of_ble_eq_true rfl, Nat.le_of_ble_eq_true rfl⟩ (by decide) rfl rfl (Nat.le_of_ble_eq_true rfl) dX11_breaks_7 rfl ?_
  refine w_if_ne C (qt := 20) dX11_breaks_10 (by decide) rfl h (fun _ h => ?_) (fun _ h => ?_)
  · refine w_aload_n C dX11_breaks_20 rfl 0 rfl ?_
    refine w_get C 0 32 (Nat.le_of_ble_eq_true rfl) rfl rfl inB_X11 (by decide) tw6_193 rfl dX11_breaks_21 rfl ?_
    refine w_iload_n C dX11_breaks_24 rfl 1 rfl ?_
    refine bd1_w h (fun r4 hc h => ?_)
    refine w_callSi C (As := [.int (u2 0 32), .int a0]) (st := []) (cfX11_isOf D cI cT ad (l := X.2.1) C.2.2.1 hc) tw8_9 cs_X11_isOf (by decide +kernel) ⟨Nat.le_of_ble_eq_true rfl, Nat.le_of_ble_eq_true rfl⟩ (by decide) rfl rfl (Nat.le_of_ble_eq_true rfl) dX11_breaks_25 rfl ?_
    refine w_if_eq C (qt := 43) dX11_breaks_28 (by decide) rfl h (fun _ h => ?_) (fun _ h => ?_)
    · refine w_aload_n C dX11_breaks_43 rfl 0 rfl ?_
      refine bd1_w h (fun u5 hc h => ?_)
      refine w_callVv C (As := []) (st := []) 0 (Nat.le_of_ble_eq_true rfl) rfl rfl (cfX11_keep D cI cT ad (l := X.2.1) C.2.2.1 hc) tw8_154 cy_X11_keep (by decide +kernel) ⟨Nat.le_of_ble_eq_true rfl, Nat.le_of_ble_eq_true rfl⟩ (by decide) rfl rfl (Nat.le_of_ble_eq_true rfl) dX11_breaks_44 rfl ?_
      refine w_aload_n C dX11_breaks_47 rfl 0 rfl ?_
      refine w_dup C rfl dX11_breaks_48 rfl ?_
      refine w_get C 0 32 (Nat.le_of_ble_eq_true rfl) rfl rfl inB_X11 (by decide) tw6_193 rfl dX11_breaks_49 rfl ?_
      refine w_iconst C 1 dX11_breaks_52 rfl (by decide) ?_
      refine w_iload_n C dX11_breaks_53 rfl 1 rfl ?_
      refine w_ishl C dX11_breaks_54 rfl ?_
      refine w_ior C dX11_breaks_55 rfl ?_
      refine w_put C 0 32 ((u5 0 32) ||| (1 <<< (a0 &&& 31))) (Nat.le_of_ble_eq_true rfl) rfl rfl inB_X11 tyX11_ok nmX11 (by decide) tw6_193 rfl rfl rfl (Nat.le_of_ble_eq_true rfl) rfl dX11_breaks_56 rfl ?_
      refine w_nst h (fun u7 h => ?_)
      refine w_iconst C 1 dX11_breaks_59 rfl (by decide) ?_
      exact w_rz2 hr (by decide) h (by decide) dX11_breaks_60
    · refine w_aload_n C dX11_breaks_31 rfl 0 rfl ?_
      refine w_get C 0 16 (Nat.le_of_ble_eq_true rfl) rfl rfl inB_X11 (by decide) tw6_177 rfl dX11_breaks_32 rfl ?_
      refine w_iconst C 1 dX11_breaks_35 rfl (by decide) ?_
      refine w_dup2 C rfl rfl dX11_breaks_36 rfl ?_
      refine w_ialdc C 16 3 0 1 (Nat.le_of_ble_eq_true rfl) (fun _ => rfl) rfl (by decide) (by decide) dX11_breaks_37 rfl ?_
      refine w_iconst C 1 dX11_breaks_38 rfl (by decide) ?_
      refine w_iadd C dX11_breaks_39 rfl ?_
      refine w_iastc C 16 3 0 1 (Nat.le_of_ble_eq_true rfl) (fun _ => rfl) rfl (by decide) (by decide) dX11_breaks_40 rfl ?_
      refine w_nst h (fun u8 h => ?_)
      refine w_iconst C 0 dX11_breaks_41 rfl (by decide) ?_
      exact w_rz2 hr (by decide) h (by decide) dX11_breaks_42
  · refine w_aload_n C dX11_breaks_13 rfl 0 rfl ?_
    refine w_iconst C 1 dX11_breaks_14 rfl (by decide) ?_
    refine w_put C 0 4 1 (Nat.le_of_ble_eq_true rfl) rfl rfl inB_X11 tyX11_ok nmX11 (by decide) tw6_165 rfl rfl rfl (Nat.le_of_ble_eq_true rfl) rfl dX11_breaks_15 rfl ?_
    refine w_nst h (fun u10 h => ?_)
    refine w_iconst C 0 dX11_breaks_18 rfl (by decide) ?_
    exact w_rz2 hr (by decide) h (by decide) dX11_breaks_19
theorem cfX11_breaks (D : va_G) (cI cT : ClassId) (ad : Nat → Nat) {l : Launch} (had : gAp (gM D cI cT ad)) {F : Nat} {σ : St} {a0 : Int32} {r : Int32} {σ' : St} (h : fX11_breaks F σ a0 = some (r, σ')) : MI l yX11_breaks (wB yX11_breaks cX11_breaks 2 (some .boolean)) 2 46 (gM D cI cT ad) [.ref (ad 0), .int a0] σ r σ' := mk_MZ had (by decide +kernel) (Nat.le_of_ble_eq_true rfl) (fun X hX C hr => wfX11_breaks C hr h)

def fX11_isLimp (F : Nat) (σ : St) (a0 : Int32) (a1 : Int32) : Option Int32 := ckI ((10 * a0) + a1) 160 (nm (σ 11 (Int32.toNatClampNeg ((10 * a0) + a1))) fun x1 => if x1 = 3 then (some 0) else if x1 = 4 then (some 0) else some 1)
set_option maxRecDepth 20000 in
theorem wfX11_isLimp {X : XT} {D : va_G} {cI cT : ClassId} {ad : Nat → Nat} {F : Nat} {σ : St} {a0 : Int32} {a1 : Int32} {r : Int32} (C : Cx X (gM D cI cT ad) cX11_isLimp 4 RX11 0 0 0) (hr : RetZ X (gM D cI cT ad) cX11_isLimp 4 0 r σ) (h : fX11_isLimp F σ a0 a1 = some r) : WP X (gM D cI cT ad) 4 0 0 σ [(0, .ref (ad 0)), (1, .int a0), (2, .int a1)] [] := by
  unfold fX11_isLimp at h
  refine w_aload_n C dX11_isLimp_0 rfl 0 rfl ?_
  refine w_get C 0 11 (Nat.le_of_ble_eq_true rfl) rfl rfl inB_X11 (by decide) tw6_172 rfl dX11_isLimp_1 rfl ?_
  refine w_bipush C 10 dX11_isLimp_4 rfl (by decide) ?_
  refine w_iload_n C dX11_isLimp_6 rfl 1 rfl ?_
  refine w_imul C dX11_isLimp_7 rfl ?_
  refine w_iload_n C dX11_isLimp_8 rfl 2 rfl ?_
  refine w_iadd C dX11_isLimp_9 rfl ?_
  refine w_iald C 11 160 0 (Nat.le_of_ble_eq_true rfl) (fun _ => rfl) rfl h dX11_isLimp_10 rfl (fun h => ?_)
  refine w_nm h (fun x1 h => ?_)
  refine w_istore_n C [(3, .int x1), (0, .ref (ad 0)), (1, .int a0), (2, .int a1)] dX11_isLimp_11 rfl (by decide) rfl ?_
  refine w_iload_n C dX11_isLimp_12 rfl 0 rfl ?_
  refine w_iconst C 3 dX11_isLimp_13 rfl (by decide) ?_
  refine w_icmp_eq C (qt := 26) dX11_isLimp_14 (by decide) rfl h (fun _ h => ?_) (fun _ h => ?_)
  · refine w_iconst C 0 dX11_isLimp_26 rfl (by decide) ?_
    exact w_rz1 hr (by decide) h (by decide) dX11_isLimp_27
  · refine w_iload_n C dX11_isLimp_17 rfl 0 rfl ?_
    refine w_iconst C 4 dX11_isLimp_18 rfl (by decide) ?_
    refine w_icmp_eq C (qt := 26) dX11_isLimp_19 (by decide) rfl h (fun _ h => ?_) (fun _ h => ?_)
    · refine w_iconst C 0 dX11_isLimp_26 rfl (by decide) ?_
      exact w_rz1 hr (by decide) h (by decide) dX11_isLimp_27
    · refine w_iconst C 1 dX11_isLimp_22 rfl (by decide) ?_
      refine w_goto (q := 27) C dX11_isLimp_23 (by decide) ?_
      exact w_rz1 hr (by decide) h (by decide) dX11_isLimp_27
theorem cfX11_isLimp (D : va_G) (cI cT : ClassId) (ad : Nat → Nat) {l : Launch} (had : gAp (gM D cI cT ad)) {F : Nat} {σ : St} {a0 : Int32} {a1 : Int32} {r : Int32} (h : fX11_isLimp F σ a0 a1 = some r) : MI l yX11_isLimp (wB yX11_isLimp cX11_isLimp 4 (some .boolean)) 0 0 (gM D cI cT ad) [.ref (ad 0), .int a0, .int a1] σ r σ := mk_MZ had (by decide +kernel) (Nat.le_of_ble_eq_true rfl) (fun X hX C hr => wfX11_isLimp C hr h)

def fX11_stumble (F : Nat) (σ : St) (a0 : Int32) (a1 : Int32) (a2 : Int32) : Option (Int32 × St) := nm (up σ 0 4 0) fun u2 => bd1 (fX11_isStep F u2 a0 a1) fun r3 => if r3 = 0 then (bd2 (fX11_fail F u2 1) fun r14 u15 => some (r14, u15)) else bd1 (fX11_isIn F u2 (Int32.toInt64 a2) 0 9) fun r4 => jn (fun v5 : Unit => bd2 (fX11_refuse F u2 1) fun r8 u9 => some (r8, u9)) fun J6 => if r4 = 0 then (J6 (())) else bd1 (fX11_isLimp F u2 a0 a1) fun r10 => if r10 = 0 then (J6 (())) else bd1 (fX11_keep F u2) fun u11 => ckI ((10 * a0) + a1) 160 (nm (u11 13 (Int32.toNatClampNeg ((10 * a0) + a1))) fun x12 => ckI ((10 * a0) + a1) 160 (nm (up u11 13 (Int32.toNatClampNeg ((10 * a0) + a1)) a2) fun u13 => some (x12, u13)))
set_option maxRecDepth 20000 in
theorem wfX11_stumble {X : XT} {D : va_G} {cI cT : ClassId} {ad : Nat → Nat} {F : Nat} {σ : St} {a0 : Int32} {a1 : Int32} {a2 : Int32} {r : Int32} {σ' : St} (C : Cx X (gM D cI cT ad) cX11_stumble 5 RX11 3 68 0) (hr : RetI X (gM D cI cT ad) cX11_stumble 5 0 r σ') (h : fX11_stumble F σ a0 a1 a2 = some (r, σ')) : WP X (gM D cI cT ad) 5 0 0 σ [(0, .ref (ad 0)), (1, .int a0), (2, .int a1), (3, .int a2)] [] := by
  unfold fX11_stumble at h
  refine w_aload_n C dX11_stumble_0 rfl 0 rfl ?_
  refine w_iconst C 0 dX11_stumble_1 rfl (by decide) ?_
  refine w_put C 0 4 0 (Nat.le_of_ble_eq_true rfl) rfl rfl inB_X11 tyX11_ok nmX11 (by decide) tw6_165 rfl rfl rfl (Nat.le_of_ble_eq_true rfl) rfl dX11_stumble_2 rfl ?_
  refine w_nst h (fun u2 h => ?_)
  refine w_aload_n C dX11_stumble_5 rfl 0 rfl ?_
  refine w_iload_n C dX11_stumble_6 rfl 1 rfl ?_
  refine w_iload_n C dX11_stumble_7 rfl 2 rfl ?_
  refine bd1_w h (fun r3 hc h => ?_)
  refine w_callVi C (As := [.int a0, .int a1]) (st := []) 0 (Nat.le_of_ble_eq_true rfl) rfl rfl (cfX11_isStep D cI cT ad (l := X.2.1) C.2.2.1 hc) tw8_114 cy_X11_isStep (by decide +kernel) ⟨Nat.le_of_ble_eq_true rfl, Nat.le_of_ble_eq_true rfl⟩ (by decide) rfl rfl (Nat.le_of_ble_eq_true rfl) dX11_stumble_8 rfl ?_
  refine w_if_ne C (qt := 20) dX11_stumble_11 (by decide) rfl h (fun _ h => ?_) (fun _ h => ?_)
  · refine w_iload_n C dX11_stumble_20 rfl 3 rfl ?_
    refine w_i2l C dX11_stumble_21 rfl ?_
    refine w_lconst C 0 dX11_stumble_22 rfl (by decide) ?_
    refine w_ldc2 C (9) dX11_stumble_23 rfl tw8_178 ?_
    refine bd1_w h (fun r4 hc h => ?_)
    refine w_callSi C (As := [.long (Int32.toInt64 a2), .long 0, .long 9]) (st := []) (cfX11_isIn D cI cT ad (l := X.2.1) C.2.2.1 hc) tw8_99 cs_X11_isIn (by decide +kernel) ⟨Nat.le_of_ble_eq_true rfl, Nat.le_of_ble_eq_true rfl⟩ (by decide) rfl rfl (Nat.le_of_ble_eq_true rfl) dX11_stumble_26 rfl ?_
    refine jn_w (fun v5 : Unit => WP X (gM D cI cT ad) 5 0 41 u2 [(0, .ref (ad 0))] []) h (fun v5 h => ?_) (fun J6 hJ7 h => ?_)
    · refine w_aload_n C dX11_stumble_41 rfl 0 rfl ?_
      refine w_iconst C 1 dX11_stumble_42 rfl (by decide) ?_
      refine bd2_w h (fun r8 u9 hc h => ?_)
      refine w_callVi C (As := [.int 1]) (st := []) 0 (Nat.le_of_ble_eq_true rfl) rfl rfl (cfX11_refuse D cI cT ad (l := X.2.1) C.2.2.1 hc) tw8_150 cy_X11_refuse (by decide +kernel) ⟨Nat.le_of_ble_eq_true rfl, Nat.le_of_ble_eq_true rfl⟩ (by decide) rfl rfl (Nat.le_of_ble_eq_true rfl) dX11_stumble_43 rfl ?_
      exact w_ri2 hr h (by decide) dX11_stumble_46
    · refine w_if_eq C (qt := 41) dX11_stumble_29 (by decide) rfl h (fun _ h => ?_) (fun _ h => ?_)
      · exact w_sub [0] rfl (hJ7 _ h)
      · refine w_aload_n C dX11_stumble_32 rfl 0 rfl ?_
        refine w_iload_n C dX11_stumble_33 rfl 1 rfl ?_
        refine w_iload_n C dX11_stumble_34 rfl 2 rfl ?_
        refine bd1_w h (fun r10 hc h => ?_)
        refine w_callVi C (As := [.int a0, .int a1]) (st := []) 0 (Nat.le_of_ble_eq_true rfl) rfl rfl (cfX11_isLimp D cI cT ad (l := X.2.1) C.2.2.1 hc) tw8_179 cy_X11_isLimp (by decide +kernel) ⟨Nat.le_of_ble_eq_true rfl, Nat.le_of_ble_eq_true rfl⟩ (by decide) rfl rfl (Nat.le_of_ble_eq_true rfl) dX11_stumble_35 rfl ?_
        refine w_if_ne C (qt := 47) dX11_stumble_38 (by decide) rfl h (fun _ h => ?_) (fun _ h => ?_)
        · refine w_aload_n C dX11_stumble_47 rfl 0 rfl ?_
          refine bd1_w h (fun u11 hc h => ?_)
          refine w_callVv C (As := []) (st := []) 0 (Nat.le_of_ble_eq_true rfl) rfl rfl (cfX11_keep D cI cT ad (l := X.2.1) C.2.2.1 hc) tw8_154 cy_X11_keep (by decide +kernel) ⟨Nat.le_of_ble_eq_true rfl, Nat.le_of_ble_eq_true rfl⟩ (by decide) rfl rfl (Nat.le_of_ble_eq_true rfl) dX11_stumble_48 rfl ?_
          refine w_aload_n C dX11_stumble_51 rfl 0 rfl ?_
          refine w_get C 0 13 (Nat.le_of_ble_eq_true rfl) rfl rfl inB_X11 (by decide) tw6_174 rfl dX11_stumble_52 rfl ?_
          refine w_bipush C 10 dX11_stumble_55 rfl (by decide) ?_
          refine w_iload_n C dX11_stumble_57 rfl 1 rfl ?_
          refine w_imul C dX11_stumble_58 rfl ?_
          refine w_iload_n C dX11_stumble_59 rfl 2 rfl ?_
          refine w_iadd C dX11_stumble_60 rfl ?_
          refine w_iald C 13 160 0 (Nat.le_of_ble_eq_true rfl) (fun _ => rfl) rfl h dX11_stumble_61 rfl (fun h => ?_)
          refine w_nm h (fun x12 h => ?_)
          refine w_istore C [(4, .int x12), (0, .ref (ad 0)), (1, .int a0), (2, .int a1), (3, .int a2)] dX11_stumble_62 rfl (by decide) rfl ?_
          refine w_aload_n C dX11_stumble_64 rfl 1 rfl ?_
          refine w_get C 0 13 (Nat.le_of_ble_eq_true rfl) rfl rfl inB_X11 (by decide) tw6_174 rfl dX11_stumble_65 rfl ?_
          refine w_bipush C 10 dX11_stumble_68 rfl (by decide) ?_
          refine w_iload_n C dX11_stumble_70 rfl 2 rfl ?_
          refine w_imul C dX11_stumble_71 rfl ?_
          refine w_iload_n C dX11_stumble_72 rfl 3 rfl ?_
          refine w_iadd C dX11_stumble_73 rfl ?_
          refine w_iload_n C dX11_stumble_74 rfl 4 rfl ?_
          refine w_iast C 13 160 0 (Nat.le_of_ble_eq_true rfl) (fun _ => rfl) rfl h dX11_stumble_75 rfl (fun h => ?_)
          refine w_nst h (fun u13 h => ?_)
          refine w_iload C dX11_stumble_76 rfl 0 rfl ?_
          exact w_ri2 hr h (by decide) dX11_stumble_78
        · exact w_sub [0] rfl (hJ7 _ h)
  · refine w_aload_n C dX11_stumble_14 rfl 0 rfl ?_
    refine w_iconst C 1 dX11_stumble_15 rfl (by decide) ?_
    refine bd2_w h (fun r14 u15 hc h => ?_)
    refine w_callVi C (As := [.int 1]) (st := []) 0 (Nat.le_of_ble_eq_true rfl) rfl rfl (cfX11_fail D cI cT ad (l := X.2.1) C.2.2.1 hc) tw7_117 cy_X11_fail (by decide +kernel) ⟨Nat.le_of_ble_eq_true rfl, Nat.le_of_ble_eq_true rfl⟩ (by decide) rfl rfl (Nat.le_of_ble_eq_true rfl) dX11_stumble_16 rfl ?_
    exact w_ri2 hr h (by decide) dX11_stumble_19
theorem cfX11_stumble (D : va_G) (cI cT : ClassId) (ad : Nat → Nat) {l : Launch} (had : gAp (gM D cI cT ad)) {F : Nat} {σ : St} {a0 : Int32} {a1 : Int32} {a2 : Int32} {r : Int32} {σ' : St} (h : fX11_stumble F σ a0 a1 a2 = some (r, σ')) : MI l yX11_stumble (wB yX11_stumble cX11_stumble 5 (some .int)) 3 68 (gM D cI cT ad) [.ref (ad 0), .int a0, .int a1, .int a2] σ r σ' := mk_MI had (by decide +kernel) (Nat.le_of_ble_eq_true rfl) (fun X hX C hr => wfX11_stumble C hr h)

def fX11_act (F : Nat) (σ : St) (a0 : Int32) (a1 : Int32) (a2 : Int32) : Option (Int32 × St) := nm (up σ 0 4 0) fun u2 => bd1 (fX11_isValley F u2 a0) fun r3 => jn (fun v4 : Unit => bd2 (fX11_fail F u2 1) fun r7 u8 => some (r7, u8)) fun J5 => if r3 = 0 then (J5 (())) else bd1 (fX11_isAbout F u2 a1) fun r9 => if r9 = 0 then (J5 (())) else bd1 (fX11_isIn F u2 (Int32.toInt64 a2) 1 99) fun r10 => jn (fun v11 : Unit => bd2 (fX11_refuse F u2 1) fun r14 u15 => some (r14, u15)) fun J12 => if r10 = 0 then (J12 (())) else ckI ((8 * a0) + a1) 48 (if ((u2 19 (Int32.toNatClampNeg ((8 * a0) + a1))) + a2) ≤ 9999 then (bd1 (fX11_keep F u2) fun u16 => nm ((8 * a0) + a1) fun x17 => ckI (x17) 48 (ckI (x17) 48 (nm (up u16 19 (Int32.toNatClampNeg x17) ((u16 19 (Int32.toNatClampNeg x17)) + a2)) fun u18 => ckI ((8 * a0) + a1) 48 (some (u18 19 (Int32.toNatClampNeg ((8 * a0) + a1)), u18))))) else J12 (()))
set_option maxRecDepth 20000 in
theorem wfX11_act {X : XT} {D : va_G} {cI cT : ClassId} {ad : Nat → Nat} {F : Nat} {σ : St} {a0 : Int32} {a1 : Int32} {a2 : Int32} {r : Int32} {σ' : St} (C : Cx X (gM D cI cT ad) cX11_act 4 RX11 2 46 0) (hr : RetI X (gM D cI cT ad) cX11_act 4 0 r σ') (h : fX11_act F σ a0 a1 a2 = some (r, σ')) : WP X (gM D cI cT ad) 4 0 0 σ [(0, .ref (ad 0)), (1, .int a0), (2, .int a1), (3, .int a2)] [] := by
  unfold fX11_act at h
  refine w_aload_n C dX11_act_0 rfl 0 rfl ?_
  refine w_iconst C 0 dX11_act_1 rfl (by decide) ?_
  refine w_put C 0 4 0 (Nat.le_of_ble_eq_true rfl) rfl rfl inB_X11 tyX11_ok nmX11 (by decide) tw6_165 rfl rfl rfl (Nat.le_of_ble_eq_true rfl) rfl dX11_act_2 rfl ?_
  refine w_nst h (fun u2 h => ?_)
  refine w_aload_n C dX11_act_5 rfl 0 rfl ?_
  refine w_iload_n C dX11_act_6 rfl 1 rfl ?_
  refine bd1_w h (fun r3 hc h => ?_)
  refine w_callVi C (As := [.int a0]) (st := []) 0 (Nat.le_of_ble_eq_true rfl) rfl rfl (cfX11_isValley D cI cT ad (l := X.2.1) C.2.2.1 hc) tw8_95 cy_X11_isValley (by decide +kernel) ⟨Nat.le_of_ble_eq_true rfl, Nat.le_of_ble_eq_true rfl⟩ (by decide) rfl rfl (Nat.le_of_ble_eq_true rfl) dX11_act_7 rfl ?_
  refine jn_w (fun v4 : Unit => WP X (gM D cI cT ad) 4 0 20 u2 [(0, .ref (ad 0))] []) h (fun v4 h => ?_) (fun J5 hJ6 h => ?_)
  · refine w_aload_n C dX11_act_20 rfl 0 rfl ?_
    refine w_iconst C 1 dX11_act_21 rfl (by decide) ?_
    refine bd2_w h (fun r7 u8 hc h => ?_)
    refine w_callVi C (As := [.int 1]) (st := []) 0 (Nat.le_of_ble_eq_true rfl) rfl rfl (cfX11_fail D cI cT ad (l := X.2.1) C.2.2.1 hc) tw7_117 cy_X11_fail (by decide +kernel) ⟨Nat.le_of_ble_eq_true rfl, Nat.le_of_ble_eq_true rfl⟩ (by decide) rfl rfl (Nat.le_of_ble_eq_true rfl) dX11_act_22 rfl ?_
    exact w_ri2 hr h (by decide) dX11_act_25
  · refine w_if_eq C (qt := 20) dX11_act_10 (by decide) rfl h (fun _ h => ?_) (fun _ h => ?_)
    · exact w_sub [0] rfl (hJ6 _ h)
    · refine w_iload_n C dX11_act_13 rfl 2 rfl ?_
      refine bd1_w h (fun r9 hc h => ?_)
      refine w_callSi C (As := [.int a1]) (st := []) (cfX11_isAbout D cI cT ad (l := X.2.1) C.2.2.1 hc) tw8_129 cs_X11_isAbout (by decide +kernel) ⟨Nat.le_of_ble_eq_true rfl, Nat.le_of_ble_eq_true rfl⟩ (by decide) rfl rfl (Nat.le_of_ble_eq_true rfl) dX11_act_14 rfl ?_
      refine w_if_ne C (qt := 26) dX11_act_17 (by decide) rfl h (fun _ h => ?_) (fun _ h => ?_)
      · refine w_iload_n C dX11_act_26 rfl 3 rfl ?_
        refine w_i2l C dX11_act_27 rfl ?_
        refine w_lconst C 1 dX11_act_28 rfl (by decide) ?_
        refine w_ldc2 C (99) dX11_act_29 rfl tw8_187 ?_
        refine bd1_w h (fun r10 hc h => ?_)
        refine w_callSi C (As := [.long (Int32.toInt64 a2), .long 1, .long 99]) (st := []) (cfX11_isIn D cI cT ad (l := X.2.1) C.2.2.1 hc) tw8_99 cs_X11_isIn (by decide +kernel) ⟨Nat.le_of_ble_eq_true rfl, Nat.le_of_ble_eq_true rfl⟩ (by decide) rfl rfl (Nat.le_of_ble_eq_true rfl) dX11_act_32 rfl ?_
        refine jn_w (fun v11 : Unit => WP X (gM D cI cT ad) 4 0 57 u2 [(0, .ref (ad 0))] []) h (fun v11 h => ?_) (fun J12 hJ13 h => ?_)
        · refine w_aload_n C dX11_act_57 rfl 0 rfl ?_
          refine w_iconst C 1 dX11_act_58 rfl (by decide) ?_
          refine bd2_w h (fun r14 u15 hc h => ?_)
          refine w_callVi C (As := [.int 1]) (st := []) 0 (Nat.le_of_ble_eq_true rfl) rfl rfl (cfX11_refuse D cI cT ad (l := X.2.1) C.2.2.1 hc) tw8_150 cy_X11_refuse (by decide +kernel) ⟨Nat.le_of_ble_eq_true rfl, Nat.le_of_ble_eq_true rfl⟩ (by decide) rfl rfl (Nat.le_of_ble_eq_true rfl) dX11_act_59 rfl ?_
          exact w_ri2 hr h (by decide) dX11_act_62
        · refine w_if_eq C (qt := 57) dX11_act_35 (by decide) rfl h (fun _ h => ?_) (fun _ h => ?_)
          · exact w_sub [0] rfl (hJ13 _ h)
          · refine w_aload_n C dX11_act_38 rfl 0 rfl ?_
            refine w_get C 0 29 (Nat.le_of_ble_eq_true rfl) rfl rfl inB_X11 (by decide) tw6_190 rfl dX11_act_39 rfl ?_
            refine w_bipush C 8 dX11_act_42 rfl (by decide) ?_
            refine w_iload_n C dX11_act_44 rfl 1 rfl ?_
            refine w_imul C dX11_act_45 rfl ?_
            refine w_iload_n C dX11_act_46 rfl 2 rfl ?_
            refine w_iadd C dX11_act_47 rfl ?_
            refine w_iald C 19 48 0 (Nat.le_of_ble_eq_true rfl) (fun _ => rfl) rfl h dX11_act_48 rfl (fun h => ?_)
            refine w_iload_n C dX11_act_49 rfl 3 rfl ?_
            refine w_iadd C dX11_act_50 rfl ?_
            refine w_sipush C 9999 dX11_act_51 rfl (by decide) ?_
            refine w_icmp_le C (qt := 63) dX11_act_54 (by decide) rfl h (fun _ h => ?_) (fun _ h => ?_)
            · refine w_aload_n C dX11_act_63 rfl 0 rfl ?_
              refine bd1_w h (fun u16 hc h => ?_)
              refine w_callVv C (As := []) (st := []) 0 (Nat.le_of_ble_eq_true rfl) rfl rfl (cfX11_keep D cI cT ad (l := X.2.1) C.2.2.1 hc) tw8_154 cy_X11_keep (by decide +kernel) ⟨Nat.le_of_ble_eq_true rfl, Nat.le_of_ble_eq_true rfl⟩ (by decide) rfl rfl (Nat.le_of_ble_eq_true rfl) dX11_act_64 rfl ?_
              refine w_aload_n C dX11_act_67 rfl 0 rfl ?_
              refine w_get C 0 29 (Nat.le_of_ble_eq_true rfl) rfl rfl inB_X11 (by decide) tw6_190 rfl dX11_act_68 rfl ?_
              refine w_bipush C 8 dX11_act_71 rfl (by decide) ?_
              refine w_iload_n C dX11_act_73 rfl 1 rfl ?_
              refine w_imul C dX11_act_74 rfl ?_
              refine w_iload_n C dX11_act_75 rfl 2 rfl ?_
              refine w_iadd C dX11_act_76 rfl ?_
              refine w_nm h (fun x17 h => ?_)
              refine w_dup2 C rfl rfl dX11_act_77 rfl ?_
              refine w_iald C 19 48 0 (Nat.le_of_ble_eq_true rfl) (fun _ => rfl) rfl h dX11_act_78 rfl (fun h => ?_)
              refine w_iload_n C dX11_act_79 rfl 3 rfl ?_
              refine w_iadd C dX11_act_80 rfl ?_
              refine w_iast C 19 48 0 (Nat.le_of_ble_eq_true rfl) (fun _ => rfl) rfl h dX11_act_81 rfl (fun h => ?_)
              refine w_nst h (fun u18 h => ?_)
              refine w_aload_n C dX11_act_82 rfl 0 rfl ?_
              refine w_get C 0 29 (Nat.le_of_ble_eq_true rfl) rfl rfl inB_X11 (by decide) tw6_190 rfl dX11_act_83 rfl ?_
              refine w_bipush C 8 dX11_act_86 rfl (by decide) ?_
              refine w_iload_n C dX11_act_88 rfl 1 rfl ?_
              refine w_imul C dX11_act_89 rfl ?_
              refine w_iload_n C dX11_act_90 rfl 2 rfl ?_
              refine w_iadd C dX11_act_91 rfl ?_
              refine w_iald C 19 48 0 (Nat.le_of_ble_eq_true rfl) (fun _ => rfl) rfl h dX11_act_92 rfl (fun h => ?_)
              exact w_ri2 hr h (by decide) dX11_act_93
            · exact w_sub [0] rfl (hJ13 _ h)
      · exact w_sub [0] rfl (hJ6 _ h)
theorem cfX11_act (D : va_G) (cI cT : ClassId) (ad : Nat → Nat) {l : Launch} (had : gAp (gM D cI cT ad)) {F : Nat} {σ : St} {a0 : Int32} {a1 : Int32} {a2 : Int32} {r : Int32} {σ' : St} (h : fX11_act F σ a0 a1 a2 = some (r, σ')) : MI l yX11_act (wB yX11_act cX11_act 4 (some .int)) 2 46 (gM D cI cT ad) [.ref (ad 0), .int a0, .int a1, .int a2] σ r σ' := mk_MI had (by decide +kernel) (Nat.le_of_ble_eq_true rfl) (fun X hX C hr => wfX11_act C hr h)

def fX11_unpack (F : Nat) (σ : St) (a1 : Int32) : Option St := ckI (a1) 5520 (nm (up σ 0 31 (σ 20 (Int32.toNatClampNeg a1))) fun u2 => ckI (a1 + 1) 5520 (nm (up u2 0 32 (u2 20 (Int32.toNatClampNeg (a1 + 1)))) fun u4 => nm (a1 + 2) fun x5 => lp (fun (K7 : (St × Int32) → Option St) (v6 : St × Int32) => if 8 ≤ v6.2 then (lp (fun (K10 : (St × Int32) → Option St) (v9 : St × Int32) => if 80 ≤ v9.2 then (lp (fun (K13 : (St × Int32) → Option St) (v12 : St × Int32) => if 48 ≤ v12.2 then (some v12.1) else ckI (((x5 + 8) + 80) + v12.2) 5520 (ckI (v12.2) 48 (nm (up v12.1 19 (Int32.toNatClampNeg v12.2) (v12.1 20 (Int32.toNatClampNeg (((x5 + 8) + 80) + v12.2)))) fun u15 => K13 ((u15, v12.2 + 1))))) F ((v9.1, 0))) else ckI ((x5 + 8) + v9.2) 5520 (ckI (v9.2) 160 (nm (up v9.1 13 (Int32.toNatClampNeg v9.2) (v9.1 20 (Int32.toNatClampNeg ((x5 + 8) + v9.2)))) fun u16 => K10 ((u16, v9.2 + 1))))) F ((v6.1, 0))) else ckI (x5 + v6.2) 5520 (ckI (v6.2) 8 (nm (up v6.1 18 (Int32.toNatClampNeg v6.2) (v6.1 20 (Int32.toNatClampNeg (x5 + v6.2)))) fun u17 => K7 ((u17, v6.2 + 1))))) F ((u4, 0))))
set_option maxRecDepth 20000 in
theorem wfX11_unpack {X : XT} {D : va_G} {cI cT : ClassId} {ad : Nat → Nat} {F : Nat} {σ : St} {a1 : Int32} {σ' : St} (C : Cx X (gM D cI cT ad) cX11_unpack 5 RX11 0 0 0) (hr : RetV X (gM D cI cT ad) cX11_unpack 5 0 σ') (h : fX11_unpack F σ a1 = some σ') : WP X (gM D cI cT ad) 5 0 0 σ [(0, .ref (ad 0)), (1, .ref (ad 20)), (2, .int a1)] [] := by
  unfold fX11_unpack at h
  refine w_aload_n C dX11_unpack_0 rfl 0 rfl ?_
  refine w_aload_n C dX11_unpack_1 rfl 1 rfl ?_
  refine w_iload_n C dX11_unpack_2 rfl 2 rfl ?_
  refine w_iald C 20 5520 0 (Nat.le_of_ble_eq_true rfl) (fun _ => rfl) rfl h dX11_unpack_3 rfl (fun h => ?_)
  refine w_put C 0 31 (σ 20 (Int32.toNatClampNeg a1)) (Nat.le_of_ble_eq_true rfl) rfl rfl inB_X11 tyX11_ok nmX11 (by decide) tw6_192 rfl rfl rfl (Nat.le_of_ble_eq_true rfl) rfl dX11_unpack_4 rfl ?_
  refine w_nst h (fun u2 h => ?_)
  refine w_aload_n C dX11_unpack_7 rfl 0 rfl ?_
  refine w_aload_n C dX11_unpack_8 rfl 1 rfl ?_
  refine w_iload_n C dX11_unpack_9 rfl 2 rfl ?_
  refine w_iconst C 1 dX11_unpack_10 rfl (by decide) ?_
  refine w_iadd C dX11_unpack_11 rfl ?_
  refine w_iald C 20 5520 0 (Nat.le_of_ble_eq_true rfl) (fun _ => rfl) rfl h dX11_unpack_12 rfl (fun h => ?_)
  refine w_put C 0 32 (u2 20 (Int32.toNatClampNeg (a1 + 1))) (Nat.le_of_ble_eq_true rfl) rfl rfl inB_X11 tyX11_ok nmX11 (by decide) tw6_193 rfl rfl rfl (Nat.le_of_ble_eq_true rfl) rfl dX11_unpack_13 rfl ?_
  refine w_nst h (fun u4 h => ?_)
  refine w_iload_n C dX11_unpack_16 rfl 2 rfl ?_
  refine w_iconst C 2 dX11_unpack_17 rfl (by decide) ?_
  refine w_iadd C dX11_unpack_18 rfl ?_
  refine w_nm h (fun x5 h => ?_)
  refine w_istore_n C [(3, .int x5), (0, .ref (ad 0)), (1, .ref (ad 20)), (2, .int a1)] dX11_unpack_19 rfl (by decide) rfl ?_
  refine w_iconst C 0 dX11_unpack_20 rfl (by decide) ?_
  refine w_istore C [(4, .int 0), (3, .int x5), (0, .ref (ad 0)), (1, .ref (ad 20)), (2, .int a1)] dX11_unpack_21 rfl (by decide) rfl ?_
  refine w_sub [0, 1, 2, 3] rfl ?_
  refine lp_w (fun v6 : St × Int32 => WP X (gM D cI cT ad) 5 0 23 v6.1 [(4, .int v6.2), (3, .int x5), (0, .ref (ad 0)), (1, .ref (ad 20))] []) (fun K7 hK8 v6 h => ?_) F _ h
  refine w_iload C dX11_unpack_23 rfl 0 rfl ?_
  refine w_bipush C 8 dX11_unpack_25 rfl (by decide) ?_
  refine w_icmp_ge C (qt := 49) dX11_unpack_27 (by decide) rfl h (fun _ h => ?_) (fun _ h => ?_)
  · refine w_iinc (j := 1) C (x5 + 8) [(3, .int (x5 + 8)), (4, .int v6.2), (0, .ref (ad 0)), (1, .ref (ad 20))] dX11_unpack_49 rfl rfl rfl (by decide) rfl ?_
    refine w_iconst C 0 dX11_unpack_52 rfl (by decide) ?_
    refine w_istore C [(4, .int 0), (3, .int (x5 + 8)), (0, .ref (ad 0)), (1, .ref (ad 20))] dX11_unpack_53 rfl (by decide) rfl ?_
    refine w_sub [0, 1, 2, 3] rfl ?_
    refine lp_w (fun v9 : St × Int32 => WP X (gM D cI cT ad) 5 0 55 v9.1 [(4, .int v9.2), (3, .int (x5 + 8)), (0, .ref (ad 0)), (1, .ref (ad 20))] []) (fun K10 hK11 v9 h => ?_) F _ h
    refine w_iload C dX11_unpack_55 rfl 0 rfl ?_
    refine w_bipush C 80 dX11_unpack_57 rfl (by decide) ?_
    refine w_icmp_ge C (qt := 81) dX11_unpack_59 (by decide) rfl h (fun _ h => ?_) (fun _ h => ?_)
    · refine w_iinc (j := 1) C ((x5 + 8) + 80) [(3, .int ((x5 + 8) + 80)), (4, .int v9.2), (0, .ref (ad 0)), (1, .ref (ad 20))] dX11_unpack_81 rfl rfl rfl (by decide) rfl ?_
      refine w_iconst C 0 dX11_unpack_84 rfl (by decide) ?_
      refine w_istore C [(4, .int 0), (3, .int ((x5 + 8) + 80)), (0, .ref (ad 0)), (1, .ref (ad 20))] dX11_unpack_85 rfl (by decide) rfl ?_
      refine w_sub [0, 1, 2, 3] rfl ?_
      refine lp_w (fun v12 : St × Int32 => WP X (gM D cI cT ad) 5 0 87 v12.1 [(4, .int v12.2), (3, .int ((x5 + 8) + 80)), (0, .ref (ad 0)), (1, .ref (ad 20))] []) (fun K13 hK14 v12 h => ?_) F _ h
      refine w_iload C dX11_unpack_87 rfl 0 rfl ?_
      refine w_bipush C 48 dX11_unpack_89 rfl (by decide) ?_
      refine w_icmp_ge C (qt := 113) dX11_unpack_91 (by decide) rfl h (fun _ h => ?_) (fun _ h => ?_)
      · exact w_rv hr h (by decide) dX11_unpack_113
      · refine w_aload_n C dX11_unpack_94 rfl 2 rfl ?_
        refine w_get C 0 29 (Nat.le_of_ble_eq_true rfl) rfl rfl inB_X11 (by decide) tw6_190 rfl dX11_unpack_95 rfl ?_
        refine w_iload C dX11_unpack_98 rfl 0 rfl ?_
        refine w_aload_n C dX11_unpack_100 rfl 3 rfl ?_
        refine w_iload_n C dX11_unpack_101 rfl 1 rfl ?_
        refine w_iload C dX11_unpack_102 rfl 0 rfl ?_
        refine w_iadd C dX11_unpack_104 rfl ?_
        refine w_iald C 20 5520 0 (Nat.le_of_ble_eq_true rfl) (fun _ => rfl) rfl h dX11_unpack_105 rfl (fun h => ?_)
        refine w_iast C 19 48 0 (Nat.le_of_ble_eq_true rfl) (fun _ => rfl) rfl h dX11_unpack_106 rfl (fun h => ?_)
        refine w_nst h (fun u15 h => ?_)
        refine w_iinc (j := 0) C (v12.2 + 1) [(4, .int (v12.2 + 1)), (3, .int ((x5 + 8) + 80)), (0, .ref (ad 0)), (1, .ref (ad 20))] dX11_unpack_107 rfl rfl rfl (by decide) rfl ?_
        refine w_goto (q := 87) C dX11_unpack_110 (by decide) ?_
        exact w_sub [0, 1, 2, 3] rfl (hK14 _ h)
    · refine w_aload_n C dX11_unpack_62 rfl 2 rfl ?_
      refine w_get C 0 13 (Nat.le_of_ble_eq_true rfl) rfl rfl inB_X11 (by decide) tw6_174 rfl dX11_unpack_63 rfl ?_
      refine w_iload C dX11_unpack_66 rfl 0 rfl ?_
      refine w_aload_n C dX11_unpack_68 rfl 3 rfl ?_
      refine w_iload_n C dX11_unpack_69 rfl 1 rfl ?_
      refine w_iload C dX11_unpack_70 rfl 0 rfl ?_
      refine w_iadd C dX11_unpack_72 rfl ?_
      refine w_iald C 20 5520 0 (Nat.le_of_ble_eq_true rfl) (fun _ => rfl) rfl h dX11_unpack_73 rfl (fun h => ?_)
      refine w_iast C 13 160 0 (Nat.le_of_ble_eq_true rfl) (fun _ => rfl) rfl h dX11_unpack_74 rfl (fun h => ?_)
      refine w_nst h (fun u16 h => ?_)
      refine w_iinc (j := 0) C (v9.2 + 1) [(4, .int (v9.2 + 1)), (3, .int (x5 + 8)), (0, .ref (ad 0)), (1, .ref (ad 20))] dX11_unpack_75 rfl rfl rfl (by decide) rfl ?_
      refine w_goto (q := 55) C dX11_unpack_78 (by decide) ?_
      exact w_sub [0, 1, 2, 3] rfl (hK11 _ h)
  · refine w_aload_n C dX11_unpack_30 rfl 2 rfl ?_
    refine w_get C 0 28 (Nat.le_of_ble_eq_true rfl) rfl rfl inB_X11 (by decide) tw6_189 rfl dX11_unpack_31 rfl ?_
    refine w_iload C dX11_unpack_34 rfl 0 rfl ?_
    refine w_aload_n C dX11_unpack_36 rfl 3 rfl ?_
    refine w_iload_n C dX11_unpack_37 rfl 1 rfl ?_
    refine w_iload C dX11_unpack_38 rfl 0 rfl ?_
    refine w_iadd C dX11_unpack_40 rfl ?_
    refine w_iald C 20 5520 0 (Nat.le_of_ble_eq_true rfl) (fun _ => rfl) rfl h dX11_unpack_41 rfl (fun h => ?_)
    refine w_iast C 18 8 0 (Nat.le_of_ble_eq_true rfl) (fun _ => rfl) rfl h dX11_unpack_42 rfl (fun h => ?_)
    refine w_nst h (fun u17 h => ?_)
    refine w_iinc (j := 0) C (v6.2 + 1) [(4, .int (v6.2 + 1)), (3, .int x5), (0, .ref (ad 0)), (1, .ref (ad 20))] dX11_unpack_43 rfl rfl rfl (by decide) rfl ?_
    refine w_goto (q := 23) C dX11_unpack_46 (by decide) ?_
    exact w_sub [0, 1, 2, 3] rfl (hK8 _ h)
theorem cfX11_unpack (D : va_G) (cI cT : ClassId) (ad : Nat → Nat) {l : Launch} (had : gAp (gM D cI cT ad)) {F : Nat} {σ : St} {a1 : Int32} {σ' : St} (h : fX11_unpack F σ a1 = some σ') : MV l yX11_unpack (wB yX11_unpack cX11_unpack 5 none) 0 0 (gM D cI cT ad) [.ref (ad 0), .ref (ad 20), .int a1] σ σ' := mk_MV had (by decide +kernel) (Nat.le_of_ble_eq_true rfl) (fun X hX C hr => wfX11_unpack C hr h)

def fX11_undo (F : Nat) (σ : St) : Option (Int32 × St) := nm (up σ 0 4 0) fun u2 => if (u2 0 33) = 0 then (some ((-1), u2)) else nm (up u2 0 33 ((u2 0 33) - 1)) fun u4 => bd1 (fX11_unpack F u4 (138 * (u4 0 33))) fun u5 => some (u5 0 33, u5)
set_option maxRecDepth 20000 in
theorem wfX11_undo {X : XT} {D : va_G} {cI cT : ClassId} {ad : Nat → Nat} {F : Nat} {σ : St}  {r : Int32} {σ' : St} (C : Cx X (gM D cI cT ad) cX11_undo 1 RX11 1 24 0) (hr : RetI X (gM D cI cT ad) cX11_undo 1 0 r σ') (h : fX11_undo F σ = some (r, σ')) : WP X (gM D cI cT ad) 1 0 0 σ [(0, .ref (ad 0))] [] := by
  unfold fX11_undo at h
  refine w_aload_n C dX11_undo_0 rfl 0 rfl ?_
  refine w_iconst C 0 dX11_undo_1 rfl (by decide) ?_
  refine w_put C 0 4 0 (Nat.le_of_ble_eq_true rfl) rfl rfl inB_X11 tyX11_ok nmX11 (by decide) tw6_165 rfl rfl rfl (Nat.le_of_ble_eq_true rfl) rfl dX11_undo_2 rfl ?_
  refine w_nst h (fun u2 h => ?_)
  refine w_aload_n C dX11_undo_5 rfl 0 rfl ?_
  refine w_get C 0 33 (Nat.le_of_ble_eq_true rfl) rfl rfl inB_X11 (by decide) tw6_194 rfl dX11_undo_6 rfl ?_
  refine w_if_ne C (qt := 14) dX11_undo_9 (by decide) rfl h (fun _ h => ?_) (fun _ h => ?_)
  · refine w_aload_n C dX11_undo_14 rfl 0 rfl ?_
    refine w_dup C rfl dX11_undo_15 rfl ?_
    refine w_get C 0 33 (Nat.le_of_ble_eq_true rfl) rfl rfl inB_X11 (by decide) tw6_194 rfl dX11_undo_16 rfl ?_
    refine w_iconst C 1 dX11_undo_19 rfl (by decide) ?_
    refine w_isub C dX11_undo_20 rfl ?_
    refine w_put C 0 33 ((u2 0 33) - 1) (Nat.le_of_ble_eq_true rfl) rfl rfl inB_X11 tyX11_ok nmX11 (by decide) tw6_194 rfl rfl rfl (Nat.le_of_ble_eq_true rfl) rfl dX11_undo_21 rfl ?_
    refine w_nst h (fun u4 h => ?_)
    refine w_aload_n C dX11_undo_24 rfl 0 rfl ?_
    refine w_aload_n C dX11_undo_25 rfl 0 rfl ?_
    refine w_get C 0 30 (Nat.le_of_ble_eq_true rfl) rfl rfl inB_X11 (by decide) tw6_191 rfl dX11_undo_26 rfl ?_
    refine w_sipush C 138 dX11_undo_29 rfl (by decide) ?_
    refine w_aload_n C dX11_undo_32 rfl 0 rfl ?_
    refine w_get C 0 33 (Nat.le_of_ble_eq_true rfl) rfl rfl inB_X11 (by decide) tw6_194 rfl dX11_undo_33 rfl ?_
    refine w_imul C dX11_undo_36 rfl ?_
    refine bd1_w h (fun u5 hc h => ?_)
    refine w_callVv C (As := [.ref (ad 20), .int (138 * (u4 0 33))]) (st := []) 0 (Nat.le_of_ble_eq_true rfl) rfl rfl (cfX11_unpack D cI cT ad (l := X.2.1) C.2.2.1 hc) tw8_192 cy_X11_unpack (by decide +kernel) ⟨Nat.le_of_ble_eq_true rfl, Nat.le_of_ble_eq_true rfl⟩ (by decide) rfl rfl (Nat.le_of_ble_eq_true rfl) dX11_undo_37 rfl ?_
    refine w_aload_n C dX11_undo_40 rfl 0 rfl ?_
    refine w_get C 0 33 (Nat.le_of_ble_eq_true rfl) rfl rfl inB_X11 (by decide) tw6_194 rfl dX11_undo_41 rfl ?_
    exact w_ri2 hr h (by decide) dX11_undo_44
  · refine w_iconst C (-1) dX11_undo_12 rfl (by decide) ?_
    exact w_ri2 hr h (by decide) dX11_undo_13
theorem cfX11_undo (D : va_G) (cI cT : ClassId) (ad : Nat → Nat) {l : Launch} (had : gAp (gM D cI cT ad)) {F : Nat} {σ : St}  {r : Int32} {σ' : St} (h : fX11_undo F σ = some (r, σ')) : MI l yX11_undo (wB yX11_undo cX11_undo 1 (some .int)) 1 24 (gM D cI cT ad) [.ref (ad 0)] σ r σ' := mk_MI had (by decide +kernel) (Nat.le_of_ble_eq_true rfl) (fun X hX C hr => wfX11_undo C hr h)

def fX11_endsWellBy (F : Nat) (σ : St) (a0 : Int32) (a1 : Int32) (a2 : Int32) : Option (Int32 × St) := nm ((10 * a0) + a1) fun x1 => ckI (x1) 160 (nm (σ 13 (Int32.toNatClampNeg x1)) fun x2 => ckI (x1) 160 (nm (up σ 13 (Int32.toNatClampNeg x1) a2) fun u3 => bd2 (fX11_endsWell F u3 a0) fun r4 u5 => ckI (x1) 160 (nm (up u5 13 (Int32.toNatClampNeg x1) x2) fun u6 => ckB (r4) (some (r4, u6)))))
set_option maxRecDepth 20000 in
theorem wfX11_endsWellBy {X : XT} {D : va_G} {cI cT : ClassId} {ad : Nat → Nat} {F : Nat} {σ : St} {a0 : Int32} {a1 : Int32} {a2 : Int32} {r : Int32} {σ' : St} (C : Cx X (gM D cI cT ad) cX11_endsWellBy 7 RX11 5 119 0) (hr : RetZ X (gM D cI cT ad) cX11_endsWellBy 7 0 r σ') (h : fX11_endsWellBy F σ a0 a1 a2 = some (r, σ')) : WP X (gM D cI cT ad) 7 0 0 σ [(0, .ref (ad 0)), (1, .int a0), (2, .int a1), (3, .int a2)] [] := by
  unfold fX11_endsWellBy at h
  refine w_bipush C 10 dX11_endsWellBy_0 rfl (by decide) ?_
  refine w_iload_n C dX11_endsWellBy_2 rfl 1 rfl ?_
  refine w_imul C dX11_endsWellBy_3 rfl ?_
  refine w_iload_n C dX11_endsWellBy_4 rfl 2 rfl ?_
  refine w_iadd C dX11_endsWellBy_5 rfl ?_
  refine w_nm h (fun x1 h => ?_)
  refine w_istore C [(4, .int x1), (0, .ref (ad 0)), (1, .int a0), (2, .int a1), (3, .int a2)] dX11_endsWellBy_6 rfl (by decide) rfl ?_
  refine w_aload_n C dX11_endsWellBy_8 rfl 1 rfl ?_
  refine w_get C 0 13 (Nat.le_of_ble_eq_true rfl) rfl rfl inB_X11 (by decide) tw6_174 rfl dX11_endsWellBy_9 rfl ?_
  refine w_iload C dX11_endsWellBy_12 rfl 0 rfl ?_
  refine w_iald C 13 160 0 (Nat.le_of_ble_eq_true rfl) (fun _ => rfl) rfl h dX11_endsWellBy_14 rfl (fun h => ?_)
  refine w_nm h (fun x2 h => ?_)
  refine w_istore C [(5, .int x2), (4, .int x1), (0, .ref (ad 0)), (1, .int a0), (2, .int a1), (3, .int a2)] dX11_endsWellBy_15 rfl (by decide) rfl ?_
  refine w_aload_n C dX11_endsWellBy_17 rfl 2 rfl ?_
  refine w_get C 0 13 (Nat.le_of_ble_eq_true rfl) rfl rfl inB_X11 (by decide) tw6_174 rfl dX11_endsWellBy_18 rfl ?_
  refine w_iload C dX11_endsWellBy_21 rfl 1 rfl ?_
  refine w_iload_n C dX11_endsWellBy_23 rfl 5 rfl ?_
  refine w_iast C 13 160 0 (Nat.le_of_ble_eq_true rfl) (fun _ => rfl) rfl h dX11_endsWellBy_24 rfl (fun h => ?_)
  refine w_nst h (fun u3 h => ?_)
  refine w_aload_n C dX11_endsWellBy_25 rfl 2 rfl ?_
  refine w_iload_n C dX11_endsWellBy_26 rfl 3 rfl ?_
  refine bd2_w h (fun r4 u5 hc h => ?_)
  refine w_callVi C (As := [.int a0]) (st := []) 0 (Nat.le_of_ble_eq_true rfl) rfl rfl (cfX11_endsWell D cI cT ad (l := X.2.1) C.2.2.1 hc) tw8_12 cy_X11_endsWell (by decide +kernel) ⟨Nat.le_of_ble_eq_true rfl, Nat.le_of_ble_eq_true rfl⟩ (by decide) rfl rfl (Nat.le_of_ble_eq_true rfl) dX11_endsWellBy_27 rfl ?_
  refine w_istore C [(6, .int r4), (5, .int x2), (4, .int x1), (0, .ref (ad 0)), (1, .int a0), (2, .int a1), (3, .int a2)] dX11_endsWellBy_30 rfl (by decide) rfl ?_
  refine w_aload_n C dX11_endsWellBy_32 rfl 3 rfl ?_
  refine w_get C 0 13 (Nat.le_of_ble_eq_true rfl) rfl rfl inB_X11 (by decide) tw6_174 rfl dX11_endsWellBy_33 rfl ?_
  refine w_iload C dX11_endsWellBy_36 rfl 2 rfl ?_
  refine w_iload C dX11_endsWellBy_38 rfl 1 rfl ?_
  refine w_iast C 13 160 0 (Nat.le_of_ble_eq_true rfl) (fun _ => rfl) rfl h dX11_endsWellBy_40 rfl (fun h => ?_)
  refine w_nst h (fun u6 h => ?_)
  refine w_iload C dX11_endsWellBy_41 rfl 0 rfl ?_
  obtain ⟨hz, h⟩ := ckB_w h
  exact w_rz2 hr hz h (by decide) dX11_endsWellBy_43
theorem cfX11_endsWellBy (D : va_G) (cI cT : ClassId) (ad : Nat → Nat) {l : Launch} (had : gAp (gM D cI cT ad)) {F : Nat} {σ : St} {a0 : Int32} {a1 : Int32} {a2 : Int32} {r : Int32} {σ' : St} (h : fX11_endsWellBy F σ a0 a1 a2 = some (r, σ')) : MI l yX11_endsWellBy (wB yX11_endsWellBy cX11_endsWellBy 7 (some .boolean)) 5 119 (gM D cI cT ad) [.ref (ad 0), .int a0, .int a1, .int a2] σ r σ' := mk_MZ had (by decide +kernel) (Nat.le_of_ble_eq_true rfl) (fun X hX C hr => wfX11_endsWellBy C hr h)

def fX11_mendFrom (F : Nat) (σ : St) (a0 : Int32) (a1 : Int32) : Option (Int32 × St) := lp (fun (K2 : (St × Int32) → Option (Int32 × St)) (v1 : St × Int32) => ckI (a0) 16 (if (v1.1 10 (Int32.toNatClampNeg a0)) ≤ v1.2 then (some ((-1), v1.1)) else lp (fun (K5 : (St × Int32) → Option (Int32 × St)) (v4 : St × Int32) => if 10 ≤ v4.2 then (K2 ((v4.1, v1.2 + 1))) else bd1 (fX11_isLimp F v4.1 a0 v1.2) fun r7 => if r7 = 0 then (K2 ((v4.1, v1.2 + 1))) else ckI ((10 * a0) + v1.2) 160 (if v4.2 = (v4.1 13 (Int32.toNatClampNeg ((10 * a0) + v1.2))) then (K5 ((v4.1, v4.2 + 1))) else bd2 (fX11_endsWellBy F v4.1 a0 v1.2 v4.2) fun r8 u9 => if r8 = 0 then (K5 ((u9, v4.2 + 1))) else some ((10 * v1.2) + v4.2, u9))) F ((v1.1, 0)))) F ((σ, a1))
set_option maxRecDepth 20000 in
theorem wfX11_mendFrom {X : XT} {D : va_G} {cI cT : ClassId} {ad : Nat → Nat} {F : Nat} {σ : St} {a0 : Int32} {a1 : Int32} {r : Int32} {σ' : St} (C : Cx X (gM D cI cT ad) cX11_mendFrom 5 RX11 6 145 0) (hr : RetI X (gM D cI cT ad) cX11_mendFrom 5 0 r σ') (h : fX11_mendFrom F σ a0 a1 = some (r, σ')) : WP X (gM D cI cT ad) 5 0 0 σ [(0, .ref (ad 0)), (1, .int a0), (2, .int a1)] [] := by
  unfold fX11_mendFrom at h
  refine w_iload_n C dX11_mendFrom_0 rfl 2 rfl ?_
  refine w_istore_n C [(3, .int a1), (0, .ref (ad 0)), (1, .int a0), (2, .int a1)] dX11_mendFrom_1 rfl (by decide) rfl ?_
  refine w_sub [0, 1, 2] rfl ?_
  refine lp_w (fun v1 : St × Int32 => WP X (gM D cI cT ad) 5 0 2 v1.1 [(3, .int v1.2), (0, .ref (ad 0)), (1, .int a0)] []) (fun K2 hK3 v1 h => ?_) F _ h
  refine w_iload_n C dX11_mendFrom_2 rfl 0 rfl ?_
  refine w_aload_n C dX11_mendFrom_3 rfl 1 rfl ?_
  refine w_get C 0 10 (Nat.le_of_ble_eq_true rfl) rfl rfl inB_X11 (by decide) tw6_171 rfl dX11_mendFrom_4 rfl ?_
  refine w_iload_n C dX11_mendFrom_7 rfl 2 rfl ?_
  refine w_iald C 10 16 0 (Nat.le_of_ble_eq_true rfl) (fun _ => rfl) rfl h dX11_mendFrom_8 rfl (fun h => ?_)
  refine w_icmp_ge C (qt := 78) dX11_mendFrom_9 (by decide) rfl h (fun _ h => ?_) (fun _ h => ?_)
  · refine w_iconst C (-1) dX11_mendFrom_78 rfl (by decide) ?_
    exact w_ri2 hr h (by decide) dX11_mendFrom_79
  · refine w_iconst C 0 dX11_mendFrom_12 rfl (by decide) ?_
    refine w_istore C [(4, .int 0), (3, .int v1.2), (0, .ref (ad 0)), (1, .int a0)] dX11_mendFrom_13 rfl (by decide) rfl ?_
    refine w_sub [0, 1, 2, 3] rfl ?_
    refine lp_w (fun v4 : St × Int32 => WP X (gM D cI cT ad) 5 0 15 v4.1 [(4, .int v4.2), (3, .int v1.2), (0, .ref (ad 0)), (1, .int a0)] []) (fun K5 hK6 v4 h => ?_) F _ h
    refine w_iload C dX11_mendFrom_15 rfl 0 rfl ?_
    refine w_bipush C 10 dX11_mendFrom_17 rfl (by decide) ?_
    refine w_icmp_ge C (qt := 72) dX11_mendFrom_19 (by decide) rfl h (fun _ h => ?_) (fun _ h => ?_)
    · refine w_iinc (j := 1) C (v1.2 + 1) [(3, .int (v1.2 + 1)), (4, .int v4.2), (0, .ref (ad 0)), (1, .int a0)] dX11_mendFrom_72 rfl rfl rfl (by decide) rfl ?_
      refine w_goto (q := 2) C dX11_mendFrom_75 (by decide) ?_
      exact w_sub [0, 2, 3] rfl (hK3 _ h)
    · refine w_aload_n C dX11_mendFrom_22 rfl 2 rfl ?_
      refine w_iload_n C dX11_mendFrom_23 rfl 3 rfl ?_
      refine w_iload_n C dX11_mendFrom_24 rfl 1 rfl ?_
      refine bd1_w h (fun r7 hc h => ?_)
      refine w_callVi C (As := [.int a0, .int v1.2]) (st := []) 0 (Nat.le_of_ble_eq_true rfl) rfl rfl (cfX11_isLimp D cI cT ad (l := X.2.1) C.2.2.1 hc) tw8_179 cy_X11_isLimp (by decide +kernel) ⟨Nat.le_of_ble_eq_true rfl, Nat.le_of_ble_eq_true rfl⟩ (by decide) rfl rfl (Nat.le_of_ble_eq_true rfl) dX11_mendFrom_25 rfl ?_
      refine w_if_eq C (qt := 72) dX11_mendFrom_28 (by decide) rfl h (fun _ h => ?_) (fun _ h => ?_)
      · refine w_iinc (j := 1) C (v1.2 + 1) [(3, .int (v1.2 + 1)), (4, .int v4.2), (0, .ref (ad 0)), (1, .int a0)] dX11_mendFrom_72 rfl rfl rfl (by decide) rfl ?_
        refine w_goto (q := 2) C dX11_mendFrom_75 (by decide) ?_
        exact w_sub [0, 2, 3] rfl (hK3 _ h)
      · refine w_iload C dX11_mendFrom_31 rfl 0 rfl ?_
        refine w_aload_n C dX11_mendFrom_33 rfl 2 rfl ?_
        refine w_get C 0 13 (Nat.le_of_ble_eq_true rfl) rfl rfl inB_X11 (by decide) tw6_174 rfl dX11_mendFrom_34 rfl ?_
        refine w_bipush C 10 dX11_mendFrom_37 rfl (by decide) ?_
        refine w_iload_n C dX11_mendFrom_39 rfl 3 rfl ?_
        refine w_imul C dX11_mendFrom_40 rfl ?_
        refine w_iload_n C dX11_mendFrom_41 rfl 1 rfl ?_
        refine w_iadd C dX11_mendFrom_42 rfl ?_
        refine w_iald C 13 160 0 (Nat.le_of_ble_eq_true rfl) (fun _ => rfl) rfl h dX11_mendFrom_43 rfl (fun h => ?_)
        refine w_icmp_eq C (qt := 66) dX11_mendFrom_44 (by decide) rfl h (fun _ h => ?_) (fun _ h => ?_)
        · refine w_iinc (j := 0) C (v4.2 + 1) [(4, .int (v4.2 + 1)), (3, .int v1.2), (0, .ref (ad 0)), (1, .int a0)] dX11_mendFrom_66 rfl rfl rfl (by decide) rfl ?_
          refine w_goto (q := 15) C dX11_mendFrom_69 (by decide) ?_
          exact w_sub [0, 1, 2, 3] rfl (hK6 _ h)
        · refine w_aload_n C dX11_mendFrom_47 rfl 2 rfl ?_
          refine w_iload_n C dX11_mendFrom_48 rfl 3 rfl ?_
          refine w_iload_n C dX11_mendFrom_49 rfl 1 rfl ?_
          refine w_iload C dX11_mendFrom_50 rfl 0 rfl ?_
          refine bd2_w h (fun r8 u9 hc h => ?_)
          refine w_callVi C (As := [.int a0, .int v1.2, .int v4.2]) (st := []) 0 (Nat.le_of_ble_eq_true rfl) rfl rfl (cfX11_endsWellBy D cI cT ad (l := X.2.1) C.2.2.1 hc) tw8_204 cy_X11_endsWellBy (by decide +kernel) ⟨Nat.le_of_ble_eq_true rfl, Nat.le_of_ble_eq_true rfl⟩ (by decide) rfl rfl (Nat.le_of_ble_eq_true rfl) dX11_mendFrom_52 rfl ?_
          refine w_if_eq C (qt := 66) dX11_mendFrom_55 (by decide) rfl h (fun _ h => ?_) (fun _ h => ?_)
          · refine w_iinc (j := 0) C (v4.2 + 1) [(4, .int (v4.2 + 1)), (3, .int v1.2), (0, .ref (ad 0)), (1, .int a0)] dX11_mendFrom_66 rfl rfl rfl (by decide) rfl ?_
            refine w_goto (q := 15) C dX11_mendFrom_69 (by decide) ?_
            exact w_sub [0, 1, 2, 3] rfl (hK6 _ h)
          · refine w_bipush C 10 dX11_mendFrom_58 rfl (by decide) ?_
            refine w_iload_n C dX11_mendFrom_60 rfl 1 rfl ?_
            refine w_imul C dX11_mendFrom_61 rfl ?_
            refine w_iload C dX11_mendFrom_62 rfl 0 rfl ?_
            refine w_iadd C dX11_mendFrom_64 rfl ?_
            exact w_ri2 hr h (by decide) dX11_mendFrom_65
theorem cfX11_mendFrom (D : va_G) (cI cT : ClassId) (ad : Nat → Nat) {l : Launch} (had : gAp (gM D cI cT ad)) {F : Nat} {σ : St} {a0 : Int32} {a1 : Int32} {r : Int32} {σ' : St} (h : fX11_mendFrom F σ a0 a1 = some (r, σ')) : MI l yX11_mendFrom (wB yX11_mendFrom cX11_mendFrom 5 (some .int)) 6 145 (gM D cI cT ad) [.ref (ad 0), .int a0, .int a1] σ r σ' := mk_MI had (by decide +kernel) (Nat.le_of_ble_eq_true rfl) (fun X hX C hr => wfX11_mendFrom C hr h)

def fX11_mendBoth (F : Nat) (σ : St) (a0 : Int32) (a1 : Int32) (a2 : Int32) : Option (Int32 × St) := nm ((10 * a0) + a1) fun x1 => ckI (x1) 160 (nm (σ 13 (Int32.toNatClampNeg x1)) fun x2 => lp (fun (K4 : (St × Int32 × Int32) → Option (Int32 × St)) (v3 : St × Int32 × Int32) => if 10 ≤ v3.2.1 then (ckI (x1) 160 (nm (up v3.1 13 (Int32.toNatClampNeg x1) x2) fun u6 => some (v3.2.2, u6))) else if v3.2.2 = ((-1)) then (if v3.2.1 = x2 then (K4 ((v3.1, v3.2.1 + 1, v3.2.2))) else ckI (x1) 160 (nm (up v3.1 13 (Int32.toNatClampNeg x1) v3.2.1) fun u8 => lp (fun (K10 : (St × Int32 × Int32) → Option (Int32 × St)) (v9 : St × Int32 × Int32) => if 10 ≤ v9.2.1 then (K4 ((v9.1, v3.2.1 + 1, v9.2.2))) else if v9.2.2 = ((-1)) then (ckI ((10 * a0) + a2) 160 (if v9.2.1 = (v9.1 13 (Int32.toNatClampNeg ((10 * a0) + a2))) then (K10 ((v9.1, v9.2.1 + 1, v9.2.2))) else bd2 (fX11_endsWellBy F v9.1 a0 a2 v9.2.1) fun r12 u13 => if r12 = 0 then (K10 ((u13, v9.2.1 + 1, v9.2.2))) else nm (((100 * ((10 * a1) + v3.2.1)) + (10 * a2)) + v9.2.1) fun x14 => K10 ((u13, v9.2.1 + 1, x14)))) else K4 ((v9.1, v3.2.1 + 1, v9.2.2))) F ((u8, 0, v3.2.2)))) else ckI (x1) 160 (nm (up v3.1 13 (Int32.toNatClampNeg x1) x2) fun u7 => some (v3.2.2, u7))) F ((σ, 0, (-1))))
set_option maxRecDepth 20000 in
theorem wfX11_mendBoth {X : XT} {D : va_G} {cI cT : ClassId} {ad : Nat → Nat} {F : Nat} {σ : St} {a0 : Int32} {a1 : Int32} {a2 : Int32} {r : Int32} {σ' : St} (C : Cx X (gM D cI cT ad) cX11_mendBoth 9 RX11 6 145 0) (hr : RetI X (gM D cI cT ad) cX11_mendBoth 9 0 r σ') (h : fX11_mendBoth F σ a0 a1 a2 = some (r, σ')) : WP X (gM D cI cT ad) 9 0 0 σ [(0, .ref (ad 0)), (1, .int a0), (2, .int a1), (3, .int a2)] [] := by
  unfold fX11_mendBoth at h
  refine w_bipush C 10 dX11_mendBoth_0 rfl (by decide) ?_
  refine w_iload_n C dX11_mendBoth_2 rfl 1 rfl ?_
  refine w_imul C dX11_mendBoth_3 rfl ?_
  refine w_iload_n C dX11_mendBoth_4 rfl 2 rfl ?_
  refine w_iadd C dX11_mendBoth_5 rfl ?_
  refine w_nm h (fun x1 h => ?_)
  refine w_istore C [(4, .int x1), (0, .ref (ad 0)), (1, .int a0), (2, .int a1), (3, .int a2)] dX11_mendBoth_6 rfl (by decide) rfl ?_
  refine w_aload_n C dX11_mendBoth_8 rfl 1 rfl ?_
  refine w_get C 0 13 (Nat.le_of_ble_eq_true rfl) rfl rfl inB_X11 (by decide) tw6_174 rfl dX11_mendBoth_9 rfl ?_
  refine w_iload C dX11_mendBoth_12 rfl 0 rfl ?_
  refine w_iald C 13 160 0 (Nat.le_of_ble_eq_true rfl) (fun _ => rfl) rfl h dX11_mendBoth_14 rfl (fun h => ?_)
  refine w_nm h (fun x2 h => ?_)
  refine w_istore C [(5, .int x2), (4, .int x1), (0, .ref (ad 0)), (1, .int a0), (2, .int a1), (3, .int a2)] dX11_mendBoth_15 rfl (by decide) rfl ?_
  refine w_iconst C (-1) dX11_mendBoth_17 rfl (by decide) ?_
  refine w_istore C [(6, .int ((-1))), (5, .int x2), (4, .int x1), (0, .ref (ad 0)), (1, .int a0), (2, .int a1), (3, .int a2)] dX11_mendBoth_18 rfl (by decide) rfl ?_
  refine w_iconst C 0 dX11_mendBoth_20 rfl (by decide) ?_
  refine w_istore C [(7, .int 0), (6, .int ((-1))), (5, .int x2), (4, .int x1), (0, .ref (ad 0)), (1, .int a0), (2, .int a1), (3, .int a2)] dX11_mendBoth_21 rfl (by decide) rfl ?_
  refine w_sub [0, 1, 2, 3, 4, 5, 6, 7] rfl ?_
  refine lp_w (fun v3 : St × Int32 × Int32 => WP X (gM D cI cT ad) 9 0 23 v3.1 [(7, .int v3.2.1), (6, .int v3.2.2), (5, .int x2), (4, .int x1), (0, .ref (ad 0)), (1, .int a0), (2, .int a1), (3, .int a2)] []) (fun K4 hK5 v3 h => ?_) F _ h
  refine w_iload C dX11_mendBoth_23 rfl 0 rfl ?_
  refine w_bipush C 10 dX11_mendBoth_25 rfl (by decide) ?_
  refine w_icmp_ge C (qt := 130) dX11_mendBoth_27 (by decide) rfl h (fun _ h => ?_) (fun _ h => ?_)
  · refine w_aload_n C dX11_mendBoth_130 rfl 4 rfl ?_
    refine w_get C 0 13 (Nat.le_of_ble_eq_true rfl) rfl rfl inB_X11 (by decide) tw6_174 rfl dX11_mendBoth_131 rfl ?_
    refine w_iload C dX11_mendBoth_134 rfl 3 rfl ?_
    refine w_iload C dX11_mendBoth_136 rfl 2 rfl ?_
    refine w_iast C 13 160 0 (Nat.le_of_ble_eq_true rfl) (fun _ => rfl) rfl h dX11_mendBoth_138 rfl (fun h => ?_)
    refine w_nst h (fun u6 h => ?_)
    refine w_iload C dX11_mendBoth_139 rfl 1 rfl ?_
    exact w_ri2 hr h (by decide) dX11_mendBoth_141
  · refine w_iload C dX11_mendBoth_30 rfl 1 rfl ?_
    refine w_iconst C (-1) dX11_mendBoth_32 rfl (by decide) ?_
    refine w_icmp_ne C (qt := 130) dX11_mendBoth_33 (by decide) rfl h (fun _ h => ?_) (fun _ h => ?_)
    · refine w_aload_n C dX11_mendBoth_130 rfl 4 rfl ?_
      refine w_get C 0 13 (Nat.le_of_ble_eq_true rfl) rfl rfl inB_X11 (by decide) tw6_174 rfl dX11_mendBoth_131 rfl ?_
      refine w_iload C dX11_mendBoth_134 rfl 3 rfl ?_
      refine w_iload C dX11_mendBoth_136 rfl 2 rfl ?_
      refine w_iast C 13 160 0 (Nat.le_of_ble_eq_true rfl) (fun _ => rfl) rfl h dX11_mendBoth_138 rfl (fun h => ?_)
      refine w_nst h (fun u7 h => ?_)
      refine w_iload C dX11_mendBoth_139 rfl 1 rfl ?_
      exact w_ri2 hr h (by decide) dX11_mendBoth_141
    · refine w_iload C dX11_mendBoth_36 rfl 0 rfl ?_
      refine w_iload C dX11_mendBoth_38 rfl 2 rfl ?_
      refine w_icmp_ne C (qt := 46) dX11_mendBoth_40 (by decide) rfl h (fun _ h => ?_) (fun _ h => ?_)
      · refine w_aload_n C dX11_mendBoth_46 rfl 4 rfl ?_
        refine w_get C 0 13 (Nat.le_of_ble_eq_true rfl) rfl rfl inB_X11 (by decide) tw6_174 rfl dX11_mendBoth_47 rfl ?_
        refine w_iload C dX11_mendBoth_50 rfl 3 rfl ?_
        refine w_iload C dX11_mendBoth_52 rfl 0 rfl ?_
        refine w_iast C 13 160 0 (Nat.le_of_ble_eq_true rfl) (fun _ => rfl) rfl h dX11_mendBoth_54 rfl (fun h => ?_)
        refine w_nst h (fun u8 h => ?_)
        refine w_iconst C 0 dX11_mendBoth_55 rfl (by decide) ?_
        refine w_istore C [(8, .int 0), (7, .int v3.2.1), (6, .int v3.2.2), (5, .int x2), (4, .int x1), (0, .ref (ad 0)), (1, .int a0), (2, .int a1), (3, .int a2)] dX11_mendBoth_56 rfl (by decide) rfl ?_
        refine w_sub [0, 1, 2, 3, 4, 5, 6, 7, 8] rfl ?_
        refine lp_w (fun v9 : St × Int32 × Int32 => WP X (gM D cI cT ad) 9 0 58 v9.1 [(8, .int v9.2.1), (7, .int v3.2.1), (6, .int v9.2.2), (5, .int x2), (4, .int x1), (0, .ref (ad 0)), (1, .int a0), (2, .int a1), (3, .int a2)] []) (fun K10 hK11 v9 h => ?_) F _ h
        refine w_iload C dX11_mendBoth_58 rfl 0 rfl ?_
        refine w_bipush C 10 dX11_mendBoth_60 rfl (by decide) ?_
        refine w_icmp_ge C (qt := 124) dX11_mendBoth_62 (by decide) rfl h (fun _ h => ?_) (fun _ h => ?_)
        · refine w_iinc (j := 1) C (v3.2.1 + 1) [(7, .int (v3.2.1 + 1)), (8, .int v9.2.1), (6, .int v9.2.2), (5, .int x2), (4, .int x1), (0, .ref (ad 0)), (1, .int a0), (2, .int a1), (3, .int a2)] dX11_mendBoth_124 rfl rfl rfl (by decide) rfl ?_
          refine w_goto (q := 23) C dX11_mendBoth_127 (by decide) ?_
          exact w_sub [0, 2, 3, 4, 5, 6, 7, 8] rfl (hK5 _ h)
        · refine w_iload C dX11_mendBoth_65 rfl 2 rfl ?_
          refine w_iconst C (-1) dX11_mendBoth_67 rfl (by decide) ?_
          refine w_icmp_ne C (qt := 124) dX11_mendBoth_68 (by decide) rfl h (fun _ h => ?_) (fun _ h => ?_)
          · refine w_iinc (j := 1) C (v3.2.1 + 1) [(7, .int (v3.2.1 + 1)), (8, .int v9.2.1), (6, .int v9.2.2), (5, .int x2), (4, .int x1), (0, .ref (ad 0)), (1, .int a0), (2, .int a1), (3, .int a2)] dX11_mendBoth_124 rfl rfl rfl (by decide) rfl ?_
            refine w_goto (q := 23) C dX11_mendBoth_127 (by decide) ?_
            exact w_sub [0, 2, 3, 4, 5, 6, 7, 8] rfl (hK5 _ h)
          · refine w_iload C dX11_mendBoth_71 rfl 0 rfl ?_
            refine w_aload_n C dX11_mendBoth_73 rfl 5 rfl ?_
            refine w_get C 0 13 (Nat.le_of_ble_eq_true rfl) rfl rfl inB_X11 (by decide) tw6_174 rfl dX11_mendBoth_74 rfl ?_
            refine w_bipush C 10 dX11_mendBoth_77 rfl (by decide) ?_
            refine w_iload_n C dX11_mendBoth_79 rfl 6 rfl ?_
            refine w_imul C dX11_mendBoth_80 rfl ?_
            refine w_iload_n C dX11_mendBoth_81 rfl 8 rfl ?_
            refine w_iadd C dX11_mendBoth_82 rfl ?_
            refine w_iald C 13 160 0 (Nat.le_of_ble_eq_true rfl) (fun _ => rfl) rfl h dX11_mendBoth_83 rfl (fun h => ?_)
            refine w_icmp_eq C (qt := 118) dX11_mendBoth_84 (by decide) rfl h (fun _ h => ?_) (fun _ h => ?_)
            · refine w_iinc (j := 0) C (v9.2.1 + 1) [(8, .int (v9.2.1 + 1)), (7, .int v3.2.1), (6, .int v9.2.2), (5, .int x2), (4, .int x1), (0, .ref (ad 0)), (1, .int a0), (2, .int a1), (3, .int a2)] dX11_mendBoth_118 rfl rfl rfl (by decide) rfl ?_
              refine w_goto (q := 58) C dX11_mendBoth_121 (by decide) ?_
              exact w_sub [0, 1, 2, 3, 4, 5, 6, 7, 8] rfl (hK11 _ h)
            · refine w_aload_n C dX11_mendBoth_87 rfl 5 rfl ?_
              refine w_iload_n C dX11_mendBoth_88 rfl 6 rfl ?_
              refine w_iload_n C dX11_mendBoth_89 rfl 8 rfl ?_
              refine w_iload C dX11_mendBoth_90 rfl 0 rfl ?_
              refine bd2_w h (fun r12 u13 hc h => ?_)
              refine w_callVi C (As := [.int a0, .int a2, .int v9.2.1]) (st := []) 0 (Nat.le_of_ble_eq_true rfl) rfl rfl (cfX11_endsWellBy D cI cT ad (l := X.2.1) C.2.2.1 hc) tw8_204 cy_X11_endsWellBy (by decide +kernel) ⟨Nat.le_of_ble_eq_true rfl, Nat.le_of_ble_eq_true rfl⟩ (by decide) rfl rfl (Nat.le_of_ble_eq_true rfl) dX11_mendBoth_92 rfl ?_
              refine w_if_eq C (qt := 118) dX11_mendBoth_95 (by decide) rfl h (fun _ h => ?_) (fun _ h => ?_)
              · refine w_iinc (j := 0) C (v9.2.1 + 1) [(8, .int (v9.2.1 + 1)), (7, .int v3.2.1), (6, .int v9.2.2), (5, .int x2), (4, .int x1), (0, .ref (ad 0)), (1, .int a0), (2, .int a1), (3, .int a2)] dX11_mendBoth_118 rfl rfl rfl (by decide) rfl ?_
                refine w_goto (q := 58) C dX11_mendBoth_121 (by decide) ?_
                exact w_sub [0, 1, 2, 3, 4, 5, 6, 7, 8] rfl (hK11 _ h)
              · refine w_bipush C 100 dX11_mendBoth_98 rfl (by decide) ?_
                refine w_bipush C 10 dX11_mendBoth_100 rfl (by decide) ?_
                refine w_iload_n C dX11_mendBoth_102 rfl 7 rfl ?_
                refine w_imul C dX11_mendBoth_103 rfl ?_
                refine w_iload C dX11_mendBoth_104 rfl 1 rfl ?_
                refine w_iadd C dX11_mendBoth_106 rfl ?_
                refine w_imul C dX11_mendBoth_107 rfl ?_
                refine w_bipush C 10 dX11_mendBoth_108 rfl (by decide) ?_
                refine w_iload_n C dX11_mendBoth_110 rfl 8 rfl ?_
                refine w_imul C dX11_mendBoth_111 rfl ?_
                refine w_iadd C dX11_mendBoth_112 rfl ?_
                refine w_iload C dX11_mendBoth_113 rfl 0 rfl ?_
                refine w_iadd C dX11_mendBoth_115 rfl ?_
                refine w_nm h (fun x14 h => ?_)
                refine w_istore C [(6, .int x14), (8, .int v9.2.1), (7, .int v3.2.1), (5, .int x2), (4, .int x1), (0, .ref (ad 0)), (1, .int a0), (2, .int a1), (3, .int a2)] dX11_mendBoth_116 rfl (by decide) rfl ?_
                refine w_iinc (j := 1) C (v9.2.1 + 1) [(8, .int (v9.2.1 + 1)), (6, .int x14), (7, .int v3.2.1), (5, .int x2), (4, .int x1), (0, .ref (ad 0)), (1, .int a0), (2, .int a1), (3, .int a2)] dX11_mendBoth_118 rfl rfl rfl (by decide) rfl ?_
                refine w_goto (q := 58) C dX11_mendBoth_121 (by decide) ?_
                exact w_sub [0, 2, 1, 3, 4, 5, 6, 7, 8] rfl (hK11 _ h)
      · refine w_goto (q := 124) C dX11_mendBoth_43 (by decide) ?_
        refine w_iinc (j := 0) C (v3.2.1 + 1) [(7, .int (v3.2.1 + 1)), (6, .int v3.2.2), (5, .int x2), (4, .int x1), (0, .ref (ad 0)), (1, .int a0), (2, .int a1), (3, .int a2)] dX11_mendBoth_124 rfl rfl rfl (by decide) rfl ?_
        refine w_goto (q := 23) C dX11_mendBoth_127 (by decide) ?_
        exact w_sub [0, 1, 2, 3, 4, 5, 6, 7] rfl (hK5 _ h)
theorem cfX11_mendBoth (D : va_G) (cI cT : ClassId) (ad : Nat → Nat) {l : Launch} (had : gAp (gM D cI cT ad)) {F : Nat} {σ : St} {a0 : Int32} {a1 : Int32} {a2 : Int32} {r : Int32} {σ' : St} (h : fX11_mendBoth F σ a0 a1 a2 = some (r, σ')) : MI l yX11_mendBoth (wB yX11_mendBoth cX11_mendBoth 9 (some .int)) 6 145 (gM D cI cT ad) [.ref (ad 0), .int a0, .int a1, .int a2] σ r σ' := mk_MI had (by decide +kernel) (Nat.le_of_ble_eq_true rfl) (fun X hX C hr => wfX11_mendBoth C hr h)

def fX11_mendTwo (F : Nat) (σ : St) (a0 : Int32) : Option (Int32 × St) := lp (fun (K2 : (St × Int32) → Option (Int32 × St)) (v1 : St × Int32) => ckI (a0) 16 (if (v1.1 10 (Int32.toNatClampNeg a0)) ≤ v1.2 then (some ((-1), v1.1)) else nm (v1.2 + 1) fun x4 => lp (fun (K6 : (St × Int32) → Option (Int32 × St)) (v5 : St × Int32) => ckI (a0) 16 (if (v5.1 10 (Int32.toNatClampNeg a0)) ≤ v5.2 then (K2 ((v5.1, v1.2 + 1))) else bd1 (fX11_isLimp F v5.1 a0 v1.2) fun r8 => jn (fun v9 : St × Int32 => if v9.2 = ((-1)) then (K6 ((v9.1, v5.2 + 1))) else some (v9.2, v9.1)) fun J10 => jn (fun v12 : Unit => J10 ((v5.1, (-1)))) fun J13 => if r8 = 0 then (J13 (())) else bd1 (fX11_isLimp F v5.1 a0 v5.2) fun r15 => if r15 = 0 then (J13 (())) else bd2 (fX11_mendBoth F v5.1 a0 v1.2 v5.2) fun r16 u17 => J10 ((u17, r16)))) F ((v1.1, x4)))) F ((σ, 0))
set_option maxRecDepth 20000 in
theorem wfX11_mendTwo {X : XT} {D : va_G} {cI cT : ClassId} {ad : Nat → Nat} {F : Nat} {σ : St} {a0 : Int32} {r : Int32} {σ' : St} (C : Cx X (gM D cI cT ad) cX11_mendTwo 5 RX11 7 173 0) (hr : RetI X (gM D cI cT ad) cX11_mendTwo 5 0 r σ') (h : fX11_mendTwo F σ a0 = some (r, σ')) : WP X (gM D cI cT ad) 5 0 0 σ [(0, .ref (ad 0)), (1, .int a0)] [] := by
  unfold fX11_mendTwo at h
  refine w_iconst C 0 dX11_mendTwo_0 rfl (by decide) ?_
  refine w_istore_n C [(2, .int 0), (0, .ref (ad 0)), (1, .int a0)] dX11_mendTwo_1 rfl (by decide) rfl ?_
  refine w_sub [0, 1, 2] rfl ?_
  refine lp_w (fun v1 : St × Int32 => WP X (gM D cI cT ad) 5 0 2 v1.1 [(2, .int v1.2), (0, .ref (ad 0)), (1, .int a0)] []) (fun K2 hK3 v1 h => ?_) F _ h
  refine w_iload_n C dX11_mendTwo_2 rfl 0 rfl ?_
  refine w_aload_n C dX11_mendTwo_3 rfl 1 rfl ?_
  refine w_get C 0 10 (Nat.le_of_ble_eq_true rfl) rfl rfl inB_X11 (by decide) tw6_171 rfl dX11_mendTwo_4 rfl ?_
  refine w_iload_n C dX11_mendTwo_7 rfl 2 rfl ?_
  refine w_iald C 10 16 0 (Nat.le_of_ble_eq_true rfl) (fun _ => rfl) rfl h dX11_mendTwo_8 rfl (fun h => ?_)
  refine w_icmp_ge C (qt := 78) dX11_mendTwo_9 (by decide) rfl h (fun _ h => ?_) (fun _ h => ?_)
  · refine w_iconst C (-1) dX11_mendTwo_78 rfl (by decide) ?_
    exact w_ri2 hr h (by decide) dX11_mendTwo_79
  · refine w_iload_n C dX11_mendTwo_12 rfl 0 rfl ?_
    refine w_iconst C 1 dX11_mendTwo_13 rfl (by decide) ?_
    refine w_iadd C dX11_mendTwo_14 rfl ?_
    refine w_nm h (fun x4 h => ?_)
    refine w_istore_n C [(3, .int x4), (2, .int v1.2), (0, .ref (ad 0)), (1, .int a0)] dX11_mendTwo_15 rfl (by decide) rfl ?_
    refine w_sub [0, 1, 2, 3] rfl ?_
    refine lp_w (fun v5 : St × Int32 => WP X (gM D cI cT ad) 5 0 16 v5.1 [(3, .int v5.2), (2, .int v1.2), (0, .ref (ad 0)), (1, .int a0)] []) (fun K6 hK7 v5 h => ?_) F _ h
    refine w_iload_n C dX11_mendTwo_16 rfl 0 rfl ?_
    refine w_aload_n C dX11_mendTwo_17 rfl 2 rfl ?_
    refine w_get C 0 10 (Nat.le_of_ble_eq_true rfl) rfl rfl inB_X11 (by decide) tw6_171 rfl dX11_mendTwo_18 rfl ?_
    refine w_iload_n C dX11_mendTwo_21 rfl 3 rfl ?_
    refine w_iald C 10 16 0 (Nat.le_of_ble_eq_true rfl) (fun _ => rfl) rfl h dX11_mendTwo_22 rfl (fun h => ?_)
    refine w_icmp_ge C (qt := 72) dX11_mendTwo_23 (by decide) rfl h (fun _ h => ?_) (fun _ h => ?_)
    · refine w_iinc (j := 1) C (v1.2 + 1) [(2, .int (v1.2 + 1)), (3, .int v5.2), (0, .ref (ad 0)), (1, .int a0)] dX11_mendTwo_72 rfl rfl rfl (by decide) rfl ?_
      refine w_goto (q := 2) C dX11_mendTwo_75 (by decide) ?_
      exact w_sub [0, 2, 3] rfl (hK3 _ h)
    · refine w_aload_n C dX11_mendTwo_26 rfl 2 rfl ?_
      refine w_iload_n C dX11_mendTwo_27 rfl 3 rfl ?_
      refine w_iload_n C dX11_mendTwo_28 rfl 1 rfl ?_
      refine bd1_w h (fun r8 hc h => ?_)
      refine w_callVi C (As := [.int a0, .int v1.2]) (st := []) 0 (Nat.le_of_ble_eq_true rfl) rfl rfl (cfX11_isLimp D cI cT ad (l := X.2.1) C.2.2.1 hc) tw8_179 cy_X11_isLimp (by decide +kernel) ⟨Nat.le_of_ble_eq_true rfl, Nat.le_of_ble_eq_true rfl⟩ (by decide) rfl rfl (Nat.le_of_ble_eq_true rfl) dX11_mendTwo_29 rfl ?_
      refine jn_w (fun v9 : St × Int32 => WP X (gM D cI cT ad) 5 0 55 v9.1 [(3, .int v5.2), (2, .int v1.2), (0, .ref (ad 0)), (1, .int a0)] [.int v9.2]) h (fun v9 h => ?_) (fun J10 hJ11 h => ?_)
      · refine w_istore C [(4, .int v9.2), (3, .int v5.2), (2, .int v1.2), (0, .ref (ad 0)), (1, .int a0)] dX11_mendTwo_55 rfl (by decide) rfl ?_
        refine w_iload C dX11_mendTwo_57 rfl 0 rfl ?_
        refine w_iconst C (-1) dX11_mendTwo_59 rfl (by decide) ?_
        refine w_icmp_eq C (qt := 66) dX11_mendTwo_60 (by decide) rfl h (fun _ h => ?_) (fun _ h => ?_)
        · refine w_iinc (j := 1) C (v5.2 + 1) [(3, .int (v5.2 + 1)), (4, .int v9.2), (2, .int v1.2), (0, .ref (ad 0)), (1, .int a0)] dX11_mendTwo_66 rfl rfl rfl (by decide) rfl ?_
          refine w_goto (q := 16) C dX11_mendTwo_69 (by decide) ?_
          exact w_sub [0, 2, 3, 4] rfl (hK7 _ h)
        · refine w_iload C dX11_mendTwo_63 rfl 0 rfl ?_
          exact w_ri2 hr h (by decide) dX11_mendTwo_65
      · refine jn_w (fun v12 : Unit => WP X (gM D cI cT ad) 5 0 54 v5.1 [(3, .int v5.2), (2, .int v1.2), (0, .ref (ad 0)), (1, .int a0)] []) h (fun v12 h => ?_) (fun J13 hJ14 h => ?_)
        · refine w_iconst C (-1) dX11_mendTwo_54 rfl (by decide) ?_
          exact w_sub [0, 1, 2, 3] rfl (hJ11 _ h)
        · refine w_if_eq C (qt := 54) dX11_mendTwo_32 (by decide) rfl h (fun _ h => ?_) (fun _ h => ?_)
          · exact w_sub [0, 1, 2, 3] rfl (hJ14 _ h)
          · refine w_aload_n C dX11_mendTwo_35 rfl 2 rfl ?_
            refine w_iload_n C dX11_mendTwo_36 rfl 3 rfl ?_
            refine w_iload_n C dX11_mendTwo_37 rfl 0 rfl ?_
            refine bd1_w h (fun r15 hc h => ?_)
            refine w_callVi C (As := [.int a0, .int v5.2]) (st := []) 0 (Nat.le_of_ble_eq_true rfl) rfl rfl (cfX11_isLimp D cI cT ad (l := X.2.1) C.2.2.1 hc) tw8_179 cy_X11_isLimp (by decide +kernel) ⟨Nat.le_of_ble_eq_true rfl, Nat.le_of_ble_eq_true rfl⟩ (by decide) rfl rfl (Nat.le_of_ble_eq_true rfl) dX11_mendTwo_38 rfl ?_
            refine w_if_eq C (qt := 54) dX11_mendTwo_41 (by decide) rfl h (fun _ h => ?_) (fun _ h => ?_)
            · exact w_sub [0, 1, 2, 3] rfl (hJ14 _ h)
            · refine w_aload_n C dX11_mendTwo_44 rfl 2 rfl ?_
              refine w_iload_n C dX11_mendTwo_45 rfl 3 rfl ?_
              refine w_iload_n C dX11_mendTwo_46 rfl 1 rfl ?_
              refine w_iload_n C dX11_mendTwo_47 rfl 0 rfl ?_
              refine bd2_w h (fun r16 u17 hc h => ?_)
              refine w_callVi C (As := [.int a0, .int v1.2, .int v5.2]) (st := []) 0 (Nat.le_of_ble_eq_true rfl) rfl rfl (cfX11_mendBoth D cI cT ad (l := X.2.1) C.2.2.1 hc) tw8_212 cy_X11_mendBoth (by decide +kernel) ⟨Nat.le_of_ble_eq_true rfl, Nat.le_of_ble_eq_true rfl⟩ (by decide) rfl rfl (Nat.le_of_ble_eq_true rfl) dX11_mendTwo_48 rfl ?_
              refine w_goto (q := 55) C dX11_mendTwo_51 (by decide) ?_
              exact w_sub [0, 1, 2, 3] rfl (hJ11 _ h)
theorem cfX11_mendTwo (D : va_G) (cI cT : ClassId) (ad : Nat → Nat) {l : Launch} (had : gAp (gM D cI cT ad)) {F : Nat} {σ : St} {a0 : Int32} {r : Int32} {σ' : St} (h : fX11_mendTwo F σ a0 = some (r, σ')) : MI l yX11_mendTwo (wB yX11_mendTwo cX11_mendTwo 5 (some .int)) 7 173 (gM D cI cT ad) [.ref (ad 0), .int a0] σ r σ' := mk_MI had (by decide +kernel) (Nat.le_of_ble_eq_true rfl) (fun X hX C hr => wfX11_mendTwo C hr h)

