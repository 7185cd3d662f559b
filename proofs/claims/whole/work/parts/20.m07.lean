def fX11_areAtOnce (F : Nat) (σ : St) (a0 : Int32) : Option Int32 := lp (fun (K2 : (Int32 × Int32) → Option Int32) (v1 : Int32 × Int32) => if (σ 5 1) ≤ v1.1 then (some 1) else bd1 (fX11_isOf F σ a0 v1.1) fun r4 => if r4 = 0 then (K2 ((v1.1 + 1, v1.2))) else ckI (v1.1) 16 (ckI (v1.1) 16 (nm ((1 <<< ((σ 7 (Int32.toNatClampNeg v1.1)) &&& 31)) ||| (1 <<< ((σ 8 (Int32.toNatClampNeg v1.1)) &&& 31))) fun x5 => if (v1.2 &&& x5) = 0 then (nm (v1.2 ||| x5) fun x6 => K2 ((v1.1 + 1, x6))) else some 0))) F ((0, 0))
set_option maxRecDepth 20000 in
theorem wfX11_areAtOnce {X : XT} {D : va_G} {cI cT : ClassId} {ad : Nat → Nat} {F : Nat} {σ : St} {a0 : Int32} {r : Int32} (C : Cx X (gM D cI cT ad) cX11_areAtOnce 5 RX11 1 21 0) (hr : RetZ X (gM D cI cT ad) cX11_areAtOnce 5 0 r σ) (h : fX11_areAtOnce F σ a0 = some r) : WP X (gM D cI cT ad) 5 0 0 σ [(0, .ref (ad 0)), (1, .int a0)] [] := by
  unfold fX11_areAtOnce at h
  refine w_iconst C 0 dX11_areAtOnce_0 rfl (by decide) ?_
  refine w_istore_n C [(2, .int 0), (0, .ref (ad 0)), (1, .int a0)] dX11_areAtOnce_1 rfl (by decide) rfl ?_
  refine w_iconst C 0 dX11_areAtOnce_2 rfl (by decide) ?_
  refine w_istore_n C [(3, .int 0), (2, .int 0), (0, .ref (ad 0)), (1, .int a0)] dX11_areAtOnce_3 rfl (by decide) rfl ?_
  refine w_sub [0, 1, 2, 3] rfl ?_
  refine lp_w (fun v1 : Int32 × Int32 => WP X (gM D cI cT ad) 5 0 4 σ [(3, .int v1.1), (2, .int v1.2), (0, .ref (ad 0)), (1, .int a0)] []) (fun K2 hK3 v1 h => ?_) F _ h
  refine w_iload_n C dX11_areAtOnce_4 rfl 0 rfl ?_
  refine w_aload_n C dX11_areAtOnce_5 rfl 2 rfl ?_
  refine w_get C 0 5 (Nat.le_of_ble_eq_true rfl) rfl rfl inB_X11 (by decide) tw6_166 rfl dX11_areAtOnce_6 rfl ?_
  refine w_iconst C 1 dX11_areAtOnce_9 rfl (by decide) ?_
  refine w_ialdc C 5 8 0 1 (Nat.le_of_ble_eq_true rfl) (fun _ => rfl) rfl (by decide) (by decide) dX11_areAtOnce_10 rfl ?_
  refine w_icmp_ge C (qt := 64) dX11_areAtOnce_11 (by decide) rfl h (fun _ h => ?_) (fun _ h => ?_)
  · refine w_iconst C 1 dX11_areAtOnce_64 rfl (by decide) ?_
    exact w_rz1 hr (by decide) h (by decide) dX11_areAtOnce_65
  · refine w_iload_n C dX11_areAtOnce_14 rfl 3 rfl ?_
    refine w_iload_n C dX11_areAtOnce_15 rfl 0 rfl ?_
    refine bd1_w h (fun r4 hc h => ?_)
    refine w_callSi C (As := [.int a0, .int v1.1]) (st := []) (cfX11_isOf D cI cT ad (l := X.2.1) C.2.2.1 hc) tw8_9 cs_X11_isOf (by decide +kernel) ⟨Nat.le_of_ble_eq_true rfl, Nat.le_of_ble_eq_true rfl⟩ (by decide) rfl rfl (Nat.le_of_ble_eq_true rfl) dX11_areAtOnce_16 rfl ?_
    refine w_if_ne C (qt := 25) dX11_areAtOnce_19 (by decide) rfl h (fun _ h => ?_) (fun _ h => ?_)
    · refine w_iconst C 1 dX11_areAtOnce_25 rfl (by decide) ?_
      refine w_aload_n C dX11_areAtOnce_26 rfl 2 rfl ?_
      refine w_get C 0 7 (Nat.le_of_ble_eq_true rfl) rfl rfl inB_X11 (by decide) tw6_168 rfl dX11_areAtOnce_27 rfl ?_
      refine w_iload_n C dX11_areAtOnce_30 rfl 0 rfl ?_
      refine w_iald C 7 16 0 (Nat.le_of_ble_eq_true rfl) (fun _ => rfl) rfl h dX11_areAtOnce_31 rfl (fun h => ?_)
      refine w_ishl C dX11_areAtOnce_32 rfl ?_
      refine w_iconst C 1 dX11_areAtOnce_33 rfl (by decide) ?_
      refine w_aload_n C dX11_areAtOnce_34 rfl 2 rfl ?_
      refine w_get C 0 8 (Nat.le_of_ble_eq_true rfl) rfl rfl inB_X11 (by decide) tw6_169 rfl dX11_areAtOnce_35 rfl ?_
      refine w_iload_n C dX11_areAtOnce_38 rfl 0 rfl ?_
      refine w_iald C 8 16 0 (Nat.le_of_ble_eq_true rfl) (fun _ => rfl) rfl h dX11_areAtOnce_39 rfl (fun h => ?_)
      refine w_ishl C dX11_areAtOnce_40 rfl ?_
      refine w_ior C dX11_areAtOnce_41 rfl ?_
      refine w_nm h (fun x5 h => ?_)
      refine w_istore C [(4, .int x5), (3, .int v1.1), (2, .int v1.2), (0, .ref (ad 0)), (1, .int a0)] dX11_areAtOnce_42 rfl (by decide) rfl ?_
      refine w_iload_n C dX11_areAtOnce_44 rfl 2 rfl ?_
      refine w_iload C dX11_areAtOnce_45 rfl 0 rfl ?_
      refine w_iand C dX11_areAtOnce_47 rfl ?_
      refine w_if_eq C (qt := 53) dX11_areAtOnce_48 (by decide) rfl h (fun _ h => ?_) (fun _ h => ?_)
      · refine w_iload_n C dX11_areAtOnce_53 rfl 2 rfl ?_
        refine w_iload C dX11_areAtOnce_54 rfl 0 rfl ?_
        refine w_ior C dX11_areAtOnce_56 rfl ?_
        refine w_nm h (fun x6 h => ?_)
        refine w_istore_n C [(2, .int x6), (4, .int x5), (3, .int v1.1), (0, .ref (ad 0)), (1, .int a0)] dX11_areAtOnce_57 rfl (by decide) rfl ?_
        refine w_iinc (j := 2) C (v1.1 + 1) [(3, .int (v1.1 + 1)), (2, .int x6), (4, .int x5), (0, .ref (ad 0)), (1, .int a0)] dX11_areAtOnce_58 rfl rfl rfl (by decide) rfl ?_
        refine w_goto (q := 4) C dX11_areAtOnce_61 (by decide) ?_
        exact w_sub [0, 1, 3, 4] rfl (hK3 _ h)
      · refine w_iconst C 0 dX11_areAtOnce_51 rfl (by decide) ?_
        exact w_rz1 hr (by decide) h (by decide) dX11_areAtOnce_52
    · refine w_goto (q := 58) C dX11_areAtOnce_22 (by decide) ?_
      refine w_iinc (j := 0) C (v1.1 + 1) [(3, .int (v1.1 + 1)), (2, .int v1.2), (0, .ref (ad 0)), (1, .int a0)] dX11_areAtOnce_58 rfl rfl rfl (by decide) rfl ?_
      refine w_goto (q := 4) C dX11_areAtOnce_61 (by decide) ?_
      exact w_sub [0, 1, 2, 3] rfl (hK3 _ h)
theorem cfX11_areAtOnce (D : va_G) (cI cT : ClassId) (ad : Nat → Nat) {l : Launch} (had : gAp (gM D cI cT ad)) {F : Nat} {σ : St} {a0 : Int32} {r : Int32} (h : fX11_areAtOnce F σ a0 = some r) : MI l yX11_areAtOnce (wB yX11_areAtOnce cX11_areAtOnce 5 (some .boolean)) 1 21 (gM D cI cT ad) [.ref (ad 0), .int a0] σ r σ := mk_MZ had (by decide +kernel) (Nat.le_of_ble_eq_true rfl) (fun X hX C hr => wfX11_areAtOnce C hr h)

def fX11_evenings (F : Nat) (σ : St) (a0 : Int32) : Option (Int32 × St) := nm (up σ 0 4 0) fun u2 => bd1 (fX11_isIn F u2 (Int32.toInt64 a0) 0 2) fun r3 => if r3 = 0 then (bd2 (fX11_fail F u2 1) fun r16 u17 => some (r16, u17)) else if a0 = 0 then (lp (fun (K12 : (St × Int32) → Option (Int32 × St)) (v11 : St × Int32) => bd2 (fX11_fits F 12 v11.1 0 v11.2) fun r14 u15 => if r14 = 0 then (K12 ((u15, v11.2 + 1))) else some (v11.2, u15)) F ((u2, 0))) else lp (fun (K5 : (Int32 × Int32) → Option (Int32 × St)) (v4 : Int32 × Int32) => if (1 <<< ((u2 5 1) &&& 31)) ≤ v4.1 then (if a0 = 1 then (bd1 (fX11_bitsOf F u2 v4.2) fun r7 => some (r7, u2)) else some (v4.2, u2)) else bd1 (fX11_bitsOf F u2 v4.1) fun r8 => bd1 (fX11_bitsOf F u2 v4.2) fun r9 => if r8 ≤ r9 then (K5 ((v4.1 + 1, v4.2))) else bd1 (fX11_areAtOnce F u2 v4.1) fun r10 => if r10 = 0 then (K5 ((v4.1 + 1, v4.2))) else K5 ((v4.1 + 1, v4.1))) F ((0, 0))
set_option maxRecDepth 20000 in
theorem wfX11_evenings {X : XT} {D : va_G} {cI cT : ClassId} {ad : Nat → Nat} {F : Nat} {σ : St} {a0 : Int32} {r : Int32} {σ' : St} (C : Cx X (gM D cI cT ad) cX11_evenings 4 RX11 13 325 0) (hr : RetI X (gM D cI cT ad) cX11_evenings 4 0 r σ') (h : fX11_evenings F σ a0 = some (r, σ')) : WP X (gM D cI cT ad) 4 0 0 σ [(0, .ref (ad 0)), (1, .int a0)] [] := by
  unfold fX11_evenings at h
  refine w_aload_n C dX11_evenings_0 rfl 0 rfl ?_
  refine w_iconst C 0 dX11_evenings_1 rfl (by decide) ?_
  refine w_put C 0 4 0 (Nat.le_of_ble_eq_true rfl) rfl rfl inB_X11 tyX11_ok nmX11 (by decide) tw6_165 rfl rfl rfl (Nat.le_of_ble_eq_true rfl) rfl dX11_evenings_2 rfl ?_
  refine w_nst h (fun u2 h => ?_)
  refine w_iload_n C dX11_evenings_5 rfl 1 rfl ?_
  refine w_i2l C dX11_evenings_6 rfl ?_
  refine w_lconst C 0 dX11_evenings_7 rfl (by decide) ?_
  refine w_ldc2 C (2) dX11_evenings_8 rfl tw8_124 ?_
  refine bd1_w h (fun r3 hc h => ?_)
  refine w_callSi C (As := [.long (Int32.toInt64 a0), .long 0, .long 2]) (st := []) (cfX11_isIn D cI cT ad (l := X.2.1) C.2.2.1 hc) tw8_99 cs_X11_isIn (by decide +kernel) ⟨Nat.le_of_ble_eq_true rfl, Nat.le_of_ble_eq_true rfl⟩ (by decide) rfl rfl (Nat.le_of_ble_eq_true rfl) dX11_evenings_11 rfl ?_
  refine w_if_ne C (qt := 23) dX11_evenings_14 (by decide) rfl h (fun _ h => ?_) (fun _ h => ?_)
  · refine w_iload_n C dX11_evenings_23 rfl 1 rfl ?_
    refine w_if_ne C (qt := 46) dX11_evenings_24 (by decide) rfl h (fun _ h => ?_) (fun _ h => ?_)
    · refine w_iconst C 0 dX11_evenings_46 rfl (by decide) ?_
      refine w_istore_n C [(2, .int 0), (0, .ref (ad 0)), (1, .int a0)] dX11_evenings_47 rfl (by decide) rfl ?_
      refine w_iconst C 0 dX11_evenings_48 rfl (by decide) ?_
      refine w_istore_n C [(3, .int 0), (2, .int 0), (0, .ref (ad 0)), (1, .int a0)] dX11_evenings_49 rfl (by decide) rfl ?_
      refine w_sub [0, 1, 2, 3] rfl ?_
      refine lp_w (fun v4 : Int32 × Int32 => WP X (gM D cI cT ad) 4 0 50 u2 [(3, .int v4.1), (2, .int v4.2), (0, .ref (ad 0)), (1, .int a0)] []) (fun K5 hK6 v4 h => ?_) F _ h
      refine w_iload_n C dX11_evenings_50 rfl 0 rfl ?_
      refine w_iconst C 1 dX11_evenings_51 rfl (by decide) ?_
      refine w_aload_n C dX11_evenings_52 rfl 2 rfl ?_
      refine w_get C 0 5 (Nat.le_of_ble_eq_true rfl) rfl rfl inB_X11 (by decide) tw6_166 rfl dX11_evenings_53 rfl ?_
      refine w_iconst C 1 dX11_evenings_56 rfl (by decide) ?_
      refine w_ialdc C 5 8 0 1 (Nat.le_of_ble_eq_true rfl) (fun _ => rfl) rfl (by decide) (by decide) dX11_evenings_57 rfl ?_
      refine w_ishl C dX11_evenings_58 rfl ?_
      refine w_icmp_ge C (qt := 89) dX11_evenings_59 (by decide) rfl h (fun _ h => ?_) (fun _ h => ?_)
      · refine w_iload_n C dX11_evenings_89 rfl 3 rfl ?_
        refine w_iconst C 1 dX11_evenings_90 rfl (by decide) ?_
        refine w_icmp_ne C (qt := 101) dX11_evenings_91 (by decide) rfl h (fun _ h => ?_) (fun _ h => ?_)
        · refine w_iload_n C dX11_evenings_101 rfl 1 rfl ?_
          exact w_ri2 hr h (by decide) dX11_evenings_102
        · refine w_iload_n C dX11_evenings_94 rfl 1 rfl ?_
          refine bd1_w h (fun r7 hc h => ?_)
          refine w_callSi C (As := [.int v4.2]) (st := []) (cfX11_bitsOf D cI cT ad (l := X.2.1) C.2.2.1 hc) tw8_224 cs_X11_bitsOf (by decide +kernel) ⟨Nat.le_of_ble_eq_true rfl, Nat.le_of_ble_eq_true rfl⟩ (by decide) rfl rfl (Nat.le_of_ble_eq_true rfl) dX11_evenings_95 rfl ?_
          refine w_goto (q := 102) C dX11_evenings_98 (by decide) ?_
          exact w_ri2 hr h (by decide) dX11_evenings_102
      · refine w_iload_n C dX11_evenings_62 rfl 0 rfl ?_
        refine bd1_w h (fun r8 hc h => ?_)
        refine w_callSi C (As := [.int v4.1]) (st := []) (cfX11_bitsOf D cI cT ad (l := X.2.1) C.2.2.1 hc) tw8_224 cs_X11_bitsOf (by decide +kernel) ⟨Nat.le_of_ble_eq_true rfl, Nat.le_of_ble_eq_true rfl⟩ (by decide) rfl rfl (Nat.le_of_ble_eq_true rfl) dX11_evenings_63 rfl ?_
        refine w_iload_n C dX11_evenings_66 rfl 1 rfl ?_
        refine bd1_w h (fun r9 hc h => ?_)
        refine w_callSi C (As := [.int v4.2]) (st := [.int r8]) (cfX11_bitsOf D cI cT ad (l := X.2.1) C.2.2.1 hc) tw8_224 cs_X11_bitsOf (by decide +kernel) ⟨Nat.le_of_ble_eq_true rfl, Nat.le_of_ble_eq_true rfl⟩ (by decide) rfl rfl (Nat.le_of_ble_eq_true rfl) dX11_evenings_67 rfl ?_
        refine w_icmp_le C (qt := 83) dX11_evenings_70 (by decide) rfl h (fun _ h => ?_) (fun _ h => ?_)
        · refine w_iinc (j := 0) C (v4.1 + 1) [(3, .int (v4.1 + 1)), (2, .int v4.2), (0, .ref (ad 0)), (1, .int a0)] dX11_evenings_83 rfl rfl rfl (by decide) rfl ?_
          refine w_goto (q := 50) C dX11_evenings_86 (by decide) ?_
          exact w_sub [0, 1, 2, 3] rfl (hK6 _ h)
        · refine w_aload_n C dX11_evenings_73 rfl 2 rfl ?_
          refine w_iload_n C dX11_evenings_74 rfl 0 rfl ?_
          refine bd1_w h (fun r10 hc h => ?_)
          refine w_callVi C (As := [.int v4.1]) (st := []) 0 (Nat.le_of_ble_eq_true rfl) rfl rfl (cfX11_areAtOnce D cI cT ad (l := X.2.1) C.2.2.1 hc) tw9_17 cy_X11_areAtOnce (by decide +kernel) ⟨Nat.le_of_ble_eq_true rfl, Nat.le_of_ble_eq_true rfl⟩ (by decide) rfl rfl (Nat.le_of_ble_eq_true rfl) dX11_evenings_75 rfl ?_
          refine w_if_eq C (qt := 83) dX11_evenings_78 (by decide) rfl h (fun _ h => ?_) (fun _ h => ?_)
          · refine w_iinc (j := 0) C (v4.1 + 1) [(3, .int (v4.1 + 1)), (2, .int v4.2), (0, .ref (ad 0)), (1, .int a0)] dX11_evenings_83 rfl rfl rfl (by decide) rfl ?_
            refine w_goto (q := 50) C dX11_evenings_86 (by decide) ?_
            exact w_sub [0, 1, 2, 3] rfl (hK6 _ h)
          · refine w_iload_n C dX11_evenings_81 rfl 0 rfl ?_
            refine w_istore_n C [(2, .int v4.1), (3, .int v4.1), (0, .ref (ad 0)), (1, .int a0)] dX11_evenings_82 rfl (by decide) rfl ?_
            refine w_iinc (j := 1) C (v4.1 + 1) [(3, .int (v4.1 + 1)), (2, .int v4.1), (0, .ref (ad 0)), (1, .int a0)] dX11_evenings_83 rfl rfl rfl (by decide) rfl ?_
            refine w_goto (q := 50) C dX11_evenings_86 (by decide) ?_
            exact w_sub [0, 1, 2, 3] rfl (hK6 _ h)
    · refine w_iconst C 0 dX11_evenings_27 rfl (by decide) ?_
      refine w_istore_n C [(2, .int 0), (0, .ref (ad 0)), (1, .int a0)] dX11_evenings_28 rfl (by decide) rfl ?_
      refine w_sub [0, 1] rfl ?_
      refine lp_w (fun v11 : St × Int32 => WP X (gM D cI cT ad) 4 0 29 v11.1 [(2, .int v11.2), (0, .ref (ad 0))] []) (fun K12 hK13 v11 h => ?_) F _ h
      refine w_aload_n C dX11_evenings_29 rfl 1 rfl ?_
      refine w_iconst C 0 dX11_evenings_30 rfl (by decide) ?_
      refine w_iload_n C dX11_evenings_31 rfl 0 rfl ?_
      refine bd2_w h (fun r14 u15 hc h => ?_)
      refine w_callVi C (As := [.int 0, .int v11.2]) (st := []) 0 (Nat.le_of_ble_eq_true rfl) rfl rfl (cfX11_fits D cI cT ad (l := X.2.1) C.2.2.1 12 hc) tw9_13 cy_X11_fits (by decide +kernel) ⟨Nat.le_of_ble_eq_true rfl, Nat.le_of_ble_eq_true rfl⟩ (by decide) rfl rfl (Nat.le_of_ble_eq_true rfl) dX11_evenings_32 rfl ?_
      refine w_if_ne C (qt := 44) dX11_evenings_35 (by decide) rfl h (fun _ h => ?_) (fun _ h => ?_)
      · refine w_iload_n C dX11_evenings_44 rfl 0 rfl ?_
        exact w_ri2 hr h (by decide) dX11_evenings_45
      · refine w_iinc (j := 0) C (v11.2 + 1) [(2, .int (v11.2 + 1)), (0, .ref (ad 0))] dX11_evenings_38 rfl rfl rfl (by decide) rfl ?_
        refine w_goto (q := 29) C dX11_evenings_41 (by decide) ?_
        exact w_sub [0, 1] rfl (hK13 _ h)
  · refine w_aload_n C dX11_evenings_17 rfl 0 rfl ?_
    refine w_iconst C 1 dX11_evenings_18 rfl (by decide) ?_
    refine bd2_w h (fun r16 u17 hc h => ?_)
    refine w_callVi C (As := [.int 1]) (st := []) 0 (Nat.le_of_ble_eq_true rfl) rfl rfl (cfX11_fail D cI cT ad (l := X.2.1) C.2.2.1 hc) tw7_117 cy_X11_fail (by decide +kernel) ⟨Nat.le_of_ble_eq_true rfl, Nat.le_of_ble_eq_true rfl⟩ (by decide) rfl rfl (Nat.le_of_ble_eq_true rfl) dX11_evenings_19 rfl ?_
    exact w_ri2 hr h (by decide) dX11_evenings_22
theorem cfX11_evenings (D : va_G) (cI cT : ClassId) (ad : Nat → Nat) {l : Launch} (had : gAp (gM D cI cT ad)) {F : Nat} {σ : St} {a0 : Int32} {r : Int32} {σ' : St} (h : fX11_evenings F σ a0 = some (r, σ')) : MI l yX11_evenings (wB yX11_evenings cX11_evenings 4 (some .int)) 13 325 (gM D cI cT ad) [.ref (ad 0), .int a0] σ r σ' := mk_MI had (by decide +kernel) (Nat.le_of_ble_eq_true rfl) (fun X hX C hr => wfX11_evenings C hr h)

def fX11_see (F : Nat) (σ : St) (a0 : Int32) (a1 : Int32) (a2 : Int32) (a3 : Int32) (a4 : Int32) : Option (Int32 × St) := nm (up σ 0 4 0) fun u2 => bd1 (fX11_isStep F u2 a0 a1) fun r3 => if r3 = 0 then (bd2 (fX11_fail F u2 1) fun r18 u19 => some (r18, u19)) else jn (fun v4 : Unit => bd2 (fX11_refuse F u2 2) fun r7 u8 => some (r7, u8)) fun J5 => if (u2 0 34) = 8 then (J5 (())) else if a2 < 0 then (J5 (())) else if 1 < a2 then (J5 (())) else bd1 (fX11_isOn F u2 a3) fun r9 => if r9 = 0 then (J5 (())) else bd1 (fX11_isOn F u2 a4) fun r10 => if r10 = 0 then (J5 (())) else ckI (u2 0 34) 8 (nm (up u2 28 (Int32.toNatClampNeg (u2 0 34)) a0) fun u11 => ckI (u11 0 34) 8 (nm (up u11 29 (Int32.toNatClampNeg (u11 0 34)) a1) fun u12 => ckI (u12 0 34) 8 (nm (up u12 30 (Int32.toNatClampNeg (u12 0 34)) a2) fun u13 => ckI (u13 0 34) 8 (nm (up u13 31 (Int32.toNatClampNeg (u13 0 34)) a3) fun u14 => ckI (u14 0 34) 8 (nm (up u14 32 (Int32.toNatClampNeg (u14 0 34)) a4) fun u15 => nm (up u15 0 34 ((u15 0 34) + 1)) fun u17 => some (u17 0 34, u17))))))
set_option maxRecDepth 20000 in
theorem wfX11_see {X : XT} {D : va_G} {cI cT : ClassId} {ad : Nat → Nat} {F : Nat} {σ : St} {a0 : Int32} {a1 : Int32} {a2 : Int32} {a3 : Int32} {a4 : Int32} {r : Int32} {σ' : St} (C : Cx X (gM D cI cT ad) cX11_see 6 RX11 3 68 0) (hr : RetI X (gM D cI cT ad) cX11_see 6 0 r σ') (h : fX11_see F σ a0 a1 a2 a3 a4 = some (r, σ')) : WP X (gM D cI cT ad) 6 0 0 σ [(0, .ref (ad 0)), (1, .int a0), (2, .int a1), (3, .int a2), (4, .int a3), (5, .int a4)] [] := by
  unfold fX11_see at h
  refine w_aload_n C dX11_see_0 rfl 0 rfl ?_
  refine w_iconst C 0 dX11_see_1 rfl (by decide) ?_
  refine w_put C 0 4 0 (Nat.le_of_ble_eq_true rfl) rfl rfl inB_X11 tyX11_ok nmX11 (by decide) tw6_165 rfl rfl rfl (Nat.le_of_ble_eq_true rfl) rfl dX11_see_2 rfl ?_
  refine w_nst h (fun u2 h => ?_)
  refine w_aload_n C dX11_see_5 rfl 0 rfl ?_
  refine w_iload_n C dX11_see_6 rfl 1 rfl ?_
  refine w_iload_n C dX11_see_7 rfl 2 rfl ?_
  refine bd1_w h (fun r3 hc h => ?_)
  refine w_callVi C (As := [.int a0, .int a1]) (st := []) 0 (Nat.le_of_ble_eq_true rfl) rfl rfl (cfX11_isStep D cI cT ad (l := X.2.1) C.2.2.1 hc) tw8_114 cy_X11_isStep (by decide +kernel) ⟨Nat.le_of_ble_eq_true rfl, Nat.le_of_ble_eq_true rfl⟩ (by decide) rfl rfl (Nat.le_of_ble_eq_true rfl) dX11_see_8 rfl ?_
  refine w_if_ne C (qt := 20) dX11_see_11 (by decide) rfl h (fun _ h => ?_) (fun _ h => ?_)
  · refine w_aload_n C dX11_see_20 rfl 0 rfl ?_
    refine w_get C 0 34 (Nat.le_of_ble_eq_true rfl) rfl rfl inB_X11 (by decide) tw6_195 rfl dX11_see_21 rfl ?_
    refine w_bipush C 8 dX11_see_24 rfl (by decide) ?_
    refine jn_w (fun v4 : Unit => WP X (gM D cI cT ad) 6 0 56 u2 [(0, .ref (ad 0))] []) h (fun v4 h => ?_) (fun J5 hJ6 h => ?_)
    · refine w_aload_n C dX11_see_56 rfl 0 rfl ?_
      refine w_iconst C 2 dX11_see_57 rfl (by decide) ?_
      refine bd2_w h (fun r7 u8 hc h => ?_)
      refine w_callVi C (As := [.int 2]) (st := []) 0 (Nat.le_of_ble_eq_true rfl) rfl rfl (cfX11_refuse D cI cT ad (l := X.2.1) C.2.2.1 hc) tw8_150 cy_X11_refuse (by decide +kernel) ⟨Nat.le_of_ble_eq_true rfl, Nat.le_of_ble_eq_true rfl⟩ (by decide) rfl rfl (Nat.le_of_ble_eq_true rfl) dX11_see_58 rfl ?_
      exact w_ri2 hr h (by decide) dX11_see_61
    · refine w_icmp_eq C (qt := 56) dX11_see_26 (by decide) rfl h (fun _ h => ?_) (fun _ h => ?_)
      · exact w_sub [0] rfl (hJ6 _ h)
      · refine w_iload_n C dX11_see_29 rfl 3 rfl ?_
        refine w_if_lt C (qt := 56) dX11_see_30 (by decide) rfl h (fun _ h => ?_) (fun _ h => ?_)
        · exact w_sub [0] rfl (hJ6 _ h)
        · refine w_iload_n C dX11_see_33 rfl 3 rfl ?_
          refine w_iconst C 1 dX11_see_34 rfl (by decide) ?_
          refine w_icmp_gt C (qt := 56) dX11_see_35 (by decide) rfl h (fun _ h => ?_) (fun _ h => ?_)
          · exact w_sub [0] rfl (hJ6 _ h)
          · refine w_aload_n C dX11_see_38 rfl 0 rfl ?_
            refine w_iload C dX11_see_39 rfl 4 rfl ?_
            refine bd1_w h (fun r9 hc h => ?_)
            refine w_callVi C (As := [.int a3]) (st := []) 0 (Nat.le_of_ble_eq_true rfl) rfl rfl (cfX11_isOn D cI cT ad (l := X.2.1) C.2.2.1 hc) tw8_32 cy_X11_isOn (by decide +kernel) ⟨Nat.le_of_ble_eq_true rfl, Nat.le_of_ble_eq_true rfl⟩ (by decide) rfl rfl (Nat.le_of_ble_eq_true rfl) dX11_see_41 rfl ?_
            refine w_if_eq C (qt := 56) dX11_see_44 (by decide) rfl h (fun _ h => ?_) (fun _ h => ?_)
            · exact w_sub [0] rfl (hJ6 _ h)
            · refine w_aload_n C dX11_see_47 rfl 0 rfl ?_
              refine w_iload C dX11_see_48 rfl 5 rfl ?_
              refine bd1_w h (fun r10 hc h => ?_)
              refine w_callVi C (As := [.int a4]) (st := []) 0 (Nat.le_of_ble_eq_true rfl) rfl rfl (cfX11_isOn D cI cT ad (l := X.2.1) C.2.2.1 hc) tw8_32 cy_X11_isOn (by decide +kernel) ⟨Nat.le_of_ble_eq_true rfl, Nat.le_of_ble_eq_true rfl⟩ (by decide) rfl rfl (Nat.le_of_ble_eq_true rfl) dX11_see_50 rfl ?_
              refine w_if_ne C (qt := 62) dX11_see_53 (by decide) rfl h (fun _ h => ?_) (fun _ h => ?_)
              · refine w_aload_n C dX11_see_62 rfl 0 rfl ?_
                refine w_get C 0 43 (Nat.le_of_ble_eq_true rfl) rfl rfl inB_X11 (by decide) tw6_204 rfl dX11_see_63 rfl ?_
                refine w_aload_n C dX11_see_66 rfl 0 rfl ?_
                refine w_get C 0 34 (Nat.le_of_ble_eq_true rfl) rfl rfl inB_X11 (by decide) tw6_195 rfl dX11_see_67 rfl ?_
                refine w_iload_n C dX11_see_70 rfl 1 rfl ?_
                refine w_iast C 28 8 0 (Nat.le_of_ble_eq_true rfl) (fun _ => rfl) rfl h dX11_see_71 rfl (fun h => ?_)
                refine w_nst h (fun u11 h => ?_)
                refine w_aload_n C dX11_see_72 rfl 0 rfl ?_
                refine w_get C 0 44 (Nat.le_of_ble_eq_true rfl) rfl rfl inB_X11 (by decide) tw6_205 rfl dX11_see_73 rfl ?_
                refine w_aload_n C dX11_see_76 rfl 0 rfl ?_
                refine w_get C 0 34 (Nat.le_of_ble_eq_true rfl) rfl rfl inB_X11 (by decide) tw6_195 rfl dX11_see_77 rfl ?_
                refine w_iload_n C dX11_see_80 rfl 2 rfl ?_
                refine w_iast C 29 8 0 (Nat.le_of_ble_eq_true rfl) (fun _ => rfl) rfl h dX11_see_81 rfl (fun h => ?_)
                refine w_nst h (fun u12 h => ?_)
                refine w_aload_n C dX11_see_82 rfl 0 rfl ?_
                refine w_get C 0 45 (Nat.le_of_ble_eq_true rfl) rfl rfl inB_X11 (by decide) tw6_206 rfl dX11_see_83 rfl ?_
                refine w_aload_n C dX11_see_86 rfl 0 rfl ?_
                refine w_get C 0 34 (Nat.le_of_ble_eq_true rfl) rfl rfl inB_X11 (by decide) tw6_195 rfl dX11_see_87 rfl ?_
                refine w_iload_n C dX11_see_90 rfl 3 rfl ?_
                refine w_iast C 30 8 0 (Nat.le_of_ble_eq_true rfl) (fun _ => rfl) rfl h dX11_see_91 rfl (fun h => ?_)
                refine w_nst h (fun u13 h => ?_)
                refine w_aload_n C dX11_see_92 rfl 0 rfl ?_
                refine w_get C 0 46 (Nat.le_of_ble_eq_true rfl) rfl rfl inB_X11 (by decide) tw6_207 rfl dX11_see_93 rfl ?_
                refine w_aload_n C dX11_see_96 rfl 0 rfl ?_
                refine w_get C 0 34 (Nat.le_of_ble_eq_true rfl) rfl rfl inB_X11 (by decide) tw6_195 rfl dX11_see_97 rfl ?_
                refine w_iload C dX11_see_100 rfl 4 rfl ?_
                refine w_iast C 31 8 0 (Nat.le_of_ble_eq_true rfl) (fun _ => rfl) rfl h dX11_see_102 rfl (fun h => ?_)
                refine w_nst h (fun u14 h => ?_)
                refine w_aload_n C dX11_see_103 rfl 0 rfl ?_
                refine w_get C 0 47 (Nat.le_of_ble_eq_true rfl) rfl rfl inB_X11 (by decide) tw6_208 rfl dX11_see_104 rfl ?_
                refine w_aload_n C dX11_see_107 rfl 0 rfl ?_
                refine w_get C 0 34 (Nat.le_of_ble_eq_true rfl) rfl rfl inB_X11 (by decide) tw6_195 rfl dX11_see_108 rfl ?_
                refine w_iload C dX11_see_111 rfl 5 rfl ?_
                refine w_iast C 32 8 0 (Nat.le_of_ble_eq_true rfl) (fun _ => rfl) rfl h dX11_see_113 rfl (fun h => ?_)
                refine w_nst h (fun u15 h => ?_)
                refine w_aload_n C dX11_see_114 rfl 0 rfl ?_
                refine w_dup C rfl dX11_see_115 rfl ?_
                refine w_get C 0 34 (Nat.le_of_ble_eq_true rfl) rfl rfl inB_X11 (by decide) tw6_195 rfl dX11_see_116 rfl ?_
                refine w_iconst C 1 dX11_see_119 rfl (by decide) ?_
                refine w_iadd C dX11_see_120 rfl ?_
                refine w_put C 0 34 ((u15 0 34) + 1) (Nat.le_of_ble_eq_true rfl) rfl rfl inB_X11 tyX11_ok nmX11 (by decide) tw6_195 rfl rfl rfl (Nat.le_of_ble_eq_true rfl) rfl dX11_see_121 rfl ?_
                refine w_nst h (fun u17 h => ?_)
                refine w_aload_n C dX11_see_124 rfl 0 rfl ?_
                refine w_get C 0 34 (Nat.le_of_ble_eq_true rfl) rfl rfl inB_X11 (by decide) tw6_195 rfl dX11_see_125 rfl ?_
                exact w_ri2 hr h (by decide) dX11_see_128
              · exact w_sub [0] rfl (hJ6 _ h)
  · refine w_aload_n C dX11_see_14 rfl 0 rfl ?_
    refine w_iconst C 1 dX11_see_15 rfl (by decide) ?_
    refine bd2_w h (fun r18 u19 hc h => ?_)
    refine w_callVi C (As := [.int 1]) (st := []) 0 (Nat.le_of_ble_eq_true rfl) rfl rfl (cfX11_fail D cI cT ad (l := X.2.1) C.2.2.1 hc) tw7_117 cy_X11_fail (by decide +kernel) ⟨Nat.le_of_ble_eq_true rfl, Nat.le_of_ble_eq_true rfl⟩ (by decide) rfl rfl (Nat.le_of_ble_eq_true rfl) dX11_see_16 rfl ?_
    exact w_ri2 hr h (by decide) dX11_see_19
theorem cfX11_see (D : va_G) (cI cT : ClassId) (ad : Nat → Nat) {l : Launch} (had : gAp (gM D cI cT ad)) {F : Nat} {σ : St} {a0 : Int32} {a1 : Int32} {a2 : Int32} {a3 : Int32} {a4 : Int32} {r : Int32} {σ' : St} (h : fX11_see F σ a0 a1 a2 a3 a4 = some (r, σ')) : MI l yX11_see (wB yX11_see cX11_see 6 (some .int)) 3 68 (gM D cI cT ad) [.ref (ad 0), .int a0, .int a1, .int a2, .int a3, .int a4] σ r σ' := mk_MI had (by decide +kernel) (Nat.le_of_ble_eq_true rfl) (fun X hX C hr => wfX11_see C hr h)

def fX11_isAsSeen (F : Nat) (σ : St) (a0 : Int32) : Option (Int32 × St) := lp (fun (K2 : (St × Int32) → Option (Int32 × St)) (v1 : St × Int32) => if (v1.1 0 34) ≤ v1.2 then (some (1, v1.1)) else ckI (v1.2) 8 (if (v1.1 28 (Int32.toNatClampNeg v1.2)) = a0 then (ckI (v1.2) 8 (nm ((v1.1 29 (Int32.toNatClampNeg v1.2)) + 1) fun x4 => bd2 (fX11_danceTo F v1.1 a0 x4) fun r5 u6 => if r5 = x4 then (ckI (v1.2) 8 (ckI (u6 30 (Int32.toNatClampNeg v1.2)) 2 (ckI (v1.2) 8 (if (u6 21 (Int32.toNatClampNeg (u6 30 (Int32.toNatClampNeg v1.2)))) = (u6 31 (Int32.toNatClampNeg v1.2)) then (ckI (v1.2) 8 (ckI (u6 30 (Int32.toNatClampNeg v1.2)) 2 (ckI (v1.2) 8 (if (u6 22 (Int32.toNatClampNeg (u6 30 (Int32.toNatClampNeg v1.2)))) = (u6 32 (Int32.toNatClampNeg v1.2)) then (K2 ((u6, v1.2 + 1))) else some (0, u6))))) else some (0, u6))))) else some (0, u6))) else K2 ((v1.1, v1.2 + 1)))) F ((σ, 0))
set_option maxRecDepth 20000 in
theorem wfX11_isAsSeen {X : XT} {D : va_G} {cI cT : ClassId} {ad : Nat → Nat} {F : Nat} {σ : St} {a0 : Int32} {r : Int32} {σ' : St} (C : Cx X (gM D cI cT ad) cX11_isAsSeen 4 RX11 4 98 0) (hr : RetZ X (gM D cI cT ad) cX11_isAsSeen 4 0 r σ') (h : fX11_isAsSeen F σ a0 = some (r, σ')) : WP X (gM D cI cT ad) 4 0 0 σ [(0, .ref (ad 0)), (1, .int a0)] [] := by
  unfold fX11_isAsSeen at h
  refine w_iconst C 0 dX11_isAsSeen_0 rfl (by decide) ?_
  refine w_istore_n C [(2, .int 0), (0, .ref (ad 0)), (1, .int a0)] dX11_isAsSeen_1 rfl (by decide) rfl ?_
  refine w_sub [0, 1, 2] rfl ?_
  refine lp_w (fun v1 : St × Int32 => WP X (gM D cI cT ad) 4 0 2 v1.1 [(2, .int v1.2), (0, .ref (ad 0)), (1, .int a0)] []) (fun K2 hK3 v1 h => ?_) F _ h
  refine w_iload_n C dX11_isAsSeen_2 rfl 0 rfl ?_
  refine w_aload_n C dX11_isAsSeen_3 rfl 1 rfl ?_
  refine w_get C 0 34 (Nat.le_of_ble_eq_true rfl) rfl rfl inB_X11 (by decide) tw6_195 rfl dX11_isAsSeen_4 rfl ?_
  refine w_icmp_ge C (qt := 90) dX11_isAsSeen_7 (by decide) rfl h (fun _ h => ?_) (fun _ h => ?_)
  · refine w_iconst C 1 dX11_isAsSeen_90 rfl (by decide) ?_
    exact w_rz2 hr (by decide) h (by decide) dX11_isAsSeen_91
  · refine w_aload_n C dX11_isAsSeen_10 rfl 1 rfl ?_
    refine w_get C 0 43 (Nat.le_of_ble_eq_true rfl) rfl rfl inB_X11 (by decide) tw6_204 rfl dX11_isAsSeen_11 rfl ?_
    refine w_iload_n C dX11_isAsSeen_14 rfl 0 rfl ?_
    refine w_iald C 28 8 0 (Nat.le_of_ble_eq_true rfl) (fun _ => rfl) rfl h dX11_isAsSeen_15 rfl (fun h => ?_)
    refine w_iload_n C dX11_isAsSeen_16 rfl 2 rfl ?_
    refine w_icmp_eq C (qt := 23) dX11_isAsSeen_17 (by decide) rfl h (fun _ h => ?_) (fun _ h => ?_)
    · refine w_aload_n C dX11_isAsSeen_23 rfl 1 rfl ?_
      refine w_get C 0 44 (Nat.le_of_ble_eq_true rfl) rfl rfl inB_X11 (by decide) tw6_205 rfl dX11_isAsSeen_24 rfl ?_
      refine w_iload_n C dX11_isAsSeen_27 rfl 0 rfl ?_
      refine w_iald C 29 8 0 (Nat.le_of_ble_eq_true rfl) (fun _ => rfl) rfl h dX11_isAsSeen_28 rfl (fun h => ?_)
      refine w_iconst C 1 dX11_isAsSeen_29 rfl (by decide) ?_
      refine w_iadd C dX11_isAsSeen_30 rfl ?_
      refine w_nm h (fun x4 h => ?_)
      refine w_istore_n C [(3, .int x4), (2, .int v1.2), (0, .ref (ad 0)), (1, .int a0)] dX11_isAsSeen_31 rfl (by decide) rfl ?_
      refine w_aload_n C dX11_isAsSeen_32 rfl 2 rfl ?_
      refine w_iload_n C dX11_isAsSeen_33 rfl 3 rfl ?_
      refine w_iload_n C dX11_isAsSeen_34 rfl 0 rfl ?_
      refine bd2_w h (fun r5 u6 hc h => ?_)
      refine w_callVi C (As := [.int a0, .int x4]) (st := []) 0 (Nat.le_of_ble_eq_true rfl) rfl rfl (cfX11_danceTo D cI cT ad (l := X.2.1) C.2.2.1 hc) tw8_16 cy_X11_danceTo (by decide +kernel) ⟨Nat.le_of_ble_eq_true rfl, Nat.le_of_ble_eq_true rfl⟩ (by decide) rfl rfl (Nat.le_of_ble_eq_true rfl) dX11_isAsSeen_35 rfl ?_
      refine w_iload_n C dX11_isAsSeen_38 rfl 0 rfl ?_
      refine w_icmp_ne C (qt := 82) dX11_isAsSeen_39 (by decide) rfl h (fun _ h => ?_) (fun _ h => ?_)
      · refine w_iconst C 0 dX11_isAsSeen_82 rfl (by decide) ?_
        exact w_rz2 hr (by decide) h (by decide) dX11_isAsSeen_83
      · refine w_aload_n C dX11_isAsSeen_42 rfl 2 rfl ?_
        refine w_get C 0 35 (Nat.le_of_ble_eq_true rfl) rfl rfl inB_X11 (by decide) tw6_196 rfl dX11_isAsSeen_43 rfl ?_
        refine w_aload_n C dX11_isAsSeen_46 rfl 2 rfl ?_
        refine w_get C 0 45 (Nat.le_of_ble_eq_true rfl) rfl rfl inB_X11 (by decide) tw6_206 rfl dX11_isAsSeen_47 rfl ?_
        refine w_iload_n C dX11_isAsSeen_50 rfl 1 rfl ?_
        refine w_iald C 30 8 0 (Nat.le_of_ble_eq_true rfl) (fun _ => rfl) rfl h dX11_isAsSeen_51 rfl (fun h => ?_)
        refine w_iald C 21 2 0 (Nat.le_of_ble_eq_true rfl) (fun _ => rfl) rfl h dX11_isAsSeen_52 rfl (fun h => ?_)
        refine w_aload_n C dX11_isAsSeen_53 rfl 2 rfl ?_
        refine w_get C 0 46 (Nat.le_of_ble_eq_true rfl) rfl rfl inB_X11 (by decide) tw6_207 rfl dX11_isAsSeen_54 rfl ?_
        refine w_iload_n C dX11_isAsSeen_57 rfl 1 rfl ?_
        refine w_iald C 31 8 0 (Nat.le_of_ble_eq_true rfl) (fun _ => rfl) rfl h dX11_isAsSeen_58 rfl (fun h => ?_)
        refine w_icmp_ne C (qt := 82) dX11_isAsSeen_59 (by decide) rfl h (fun _ h => ?_) (fun _ h => ?_)
        · refine w_iconst C 0 dX11_isAsSeen_82 rfl (by decide) ?_
          exact w_rz2 hr (by decide) h (by decide) dX11_isAsSeen_83
        · refine w_aload_n C dX11_isAsSeen_62 rfl 2 rfl ?_
          refine w_get C 0 36 (Nat.le_of_ble_eq_true rfl) rfl rfl inB_X11 (by decide) tw6_197 rfl dX11_isAsSeen_63 rfl ?_
          refine w_aload_n C dX11_isAsSeen_66 rfl 2 rfl ?_
          refine w_get C 0 45 (Nat.le_of_ble_eq_true rfl) rfl rfl inB_X11 (by decide) tw6_206 rfl dX11_isAsSeen_67 rfl ?_
          refine w_iload_n C dX11_isAsSeen_70 rfl 1 rfl ?_
          refine w_iald C 30 8 0 (Nat.le_of_ble_eq_true rfl) (fun _ => rfl) rfl h dX11_isAsSeen_71 rfl (fun h => ?_)
          refine w_iald C 22 2 0 (Nat.le_of_ble_eq_true rfl) (fun _ => rfl) rfl h dX11_isAsSeen_72 rfl (fun h => ?_)
          refine w_aload_n C dX11_isAsSeen_73 rfl 2 rfl ?_
          refine w_get C 0 47 (Nat.le_of_ble_eq_true rfl) rfl rfl inB_X11 (by decide) tw6_208 rfl dX11_isAsSeen_74 rfl ?_
          refine w_iload_n C dX11_isAsSeen_77 rfl 1 rfl ?_
          refine w_iald C 32 8 0 (Nat.le_of_ble_eq_true rfl) (fun _ => rfl) rfl h dX11_isAsSeen_78 rfl (fun h => ?_)
          refine w_icmp_eq C (qt := 84) dX11_isAsSeen_79 (by decide) rfl h (fun _ h => ?_) (fun _ h => ?_)
          · refine w_iinc (j := 1) C (v1.2 + 1) [(2, .int (v1.2 + 1)), (3, .int x4), (0, .ref (ad 0)), (1, .int a0)] dX11_isAsSeen_84 rfl rfl rfl (by decide) rfl ?_
            refine w_goto (q := 2) C dX11_isAsSeen_87 (by decide) ?_
            exact w_sub [0, 2, 3] rfl (hK3 _ h)
          · refine w_iconst C 0 dX11_isAsSeen_82 rfl (by decide) ?_
            exact w_rz2 hr (by decide) h (by decide) dX11_isAsSeen_83
    · refine w_goto (q := 84) C dX11_isAsSeen_20 (by decide) ?_
      refine w_iinc (j := 0) C (v1.2 + 1) [(2, .int (v1.2 + 1)), (0, .ref (ad 0)), (1, .int a0)] dX11_isAsSeen_84 rfl rfl rfl (by decide) rfl ?_
      refine w_goto (q := 2) C dX11_isAsSeen_87 (by decide) ?_
      exact w_sub [0, 1, 2] rfl (hK3 _ h)
theorem cfX11_isAsSeen (D : va_G) (cI cT : ClassId) (ad : Nat → Nat) {l : Launch} (had : gAp (gM D cI cT ad)) {F : Nat} {σ : St} {a0 : Int32} {r : Int32} {σ' : St} (h : fX11_isAsSeen F σ a0 = some (r, σ')) : MI l yX11_isAsSeen (wB yX11_isAsSeen cX11_isAsSeen 4 (some .boolean)) 4 98 (gM D cI cT ad) [.ref (ad 0), .int a0] σ r σ' := mk_MZ had (by decide +kernel) (Nat.le_of_ble_eq_true rfl) (fun X hX C hr => wfX11_isAsSeen C hr h)

def fX11_limp (F : Nat) (σ : St) (a0 : Int32) (a1 : Int32) : Option (Int32 × St) := nm (up σ 0 4 0) fun u2 => bd1 (fX11_isDance F u2 a0) fun r3 => jn (fun v4 : Unit => bd2 (fX11_fail F u2 1) fun r7 u8 => some (r7, u8)) fun J5 => if r3 = 0 then (J5 (())) else bd1 (fX11_isIn F u2 (Int32.toInt64 a1) 0 2) fun r9 => if r9 = 0 then (J5 (())) else if a1 = 2 then (bd2 (fX11_isAsSeen F u2 a0) fun r25 u26 => if r25 = 0 then (some (0, u26)) else some (1, u26)) else lp (fun (K11 : (St × Int32 × Int32 × Int32) → Option (Int32 × St)) (v10 : St × Int32 × Int32 × Int32) => ckI (a0) 16 (if (v10.1 10 (Int32.toNatClampNeg a0)) ≤ v10.2.1 then (if a1 = 0 then (some (v10.2.2.2, v10.1)) else some (v10.2.2.1, v10.1)) else nm ((10 * a0) + v10.2.1) fun x13 => ckI (x13) 160 (nm (v10.1 13 (Int32.toNatClampNeg x13)) fun x14 => lp (fun (K16 : (St × Int32 × Int32 × Int32) → Option (Int32 × St)) (v15 : St × Int32 × Int32 × Int32) => if 10 ≤ v15.2.1 then (ckI (x13) 160 (nm (up v15.1 13 (Int32.toNatClampNeg x13) x14) fun u18 => K11 ((u18, v10.2.1 + 1, v15.2.2.1, v15.2.2.2)))) else bd1 (fX11_isLimp F v15.1 a0 v10.2.1) fun r19 => if r19 = 0 then (ckI (x13) 160 (nm (up v15.1 13 (Int32.toNatClampNeg x13) x14) fun u20 => K11 ((u20, v10.2.1 + 1, v15.2.2.1, v15.2.2.2)))) else ckI (x13) 160 (nm (up v15.1 13 (Int32.toNatClampNeg x13) v15.2.1) fun u21 => if v15.2.1 = x14 then (K16 ((u21, v15.2.1 + 1, v15.2.2.1, v15.2.2.2))) else bd2 (fX11_isAsSeen F u21 a0) fun r22 u23 => if r22 = 0 then (K16 ((u23, v15.2.1 + 1, v15.2.2.1, v15.2.2.2))) else if v15.2.2.1 = ((-1)) then (nm ((10 * v10.2.1) + v15.2.1) fun x24 => K16 ((u23, v15.2.1 + 1, x24, v15.2.2.2 + 1))) else K16 ((u23, v15.2.1 + 1, v15.2.2.1, v15.2.2.2 + 1)))) F ((v10.1, 0, v10.2.2.1, v10.2.2.2))))) F ((u2, 0, (-1), 0))
set_option maxRecDepth 20000 in
theorem wfX11_limp {X : XT} {D : va_G} {cI cT : ClassId} {ad : Nat → Nat} {F : Nat} {σ : St} {a0 : Int32} {a1 : Int32} {r : Int32} {σ' : St} (C : Cx X (gM D cI cT ad) cX11_limp 9 RX11 5 121 0) (hr : RetI X (gM D cI cT ad) cX11_limp 9 0 r σ') (h : fX11_limp F σ a0 a1 = some (r, σ')) : WP X (gM D cI cT ad) 9 0 0 σ [(0, .ref (ad 0)), (1, .int a0), (2, .int a1)] [] := by
  unfold fX11_limp at h
  refine w_aload_n C dX11_limp_0 rfl 0 rfl ?_
  refine w_iconst C 0 dX11_limp_1 rfl (by decide) ?_
  refine w_put C 0 4 0 (Nat.le_of_ble_eq_true rfl) rfl rfl inB_X11 tyX11_ok nmX11 (by decide) tw6_165 rfl rfl rfl (Nat.le_of_ble_eq_true rfl) rfl dX11_limp_2 rfl ?_
  refine w_nst h (fun u2 h => ?_)
  refine w_aload_n C dX11_limp_5 rfl 0 rfl ?_
  refine w_iload_n C dX11_limp_6 rfl 1 rfl ?_
  refine bd1_w h (fun r3 hc h => ?_)
  refine w_callVi C (As := [.int a0]) (st := []) 0 (Nat.le_of_ble_eq_true rfl) rfl rfl (cfX11_isDance D cI cT ad (l := X.2.1) C.2.2.1 hc) tw8_106 cy_X11_isDance (by decide +kernel) ⟨Nat.le_of_ble_eq_true rfl, Nat.le_of_ble_eq_true rfl⟩ (by decide) rfl rfl (Nat.le_of_ble_eq_true rfl) dX11_limp_7 rfl ?_
  refine jn_w (fun v4 : Unit => WP X (gM D cI cT ad) 9 0 25 u2 [(0, .ref (ad 0))] []) h (fun v4 h => ?_) (fun J5 hJ6 h => ?_)
  · refine w_aload_n C dX11_limp_25 rfl 0 rfl ?_
    refine w_iconst C 1 dX11_limp_26 rfl (by decide) ?_
    refine bd2_w h (fun r7 u8 hc h => ?_)
    refine w_callVi C (As := [.int 1]) (st := []) 0 (Nat.le_of_ble_eq_true rfl) rfl rfl (cfX11_fail D cI cT ad (l := X.2.1) C.2.2.1 hc) tw7_117 cy_X11_fail (by decide +kernel) ⟨Nat.le_of_ble_eq_true rfl, Nat.le_of_ble_eq_true rfl⟩ (by decide) rfl rfl (Nat.le_of_ble_eq_true rfl) dX11_limp_27 rfl ?_
    exact w_ri2 hr h (by decide) dX11_limp_30
  · refine w_if_eq C (qt := 25) dX11_limp_10 (by decide) rfl h (fun _ h => ?_) (fun _ h => ?_)
    · exact w_sub [0] rfl (hJ6 _ h)
    · refine w_iload_n C dX11_limp_13 rfl 2 rfl ?_
      refine w_i2l C dX11_limp_14 rfl ?_
      refine w_lconst C 0 dX11_limp_15 rfl (by decide) ?_
      refine w_ldc2 C (2) dX11_limp_16 rfl tw8_124 ?_
      refine bd1_w h (fun r9 hc h => ?_)
      refine w_callSi C (As := [.long (Int32.toInt64 a1), .long 0, .long 2]) (st := []) (cfX11_isIn D cI cT ad (l := X.2.1) C.2.2.1 hc) tw8_99 cs_X11_isIn (by decide +kernel) ⟨Nat.le_of_ble_eq_true rfl, Nat.le_of_ble_eq_true rfl⟩ (by decide) rfl rfl (Nat.le_of_ble_eq_true rfl) dX11_limp_19 rfl ?_
      refine w_if_ne C (qt := 31) dX11_limp_22 (by decide) rfl h (fun _ h => ?_) (fun _ h => ?_)
      · refine w_iload_n C dX11_limp_31 rfl 2 rfl ?_
        refine w_iconst C 2 dX11_limp_32 rfl (by decide) ?_
        refine w_icmp_ne C (qt := 50) dX11_limp_33 (by decide) rfl h (fun _ h => ?_) (fun _ h => ?_)
        · refine w_iconst C 0 dX11_limp_50 rfl (by decide) ?_
          refine w_istore_n C [(3, .int 0), (0, .ref (ad 0)), (1, .int a0), (2, .int a1)] dX11_limp_51 rfl (by decide) rfl ?_
          refine w_iconst C (-1) dX11_limp_52 rfl (by decide) ?_
          refine w_istore C [(4, .int ((-1))), (3, .int 0), (0, .ref (ad 0)), (1, .int a0), (2, .int a1)] dX11_limp_53 rfl (by decide) rfl ?_
          refine w_iconst C 0 dX11_limp_55 rfl (by decide) ?_
          refine w_istore C [(5, .int 0), (4, .int ((-1))), (3, .int 0), (0, .ref (ad 0)), (1, .int a0), (2, .int a1)] dX11_limp_56 rfl (by decide) rfl ?_
          refine w_sub [0, 1, 2, 3, 4, 5] rfl ?_
          refine lp_w (fun v10 : St × Int32 × Int32 × Int32 => WP X (gM D cI cT ad) 9 0 58 v10.1 [(5, .int v10.2.1), (4, .int v10.2.2.1), (3, .int v10.2.2.2), (0, .ref (ad 0)), (1, .int a0), (2, .int a1)] []) (fun K11 hK12 v10 h => ?_) F _ h
          refine w_iload C dX11_limp_58 rfl 0 rfl ?_
          refine w_aload_n C dX11_limp_60 rfl 3 rfl ?_
          refine w_get C 0 10 (Nat.le_of_ble_eq_true rfl) rfl rfl inB_X11 (by decide) tw6_171 rfl dX11_limp_61 rfl ?_
          refine w_iload_n C dX11_limp_64 rfl 4 rfl ?_
          refine w_iald C 10 16 0 (Nat.le_of_ble_eq_true rfl) (fun _ => rfl) rfl h dX11_limp_65 rfl (fun h => ?_)
          refine w_icmp_ge C (qt := 179) dX11_limp_66 (by decide) rfl h (fun _ h => ?_) (fun _ h => ?_)
          · refine w_iload_n C dX11_limp_179 rfl 5 rfl ?_
            refine w_if_ne C (qt := 187) dX11_limp_180 (by decide) rfl h (fun _ h => ?_) (fun _ h => ?_)
            · refine w_iload C dX11_limp_187 rfl 1 rfl ?_
              exact w_ri2 hr h (by decide) dX11_limp_189
            · refine w_iload_n C dX11_limp_183 rfl 2 rfl ?_
              refine w_goto (q := 189) C dX11_limp_184 (by decide) ?_
              exact w_ri2 hr h (by decide) dX11_limp_189
          · refine w_bipush C 10 dX11_limp_69 rfl (by decide) ?_
            refine w_iload_n C dX11_limp_71 rfl 4 rfl ?_
            refine w_imul C dX11_limp_72 rfl ?_
            refine w_iload C dX11_limp_73 rfl 0 rfl ?_
            refine w_iadd C dX11_limp_75 rfl ?_
            refine w_nm h (fun x13 h => ?_)
            refine w_istore C [(6, .int x13), (5, .int v10.2.1), (4, .int v10.2.2.1), (3, .int v10.2.2.2), (0, .ref (ad 0)), (1, .int a0), (2, .int a1)] dX11_limp_76 rfl (by decide) rfl ?_
            refine w_aload_n C dX11_limp_78 rfl 4 rfl ?_
            refine w_get C 0 13 (Nat.le_of_ble_eq_true rfl) rfl rfl inB_X11 (by decide) tw6_174 rfl dX11_limp_79 rfl ?_
            refine w_iload C dX11_limp_82 rfl 0 rfl ?_
            refine w_iald C 13 160 0 (Nat.le_of_ble_eq_true rfl) (fun _ => rfl) rfl h dX11_limp_84 rfl (fun h => ?_)
            refine w_nm h (fun x14 h => ?_)
            refine w_istore C [(7, .int x14), (6, .int x13), (5, .int v10.2.1), (4, .int v10.2.2.1), (3, .int v10.2.2.2), (0, .ref (ad 0)), (1, .int a0), (2, .int a1)] dX11_limp_85 rfl (by decide) rfl ?_
            refine w_iconst C 0 dX11_limp_87 rfl (by decide) ?_
            refine w_istore C [(8, .int 0), (7, .int x14), (6, .int x13), (5, .int v10.2.1), (4, .int v10.2.2.1), (3, .int v10.2.2.2), (0, .ref (ad 0)), (1, .int a0), (2, .int a1)] dX11_limp_88 rfl (by decide) rfl ?_
            refine w_sub [0, 1, 2, 3, 4, 5, 6, 7, 8] rfl ?_
            refine lp_w (fun v15 : St × Int32 × Int32 × Int32 => WP X (gM D cI cT ad) 9 0 90 v15.1 [(8, .int v15.2.1), (7, .int x14), (6, .int x13), (5, .int v10.2.1), (4, .int v15.2.2.1), (3, .int v15.2.2.2), (0, .ref (ad 0)), (1, .int a0), (2, .int a1)] []) (fun K16 hK17 v15 h => ?_) F _ h
            refine w_iload C dX11_limp_90 rfl 0 rfl ?_
            refine w_bipush C 10 dX11_limp_92 rfl (by decide) ?_
            refine w_icmp_ge C (qt := 164) dX11_limp_94 (by decide) rfl h (fun _ h => ?_) (fun _ h => ?_)
            · refine w_aload_n C dX11_limp_164 rfl 6 rfl ?_
              refine w_get C 0 13 (Nat.le_of_ble_eq_true rfl) rfl rfl inB_X11 (by decide) tw6_174 rfl dX11_limp_165 rfl ?_
              refine w_iload C dX11_limp_168 rfl 2 rfl ?_
              refine w_iload C dX11_limp_170 rfl 1 rfl ?_
              refine w_iast C 13 160 0 (Nat.le_of_ble_eq_true rfl) (fun _ => rfl) rfl h dX11_limp_172 rfl (fun h => ?_)
              refine w_nst h (fun u18 h => ?_)
              refine w_iinc (j := 3) C (v10.2.1 + 1) [(5, .int (v10.2.1 + 1)), (8, .int v15.2.1), (7, .int x14), (6, .int x13), (4, .int v15.2.2.1), (3, .int v15.2.2.2), (0, .ref (ad 0)), (1, .int a0), (2, .int a1)] dX11_limp_173 rfl rfl rfl (by decide) rfl ?_
              refine w_goto (q := 58) C dX11_limp_176 (by decide) ?_
              exact w_sub [0, 4, 5, 6, 7, 8] rfl (hK12 _ h)
            · refine w_aload_n C dX11_limp_97 rfl 6 rfl ?_
              refine w_iload_n C dX11_limp_98 rfl 7 rfl ?_
              refine w_iload C dX11_limp_99 rfl 3 rfl ?_
              refine bd1_w h (fun r19 hc h => ?_)
              refine w_callVi C (As := [.int a0, .int v10.2.1]) (st := []) 0 (Nat.le_of_ble_eq_true rfl) rfl rfl (cfX11_isLimp D cI cT ad (l := X.2.1) C.2.2.1 hc) tw8_179 cy_X11_isLimp (by decide +kernel) ⟨Nat.le_of_ble_eq_true rfl, Nat.le_of_ble_eq_true rfl⟩ (by decide) rfl rfl (Nat.le_of_ble_eq_true rfl) dX11_limp_101 rfl ?_
              refine w_if_eq C (qt := 164) dX11_limp_104 (by decide) rfl h (fun _ h => ?_) (fun _ h => ?_)
              · refine w_aload_n C dX11_limp_164 rfl 6 rfl ?_
                refine w_get C 0 13 (Nat.le_of_ble_eq_true rfl) rfl rfl inB_X11 (by decide) tw6_174 rfl dX11_limp_165 rfl ?_
                refine w_iload C dX11_limp_168 rfl 2 rfl ?_
                refine w_iload C dX11_limp_170 rfl 1 rfl ?_
                refine w_iast C 13 160 0 (Nat.le_of_ble_eq_true rfl) (fun _ => rfl) rfl h dX11_limp_172 rfl (fun h => ?_)
                refine w_nst h (fun u20 h => ?_)
                refine w_iinc (j := 3) C (v10.2.1 + 1) [(5, .int (v10.2.1 + 1)), (8, .int v15.2.1), (7, .int x14), (6, .int x13), (4, .int v15.2.2.1), (3, .int v15.2.2.2), (0, .ref (ad 0)), (1, .int a0), (2, .int a1)] dX11_limp_173 rfl rfl rfl (by decide) rfl ?_
                refine w_goto (q := 58) C dX11_limp_176 (by decide) ?_
                exact w_sub [0, 4, 5, 6, 7, 8] rfl (hK12 _ h)
              · refine w_aload_n C dX11_limp_107 rfl 6 rfl ?_
                refine w_get C 0 13 (Nat.le_of_ble_eq_true rfl) rfl rfl inB_X11 (by decide) tw6_174 rfl dX11_limp_108 rfl ?_
                refine w_iload C dX11_limp_111 rfl 2 rfl ?_
                refine w_iload C dX11_limp_113 rfl 0 rfl ?_
                refine w_iast C 13 160 0 (Nat.le_of_ble_eq_true rfl) (fun _ => rfl) rfl h dX11_limp_115 rfl (fun h => ?_)
                refine w_nst h (fun u21 h => ?_)
                refine w_iload C dX11_limp_116 rfl 0 rfl ?_
                refine w_iload C dX11_limp_118 rfl 1 rfl ?_
                refine w_icmp_eq C (qt := 158) dX11_limp_120 (by decide) rfl h (fun _ h => ?_) (fun _ h => ?_)
                · refine w_iinc (j := 0) C (v15.2.1 + 1) [(8, .int (v15.2.1 + 1)), (7, .int x14), (6, .int x13), (5, .int v10.2.1), (4, .int v15.2.2.1), (3, .int v15.2.2.2), (0, .ref (ad 0)), (1, .int a0), (2, .int a1)] dX11_limp_158 rfl rfl rfl (by decide) rfl ?_
                  refine w_goto (q := 90) C dX11_limp_161 (by decide) ?_
                  exact w_sub [0, 1, 2, 3, 4, 5, 6, 7, 8] rfl (hK17 _ h)
                · refine w_aload_n C dX11_limp_123 rfl 6 rfl ?_
                  refine w_iload_n C dX11_limp_124 rfl 7 rfl ?_
                  refine bd2_w h (fun r22 u23 hc h => ?_)
                  refine w_callVi C (As := [.int a0]) (st := []) 0 (Nat.le_of_ble_eq_true rfl) rfl rfl (cfX11_isAsSeen D cI cT ad (l := X.2.1) C.2.2.1 hc) tw9_29 cy_X11_isAsSeen (by decide +kernel) ⟨Nat.le_of_ble_eq_true rfl, Nat.le_of_ble_eq_true rfl⟩ (by decide) rfl rfl (Nat.le_of_ble_eq_true rfl) dX11_limp_125 rfl ?_
                  refine w_if_ne C (qt := 134) dX11_limp_128 (by decide) rfl h (fun _ h => ?_) (fun _ h => ?_)
                  · refine w_iinc (j := 5) C (v15.2.2.2 + 1) [(3, .int (v15.2.2.2 + 1)), (8, .int v15.2.1), (7, .int x14), (6, .int x13), (5, .int v10.2.1), (4, .int v15.2.2.1), (0, .ref (ad 0)), (1, .int a0), (2, .int a1)] dX11_limp_134 rfl rfl rfl (by decide) rfl ?_
                    refine w_iload C dX11_limp_137 rfl 5 rfl ?_
                    refine w_iconst C (-1) dX11_limp_139 rfl (by decide) ?_
                    refine w_icmp_ne C (qt := 154) dX11_limp_140 (by decide) rfl h (fun _ h => ?_) (fun _ h => ?_)
                    · refine w_iload C dX11_limp_154 rfl 5 rfl ?_
                      refine w_istore C [(4, .int v15.2.2.1), (3, .int (v15.2.2.2 + 1)), (8, .int v15.2.1), (7, .int x14), (6, .int x13), (5, .int v10.2.1), (0, .ref (ad 0)), (1, .int a0), (2, .int a1)] dX11_limp_156 rfl (by decide) rfl ?_
                      refine w_iinc (j := 2) C (v15.2.1 + 1) [(8, .int (v15.2.1 + 1)), (4, .int v15.2.2.1), (3, .int (v15.2.2.2 + 1)), (7, .int x14), (6, .int x13), (5, .int v10.2.1), (0, .ref (ad 0)), (1, .int a0), (2, .int a1)] dX11_limp_158 rfl rfl rfl (by decide) rfl ?_
                      refine w_goto (q := 90) C dX11_limp_161 (by decide) ?_
                      exact w_sub [0, 3, 4, 5, 1, 2, 6, 7, 8] rfl (hK17 _ h)
                    · refine w_bipush C 10 dX11_limp_143 rfl (by decide) ?_
                      refine w_iload C dX11_limp_145 rfl 4 rfl ?_
                      refine w_imul C dX11_limp_147 rfl ?_
                      refine w_iload C dX11_limp_148 rfl 1 rfl ?_
                      refine w_iadd C dX11_limp_150 rfl ?_
                      refine w_goto (q := 156) C dX11_limp_151 (by decide) ?_
                      refine w_nm h (fun x24 h => ?_)
                      refine w_istore C [(4, .int x24), (3, .int (v15.2.2.2 + 1)), (8, .int v15.2.1), (7, .int x14), (6, .int x13), (5, .int v10.2.1), (0, .ref (ad 0)), (1, .int a0), (2, .int a1)] dX11_limp_156 rfl (by decide) rfl ?_
                      refine w_iinc (j := 2) C (v15.2.1 + 1) [(8, .int (v15.2.1 + 1)), (4, .int x24), (3, .int (v15.2.2.2 + 1)), (7, .int x14), (6, .int x13), (5, .int v10.2.1), (0, .ref (ad 0)), (1, .int a0), (2, .int a1)] dX11_limp_158 rfl rfl rfl (by decide) rfl ?_
                      refine w_goto (q := 90) C dX11_limp_161 (by decide) ?_
                      exact w_sub [0, 3, 4, 5, 1, 2, 6, 7, 8] rfl (hK17 _ h)
                  · refine w_goto (q := 158) C dX11_limp_131 (by decide) ?_
                    refine w_iinc (j := 0) C (v15.2.1 + 1) [(8, .int (v15.2.1 + 1)), (7, .int x14), (6, .int x13), (5, .int v10.2.1), (4, .int v15.2.2.1), (3, .int v15.2.2.2), (0, .ref (ad 0)), (1, .int a0), (2, .int a1)] dX11_limp_158 rfl rfl rfl (by decide) rfl ?_
                    refine w_goto (q := 90) C dX11_limp_161 (by decide) ?_
                    exact w_sub [0, 1, 2, 3, 4, 5, 6, 7, 8] rfl (hK17 _ h)
        · refine w_aload_n C dX11_limp_36 rfl 0 rfl ?_
          refine w_iload_n C dX11_limp_37 rfl 1 rfl ?_
          refine bd2_w h (fun r25 u26 hc h => ?_)
          refine w_callVi C (As := [.int a0]) (st := []) 0 (Nat.le_of_ble_eq_true rfl) rfl rfl (cfX11_isAsSeen D cI cT ad (l := X.2.1) C.2.2.1 hc) tw9_29 cy_X11_isAsSeen (by decide +kernel) ⟨Nat.le_of_ble_eq_true rfl, Nat.le_of_ble_eq_true rfl⟩ (by decide) rfl rfl (Nat.le_of_ble_eq_true rfl) dX11_limp_38 rfl ?_
          refine w_if_eq C (qt := 48) dX11_limp_41 (by decide) rfl h (fun _ h => ?_) (fun _ h => ?_)
          · refine w_iconst C 0 dX11_limp_48 rfl (by decide) ?_
            exact w_ri2 hr h (by decide) dX11_limp_49
          · refine w_iconst C 1 dX11_limp_44 rfl (by decide) ?_
            refine w_goto (q := 49) C dX11_limp_45 (by decide) ?_
            exact w_ri2 hr h (by decide) dX11_limp_49
      · exact w_sub [0] rfl (hJ6 _ h)
theorem cfX11_limp (D : va_G) (cI cT : ClassId) (ad : Nat → Nat) {l : Launch} (had : gAp (gM D cI cT ad)) {F : Nat} {σ : St} {a0 : Int32} {a1 : Int32} {r : Int32} {σ' : St} (h : fX11_limp F σ a0 a1 = some (r, σ')) : MI l yX11_limp (wB yX11_limp cX11_limp 9 (some .int)) 5 121 (gM D cI cT ad) [.ref (ad 0), .int a0, .int a1] σ r σ' := mk_MI had (by decide +kernel) (Nat.le_of_ble_eq_true rfl) (fun X hX C hr => wfX11_limp C hr h)

def fX11_forget (F : Nat) (σ : St) : Option St := nm (up σ 0 4 0) fun u2 => nm (up u2 0 34 0) fun u4 => some u4
set_option maxRecDepth 20000 in
theorem wfX11_forget {X : XT} {D : va_G} {cI cT : ClassId} {ad : Nat → Nat} {F : Nat} {σ : St}  {σ' : St} (C : Cx X (gM D cI cT ad) cX11_forget 1 RX11 0 0 0) (hr : RetV X (gM D cI cT ad) cX11_forget 1 0 σ') (h : fX11_forget F σ = some σ') : WP X (gM D cI cT ad) 1 0 0 σ [(0, .ref (ad 0))] [] := by
  unfold fX11_forget at h
  refine w_aload_n C dX11_forget_0 rfl 0 rfl ?_
  refine w_iconst C 0 dX11_forget_1 rfl (by decide) ?_
  refine w_put C 0 4 0 (Nat.le_of_ble_eq_true rfl) rfl rfl inB_X11 tyX11_ok nmX11 (by decide) tw6_165 rfl rfl rfl (Nat.le_of_ble_eq_true rfl) rfl dX11_forget_2 rfl ?_
  refine w_nst h (fun u2 h => ?_)
  refine w_aload_n C dX11_forget_5 rfl 0 rfl ?_
  refine w_iconst C 0 dX11_forget_6 rfl (by decide) ?_
  refine w_put C 0 34 0 (Nat.le_of_ble_eq_true rfl) rfl rfl inB_X11 tyX11_ok nmX11 (by decide) tw6_195 rfl rfl rfl (Nat.le_of_ble_eq_true rfl) rfl dX11_forget_7 rfl ?_
  refine w_nst h (fun u4 h => ?_)
  exact w_rv hr h (by decide) dX11_forget_10
theorem cfX11_forget (D : va_G) (cI cT : ClassId) (ad : Nat → Nat) {l : Launch} (had : gAp (gM D cI cT ad)) {F : Nat} {σ : St}  {σ' : St} (h : fX11_forget F σ = some σ') : MV l yX11_forget (wB yX11_forget cX11_forget 1 none) 0 0 (gM D cI cT ad) [.ref (ad 0)] σ σ' := mk_MV had (by decide +kernel) (Nat.le_of_ble_eq_true rfl) (fun X hX C hr => wfX11_forget C hr h)

def fX11_gain (F : Nat) (σ : St) (a0 : Int32) (a1 : Int32) (a2 : Int32) (a3 : Int32) (a4 : Int32) : Option (Int32 × St) := ckI ((8 * a1) + a2) 48 (bd2 (fX11_hasStamped F σ a0 a1 a2 ((σ 19 (Int32.toNatClampNeg ((8 * a1) + a2))) + a3)) fun r1 u2 => if r1 = 0 then (some (((3 * a3) + a4) - 0, u2)) else some (((3 * a3) + a4) - 20, u2))
set_option maxRecDepth 20000 in
theorem wfX11_gain {X : XT} {D : va_G} {cI cT : ClassId} {ad : Nat → Nat} {F : Nat} {σ : St} {a0 : Int32} {a1 : Int32} {a2 : Int32} {a3 : Int32} {a4 : Int32} {r : Int32} {σ' : St} (C : Cx X (gM D cI cT ad) cX11_gain 6 RX11 6 149 0) (hr : RetI X (gM D cI cT ad) cX11_gain 6 0 r σ') (h : fX11_gain F σ a0 a1 a2 a3 a4 = some (r, σ')) : WP X (gM D cI cT ad) 6 0 0 σ [(0, .ref (ad 0)), (1, .int a0), (2, .int a1), (3, .int a2), (4, .int a3), (5, .int a4)] [] := by
  unfold fX11_gain at h
  refine w_iconst C 3 dX11_gain_0 rfl (by decide) ?_
  refine w_iload C dX11_gain_1 rfl 4 rfl ?_
  refine w_imul C dX11_gain_3 rfl ?_
  refine w_iload C dX11_gain_4 rfl 5 rfl ?_
  refine w_iadd C dX11_gain_6 rfl ?_
  refine w_aload_n C dX11_gain_7 rfl 0 rfl ?_
  refine w_iload_n C dX11_gain_8 rfl 1 rfl ?_
  refine w_iload_n C dX11_gain_9 rfl 2 rfl ?_
  refine w_iload_n C dX11_gain_10 rfl 3 rfl ?_
  refine w_aload_n C dX11_gain_11 rfl 0 rfl ?_
  refine w_get C 0 29 (Nat.le_of_ble_eq_true rfl) rfl rfl inB_X11 (by decide) tw6_190 rfl dX11_gain_12 rfl ?_
  refine w_bipush C 8 dX11_gain_15 rfl (by decide) ?_
  refine w_iload_n C dX11_gain_17 rfl 2 rfl ?_
  refine w_imul C dX11_gain_18 rfl ?_
  refine w_iload_n C dX11_gain_19 rfl 3 rfl ?_
  refine w_iadd C dX11_gain_20 rfl ?_
  refine w_iald C 19 48 0 (Nat.le_of_ble_eq_true rfl) (fun _ => rfl) rfl h dX11_gain_21 rfl (fun h => ?_)
  refine w_iload C dX11_gain_22 rfl 4 rfl ?_
  refine w_iadd C dX11_gain_24 rfl ?_
  refine bd2_w h (fun r1 u2 hc h => ?_)
  refine w_callVi C (As := [.int a0, .int a1, .int a2, .int ((σ 19 (Int32.toNatClampNeg ((8 * a1) + a2))) + a3)]) (st := [.int ((3 * a3) + a4)]) 0 (Nat.le_of_ble_eq_true rfl) rfl rfl (cfX11_hasStamped D cI cT ad (l := X.2.1) C.2.2.1 hc) tw8_48 cy_X11_hasStamped (by decide +kernel) ⟨Nat.le_of_ble_eq_true rfl, Nat.le_of_ble_eq_true rfl⟩ (by decide) rfl rfl (Nat.le_of_ble_eq_true rfl) dX11_gain_25 rfl ?_
  refine w_if_eq C (qt := 36) dX11_gain_28 (by decide) rfl h (fun _ h => ?_) (fun _ h => ?_)
  · refine w_iconst C 0 dX11_gain_36 rfl (by decide) ?_
    refine w_isub C dX11_gain_37 rfl ?_
    exact w_ri2 hr h (by decide) dX11_gain_38
  · refine w_bipush C 20 dX11_gain_31 rfl (by decide) ?_
    refine w_goto (q := 37) C dX11_gain_33 (by decide) ?_
    refine w_isub C dX11_gain_37 rfl ?_
    exact w_ri2 hr h (by decide) dX11_gain_38
theorem cfX11_gain (D : va_G) (cI cT : ClassId) (ad : Nat → Nat) {l : Launch} (had : gAp (gM D cI cT ad)) {F : Nat} {σ : St} {a0 : Int32} {a1 : Int32} {a2 : Int32} {a3 : Int32} {a4 : Int32} {r : Int32} {σ' : St} (h : fX11_gain F σ a0 a1 a2 a3 a4 = some (r, σ')) : MI l yX11_gain (wB yX11_gain cX11_gain 6 (some .int)) 6 149 (gM D cI cT ad) [.ref (ad 0), .int a0, .int a1, .int a2, .int a3, .int a4] σ r σ' := mk_MI had (by decide +kernel) (Nat.le_of_ble_eq_true rfl) (fun X hX C hr => wfX11_gain C hr h)

def fX11_game (F : Nat) (σ : St) (a0 : Int32) (a1 : Int32) (a2 : Int32) (a3 : Int32) : Option (Int32 × St) := nm (up σ 0 4 0) fun u2 => bd1 (fX11_isValley F u2 a0) fun r3 => jn (fun v4 : Unit => bd2 (fX11_fail F u2 1) fun r7 u8 => some (r7, u8)) fun J5 => if r3 = 0 then (J5 (())) else bd1 (fX11_isValley F u2 a1) fun r9 => if r9 = 0 then (J5 (())) else bd1 (fX11_isAbout F u2 a2) fun r10 => if r10 = 0 then (J5 (())) else if a3 < 0 then (J5 (())) else if a3 ≤ 1 then (if a0 = a1 then (bd2 (fX11_fail F u2 2) fun r34 u35 => some (r34, u35)) else bd2 (fX11_binding F u2) fun r11 u12 => lp (fun (K14 : (St × Int32 × Int32 × Int32) → Option (Int32 × St)) (v13 : St × Int32 × Int32 × Int32) => if 10 ≤ v13.2.1 then (if a3 = 0 then (some (v13.2.2.2, v13.1)) else some (v13.2.2.1, v13.1)) else lp (fun (K17 : (St × Int32 × Int32 × Int32) → Option (Int32 × St)) (v16 : St × Int32 × Int32 × Int32) => if 10 ≤ v16.2.1 then (K14 ((v16.1, v13.2.1 + 1, v16.2.2.1, v16.2.2.2))) else lp (fun (K20 : (St × Int32 × Int32) → Option (Int32 × St)) (v19 : St × Int32 × Int32) => jn (fun v22 : Unit => if v19.2.2 = 0 then (K17 ((v19.1, v16.2.1 + 1, v16.2.2.1, v16.2.2.2))) else if v16.2.2.1 = ((-1)) then (nm ((10 * v13.2.1) + v16.2.1) fun x25 => K17 ((v19.1, v16.2.1 + 1, x25, v16.2.2.2 + 1))) else K17 ((v19.1, v16.2.1 + 1, v16.2.2.1, v16.2.2.2 + 1))) fun J23 => if 10 ≤ v19.2.1 then (J23 (())) else if v19.2.2 = 0 then (J23 (())) else bd2 (fX11_gain F v19.1 r11 a0 a2 v19.2.1 v16.2.1) fun r26 u27 => bd2 (fX11_gain F u27 r11 a0 a2 v13.2.1 v16.2.1) fun r28 u29 => if r28 < r26 then (K20 ((u29, v19.2.1 + 1, 0))) else bd2 (fX11_gain F u29 r11 a1 a2 v19.2.1 v13.2.1) fun r30 u31 => bd2 (fX11_gain F u31 r11 a1 a2 v16.2.1 v13.2.1) fun r32 u33 => if r32 < r30 then (K20 ((u33, v19.2.1 + 1, 0))) else K20 ((u33, v19.2.1 + 1, 1))) F ((v16.1, 0, 1))) F ((v13.1, 0, v13.2.2.1, v13.2.2.2))) F ((u12, 0, (-1), 0))) else J5 (())
set_option maxRecDepth 20000 in
theorem wfX11_game {X : XT} {D : va_G} {cI cT : ClassId} {ad : Nat → Nat} {F : Nat} {σ : St} {a0 : Int32} {a1 : Int32} {a2 : Int32} {a3 : Int32} {r : Int32} {σ' : St} (C : Cx X (gM D cI cT ad) cX11_game 12 RX11 7 174 0) (hr : RetI X (gM D cI cT ad) cX11_game 12 0 r σ') (h : fX11_game F σ a0 a1 a2 a3 = some (r, σ')) : WP X (gM D cI cT ad) 12 0 0 σ [(0, .ref (ad 0)), (1, .int a0), (2, .int a1), (3, .int a2), (4, .int a3)] [] := by
  unfold fX11_game at h
  refine w_aload_n C dX11_game_0 rfl 0 rfl ?_
  refine w_iconst C 0 dX11_game_1 rfl (by decide) ?_
  refine w_put C 0 4 0 (Nat.le_of_ble_eq_true rfl) rfl rfl inB_X11 tyX11_ok nmX11 (by decide) tw6_165 rfl rfl rfl (Nat.le_of_ble_eq_true rfl) rfl dX11_game_2 rfl ?_
  refine w_nst h (fun u2 h => ?_)
  refine w_aload_n C dX11_game_5 rfl 0 rfl ?_
  refine w_iload_n C dX11_game_6 rfl 1 rfl ?_
  refine bd1_w h (fun r3 hc h => ?_)
  refine w_callVi C (As := [.int a0]) (st := []) 0 (Nat.le_of_ble_eq_true rfl) rfl rfl (cfX11_isValley D cI cT ad (l := X.2.1) C.2.2.1 hc) tw8_95 cy_X11_isValley (by decide +kernel) ⟨Nat.le_of_ble_eq_true rfl, Nat.le_of_ble_eq_true rfl⟩ (by decide) rfl rfl (Nat.le_of_ble_eq_true rfl) dX11_game_7 rfl ?_
  refine jn_w (fun v4 : Unit => WP X (gM D cI cT ad) 12 0 39 u2 [(0, .ref (ad 0))] []) h (fun v4 h => ?_) (fun J5 hJ6 h => ?_)
  · refine w_aload_n C dX11_game_39 rfl 0 rfl ?_
    refine w_iconst C 1 dX11_game_40 rfl (by decide) ?_
    refine bd2_w h (fun r7 u8 hc h => ?_)
    refine w_callVi C (As := [.int 1]) (st := []) 0 (Nat.le_of_ble_eq_true rfl) rfl rfl (cfX11_fail D cI cT ad (l := X.2.1) C.2.2.1 hc) tw7_117 cy_X11_fail (by decide +kernel) ⟨Nat.le_of_ble_eq_true rfl, Nat.le_of_ble_eq_true rfl⟩ (by decide) rfl rfl (Nat.le_of_ble_eq_true rfl) dX11_game_41 rfl ?_
    exact w_ri2 hr h (by decide) dX11_game_44
  · refine w_if_eq C (qt := 39) dX11_game_10 (by decide) rfl h (fun _ h => ?_) (fun _ h => ?_)
    · exact w_sub [0] rfl (hJ6 _ h)
    · refine w_aload_n C dX11_game_13 rfl 0 rfl ?_
      refine w_iload_n C dX11_game_14 rfl 2 rfl ?_
      refine bd1_w h (fun r9 hc h => ?_)
      refine w_callVi C (As := [.int a1]) (st := []) 0 (Nat.le_of_ble_eq_true rfl) rfl rfl (cfX11_isValley D cI cT ad (l := X.2.1) C.2.2.1 hc) tw8_95 cy_X11_isValley (by decide +kernel) ⟨Nat.le_of_ble_eq_true rfl, Nat.le_of_ble_eq_true rfl⟩ (by decide) rfl rfl (Nat.le_of_ble_eq_true rfl) dX11_game_15 rfl ?_
      refine w_if_eq C (qt := 39) dX11_game_18 (by decide) rfl h (fun _ h => ?_) (fun _ h => ?_)
      · exact w_sub [0] rfl (hJ6 _ h)
      · refine w_iload_n C dX11_game_21 rfl 3 rfl ?_
        refine bd1_w h (fun r10 hc h => ?_)
        refine w_callSi C (As := [.int a2]) (st := []) (cfX11_isAbout D cI cT ad (l := X.2.1) C.2.2.1 hc) tw8_129 cs_X11_isAbout (by decide +kernel) ⟨Nat.le_of_ble_eq_true rfl, Nat.le_of_ble_eq_true rfl⟩ (by decide) rfl rfl (Nat.le_of_ble_eq_true rfl) dX11_game_22 rfl ?_
        refine w_if_eq C (qt := 39) dX11_game_25 (by decide) rfl h (fun _ h => ?_) (fun _ h => ?_)
        · exact w_sub [0] rfl (hJ6 _ h)
        · refine w_iload C dX11_game_28 rfl 4 rfl ?_
          refine w_if_lt C (qt := 39) dX11_game_30 (by decide) rfl h (fun _ h => ?_) (fun _ h => ?_)
          · exact w_sub [0] rfl (hJ6 _ h)
          · refine w_iload C dX11_game_33 rfl 4 rfl ?_
            refine w_iconst C 1 dX11_game_35 rfl (by decide) ?_
            refine w_icmp_le C (qt := 45) dX11_game_36 (by decide) rfl h (fun _ h => ?_) (fun _ h => ?_)
            · refine w_iload_n C dX11_game_45 rfl 1 rfl ?_
              refine w_iload_n C dX11_game_46 rfl 2 rfl ?_
              refine w_icmp_ne C (qt := 56) dX11_game_47 (by decide) rfl h (fun _ h => ?_) (fun _ h => ?_)
              · refine w_aload_n C dX11_game_56 rfl 0 rfl ?_
                refine bd2_w h (fun r11 u12 hc h => ?_)
                refine w_callVi C (As := []) (st := []) 0 (Nat.le_of_ble_eq_true rfl) rfl rfl (cfX11_binding D cI cT ad (l := X.2.1) C.2.2.1 hc) tw8_1 cy_X11_binding (by decide +kernel) ⟨Nat.le_of_ble_eq_true rfl, Nat.le_of_ble_eq_true rfl⟩ (by decide) rfl rfl (Nat.le_of_ble_eq_true rfl) dX11_game_57 rfl ?_
                refine w_istore C [(5, .int r11), (0, .ref (ad 0)), (1, .int a0), (2, .int a1), (3, .int a2), (4, .int a3)] dX11_game_60 rfl (by decide) rfl ?_
                refine w_iconst C 0 dX11_game_62 rfl (by decide) ?_
                refine w_istore C [(6, .int 0), (5, .int r11), (0, .ref (ad 0)), (1, .int a0), (2, .int a1), (3, .int a2), (4, .int a3)] dX11_game_63 rfl (by decide) rfl ?_
                refine w_iconst C (-1) dX11_game_65 rfl (by decide) ?_
                refine w_istore C [(7, .int ((-1))), (6, .int 0), (5, .int r11), (0, .ref (ad 0)), (1, .int a0), (2, .int a1), (3, .int a2), (4, .int a3)] dX11_game_66 rfl (by decide) rfl ?_
                refine w_iconst C 0 dX11_game_68 rfl (by decide) ?_
                refine w_istore C [(8, .int 0), (7, .int ((-1))), (6, .int 0), (5, .int r11), (0, .ref (ad 0)), (1, .int a0), (2, .int a1), (3, .int a2), (4, .int a3)] dX11_game_69 rfl (by decide) rfl ?_
                refine w_sub [0, 1, 2, 3, 4, 5, 6, 7, 8] rfl ?_
                refine lp_w (fun v13 : St × Int32 × Int32 × Int32 => WP X (gM D cI cT ad) 12 0 71 v13.1 [(8, .int v13.2.1), (7, .int v13.2.2.1), (6, .int v13.2.2.2), (5, .int r11), (0, .ref (ad 0)), (1, .int a0), (2, .int a1), (3, .int a2), (4, .int a3)] []) (fun K14 hK15 v13 h => ?_) F _ h
                refine w_iload C dX11_game_71 rfl 0 rfl ?_
                refine w_bipush C 10 dX11_game_73 rfl (by decide) ?_
                refine w_icmp_ge C (qt := 217) dX11_game_75 (by decide) rfl h (fun _ h => ?_) (fun _ h => ?_)
                · refine w_iload C dX11_game_217 rfl 8 rfl ?_
                  refine w_if_ne C (qt := 227) dX11_game_219 (by decide) rfl h (fun _ h => ?_) (fun _ h => ?_)
                  · refine w_iload C dX11_game_227 rfl 1 rfl ?_
                    exact w_ri2 hr h (by decide) dX11_game_229
                  · refine w_iload C dX11_game_222 rfl 2 rfl ?_
                    refine w_goto (q := 229) C dX11_game_224 (by decide) ?_
                    exact w_ri2 hr h (by decide) dX11_game_229
                · refine w_iconst C 0 dX11_game_78 rfl (by decide) ?_
                  refine w_istore C [(9, .int 0), (8, .int v13.2.1), (7, .int v13.2.2.1), (6, .int v13.2.2.2), (5, .int r11), (0, .ref (ad 0)), (1, .int a0), (2, .int a1), (3, .int a2), (4, .int a3)] dX11_game_79 rfl (by decide) rfl ?_
                  refine w_sub [0, 1, 2, 3, 4, 5, 6, 7, 8, 9] rfl ?_
                  refine lp_w (fun v16 : St × Int32 × Int32 × Int32 => WP X (gM D cI cT ad) 12 0 81 v16.1 [(9, .int v16.2.1), (8, .int v13.2.1), (7, .int v16.2.2.1), (6, .int v16.2.2.2), (5, .int r11), (0, .ref (ad 0)), (1, .int a0), (2, .int a1), (3, .int a2), (4, .int a3)] []) (fun K17 hK18 v16 h => ?_) F _ h
                  refine w_iload C dX11_game_81 rfl 0 rfl ?_
                  refine w_bipush C 10 dX11_game_83 rfl (by decide) ?_
                  refine w_icmp_ge C (qt := 211) dX11_game_85 (by decide) rfl h (fun _ h => ?_) (fun _ h => ?_)
                  · refine w_iinc (j := 1) C (v13.2.1 + 1) [(8, .int (v13.2.1 + 1)), (9, .int v16.2.1), (7, .int v16.2.2.1), (6, .int v16.2.2.2), (5, .int r11), (0, .ref (ad 0)), (1, .int a0), (2, .int a1), (3, .int a2), (4, .int a3)] dX11_game_211 rfl rfl rfl (by decide) rfl ?_
                    refine w_goto (q := 71) C dX11_game_214 (by decide) ?_
                    exact w_sub [0, 2, 3, 4, 5, 6, 7, 8, 9] rfl (hK15 _ h)
                  · refine w_iconst C 1 dX11_game_88 rfl (by decide) ?_
                    refine w_istore C [(10, .int 1), (9, .int v16.2.1), (8, .int v13.2.1), (7, .int v16.2.2.1), (6, .int v16.2.2.2), (5, .int r11), (0, .ref (ad 0)), (1, .int a0), (2, .int a1), (3, .int a2), (4, .int a3)] dX11_game_89 rfl (by decide) rfl ?_
                    refine w_iconst C 0 dX11_game_91 rfl (by decide) ?_
                    refine w_istore C [(11, .int 0), (10, .int 1), (9, .int v16.2.1), (8, .int v13.2.1), (7, .int v16.2.2.1), (6, .int v16.2.2.2), (5, .int r11), (0, .ref (ad 0)), (1, .int a0), (2, .int a1), (3, .int a2), (4, .int a3)] dX11_game_92 rfl (by decide) rfl ?_
                    refine w_sub [0, 1, 2, 3, 4, 5, 6, 7, 8, 9, 10, 11] rfl ?_
                    refine lp_w (fun v19 : St × Int32 × Int32 => WP X (gM D cI cT ad) 12 0 94 v19.1 [(11, .int v19.2.1), (10, .int v19.2.2), (9, .int v16.2.1), (8, .int v13.2.1), (7, .int v16.2.2.1), (6, .int v16.2.2.2), (5, .int r11), (0, .ref (ad 0)), (1, .int a0), (2, .int a1), (3, .int a2), (4, .int a3)] []) (fun K20 hK21 v19 h => ?_) F _ h
                    refine w_iload C dX11_game_94 rfl 0 rfl ?_
                    refine w_bipush C 10 dX11_game_96 rfl (by decide) ?_
                    refine jn_w (fun v22 : Unit => WP X (gM D cI cT ad) 12 0 173 v19.1 [(10, .int v19.2.2), (9, .int v16.2.1), (8, .int v13.2.1), (7, .int v16.2.2.1), (6, .int v16.2.2.2), (5, .int r11), (0, .ref (ad 0)), (1, .int a0), (2, .int a1), (3, .int a2), (4, .int a3)] []) h (fun v22 h => ?_) (fun J23 hJ24 h => ?_)
                    · refine w_iload C dX11_game_173 rfl 0 rfl ?_
                      refine w_if_ne C (qt := 181) dX11_game_175 (by decide) rfl h (fun _ h => ?_) (fun _ h => ?_)
                      · refine w_iinc (j := 4) C (v16.2.2.2 + 1) [(6, .int (v16.2.2.2 + 1)), (10, .int v19.2.2), (9, .int v16.2.1), (8, .int v13.2.1), (7, .int v16.2.2.1), (5, .int r11), (0, .ref (ad 0)), (1, .int a0), (2, .int a1), (3, .int a2), (4, .int a3)] dX11_game_181 rfl rfl rfl (by decide) rfl ?_
                        refine w_iload C dX11_game_184 rfl 4 rfl ?_
                        refine w_iconst C (-1) dX11_game_186 rfl (by decide) ?_
                        refine w_icmp_ne C (qt := 201) dX11_game_187 (by decide) rfl h (fun _ h => ?_) (fun _ h => ?_)
                        · refine w_iload C dX11_game_201 rfl 4 rfl ?_
                          refine w_istore C [(7, .int v16.2.2.1), (6, .int (v16.2.2.2 + 1)), (10, .int v19.2.2), (9, .int v16.2.1), (8, .int v13.2.1), (5, .int r11), (0, .ref (ad 0)), (1, .int a0), (2, .int a1), (3, .int a2), (4, .int a3)] dX11_game_203 rfl (by decide) rfl ?_
                          refine w_iinc (j := 3) C (v16.2.1 + 1) [(9, .int (v16.2.1 + 1)), (7, .int v16.2.2.1), (6, .int (v16.2.2.2 + 1)), (10, .int v19.2.2), (8, .int v13.2.1), (5, .int r11), (0, .ref (ad 0)), (1, .int a0), (2, .int a1), (3, .int a2), (4, .int a3)] dX11_game_205 rfl rfl rfl (by decide) rfl ?_
                          refine w_goto (q := 81) C dX11_game_208 (by decide) ?_
                          exact w_sub [0, 4, 1, 2, 5, 6, 7, 8, 9, 10] rfl (hK18 _ h)
                        · refine w_bipush C 10 dX11_game_190 rfl (by decide) ?_
                          refine w_iload C dX11_game_192 rfl 3 rfl ?_
                          refine w_imul C dX11_game_194 rfl ?_
                          refine w_iload C dX11_game_195 rfl 2 rfl ?_
                          refine w_iadd C dX11_game_197 rfl ?_
                          refine w_goto (q := 203) C dX11_game_198 (by decide) ?_
                          refine w_nm h (fun x25 h => ?_)
                          refine w_istore C [(7, .int x25), (6, .int (v16.2.2.2 + 1)), (10, .int v19.2.2), (9, .int v16.2.1), (8, .int v13.2.1), (5, .int r11), (0, .ref (ad 0)), (1, .int a0), (2, .int a1), (3, .int a2), (4, .int a3)] dX11_game_203 rfl (by decide) rfl ?_
                          refine w_iinc (j := 3) C (v16.2.1 + 1) [(9, .int (v16.2.1 + 1)), (7, .int x25), (6, .int (v16.2.2.2 + 1)), (10, .int v19.2.2), (8, .int v13.2.1), (5, .int r11), (0, .ref (ad 0)), (1, .int a0), (2, .int a1), (3, .int a2), (4, .int a3)] dX11_game_205 rfl rfl rfl (by decide) rfl ?_
                          refine w_goto (q := 81) C dX11_game_208 (by decide) ?_
                          exact w_sub [0, 4, 1, 2, 5, 6, 7, 8, 9, 10] rfl (hK18 _ h)
                      · refine w_goto (q := 205) C dX11_game_178 (by decide) ?_
                        refine w_iinc (j := 1) C (v16.2.1 + 1) [(9, .int (v16.2.1 + 1)), (10, .int v19.2.2), (8, .int v13.2.1), (7, .int v16.2.2.1), (6, .int v16.2.2.2), (5, .int r11), (0, .ref (ad 0)), (1, .int a0), (2, .int a1), (3, .int a2), (4, .int a3)] dX11_game_205 rfl rfl rfl (by decide) rfl ?_
                        refine w_goto (q := 81) C dX11_game_208 (by decide) ?_
                        exact w_sub [0, 2, 3, 4, 5, 6, 7, 8, 9, 10] rfl (hK18 _ h)
                    · refine w_icmp_ge C (qt := 173) dX11_game_98 (by decide) rfl h (fun _ h => ?_) (fun _ h => ?_)
                      · exact w_sub [1, 2, 3, 4, 5, 6, 7, 8, 9, 10, 11] rfl (hJ24 _ h)
                      · refine w_iload C dX11_game_101 rfl 1 rfl ?_
                        refine w_if_eq C (qt := 173) dX11_game_103 (by decide) rfl h (fun _ h => ?_) (fun _ h => ?_)
                        · exact w_sub [1, 2, 3, 4, 5, 6, 7, 8, 9, 10, 11] rfl (hJ24 _ h)
                        · refine w_aload_n C dX11_game_106 rfl 7 rfl ?_
                          refine w_iload C dX11_game_107 rfl 6 rfl ?_
                          refine w_iload_n C dX11_game_109 rfl 8 rfl ?_
                          refine w_iload_n C dX11_game_110 rfl 10 rfl ?_
                          refine w_iload C dX11_game_111 rfl 0 rfl ?_
                          refine w_iload C dX11_game_113 rfl 2 rfl ?_
                          refine bd2_w h (fun r26 u27 hc h => ?_)
                          refine w_callVi C (As := [.int r11, .int a0, .int a2, .int v19.2.1, .int v16.2.1]) (st := []) 0 (Nat.le_of_ble_eq_true rfl) rfl rfl (cfX11_gain D cI cT ad (l := X.2.1) C.2.2.1 hc) tw9_41 cy_X11_gain (by decide +kernel) ⟨Nat.le_of_ble_eq_true rfl, Nat.le_of_ble_eq_true rfl⟩ (by decide) rfl rfl (Nat.le_of_ble_eq_true rfl) dX11_game_115 rfl ?_
                          refine w_aload_n C dX11_game_118 rfl 7 rfl ?_
                          refine w_iload C dX11_game_119 rfl 6 rfl ?_
                          refine w_iload_n C dX11_game_121 rfl 8 rfl ?_
                          refine w_iload_n C dX11_game_122 rfl 10 rfl ?_
                          refine w_iload C dX11_game_123 rfl 3 rfl ?_
                          refine w_iload C dX11_game_125 rfl 2 rfl ?_
                          refine bd2_w h (fun r28 u29 hc h => ?_)
                          refine w_callVi C (As := [.int r11, .int a0, .int a2, .int v13.2.1, .int v16.2.1]) (st := [.int r26]) 0 (Nat.le_of_ble_eq_true rfl) rfl rfl (cfX11_gain D cI cT ad (l := X.2.1) C.2.2.1 hc) tw9_41 cy_X11_gain (by decide +kernel) ⟨Nat.le_of_ble_eq_true rfl, Nat.le_of_ble_eq_true rfl⟩ (by decide) rfl rfl (Nat.le_of_ble_eq_true rfl) dX11_game_127 rfl ?_
                          refine w_icmp_gt C (qt := 164) dX11_game_130 (by decide) rfl h (fun _ h => ?_) (fun _ h => ?_)
                          · refine w_iconst C 0 dX11_game_164 rfl (by decide) ?_
                            refine w_istore C [(10, .int 0), (11, .int v19.2.1), (9, .int v16.2.1), (8, .int v13.2.1), (7, .int v16.2.2.1), (6, .int v16.2.2.2), (5, .int r11), (0, .ref (ad 0)), (1, .int a0), (2, .int a1), (3, .int a2), (4, .int a3)] dX11_game_165 rfl (by decide) rfl ?_
                            refine w_iinc (j := 1) C (v19.2.1 + 1) [(11, .int (v19.2.1 + 1)), (10, .int 0), (9, .int v16.2.1), (8, .int v13.2.1), (7, .int v16.2.2.1), (6, .int v16.2.2.2), (5, .int r11), (0, .ref (ad 0)), (1, .int a0), (2, .int a1), (3, .int a2), (4, .int a3)] dX11_game_167 rfl rfl rfl (by decide) rfl ?_
                            refine w_goto (q := 94) C dX11_game_170 (by decide) ?_
                            exact w_sub [0, 1, 2, 3, 4, 5, 6, 7, 8, 9, 10, 11] rfl (hK21 _ h)
                          · refine w_aload_n C dX11_game_133 rfl 7 rfl ?_
                            refine w_iload C dX11_game_134 rfl 6 rfl ?_
                            refine w_iload_n C dX11_game_136 rfl 9 rfl ?_
                            refine w_iload_n C dX11_game_137 rfl 10 rfl ?_
                            refine w_iload C dX11_game_138 rfl 0 rfl ?_
                            refine w_iload C dX11_game_140 rfl 3 rfl ?_
                            refine bd2_w h (fun r30 u31 hc h => ?_)
                            refine w_callVi C (As := [.int r11, .int a1, .int a2, .int v19.2.1, .int v13.2.1]) (st := []) 0 (Nat.le_of_ble_eq_true rfl) rfl rfl (cfX11_gain D cI cT ad (l := X.2.1) C.2.2.1 hc) tw9_41 cy_X11_gain (by decide +kernel) ⟨Nat.le_of_ble_eq_true rfl, Nat.le_of_ble_eq_true rfl⟩ (by decide) rfl rfl (Nat.le_of_ble_eq_true rfl) dX11_game_142 rfl ?_
                            refine w_aload_n C dX11_game_145 rfl 7 rfl ?_
                            refine w_iload C dX11_game_146 rfl 6 rfl ?_
                            refine w_iload_n C dX11_game_148 rfl 9 rfl ?_
                            refine w_iload_n C dX11_game_149 rfl 10 rfl ?_
                            refine w_iload C dX11_game_150 rfl 2 rfl ?_
                            refine w_iload C dX11_game_152 rfl 3 rfl ?_
                            refine bd2_w h (fun r32 u33 hc h => ?_)
                            refine w_callVi C (As := [.int r11, .int a1, .int a2, .int v16.2.1, .int v13.2.1]) (st := [.int r30]) 0 (Nat.le_of_ble_eq_true rfl) rfl rfl (cfX11_gain D cI cT ad (l := X.2.1) C.2.2.1 hc) tw9_41 cy_X11_gain (by decide +kernel) ⟨Nat.le_of_ble_eq_true rfl, Nat.le_of_ble_eq_true rfl⟩ (by decide) rfl rfl (Nat.le_of_ble_eq_true rfl) dX11_game_154 rfl ?_
                            refine w_icmp_gt C (qt := 164) dX11_game_157 (by decide) rfl h (fun _ h => ?_) (fun _ h => ?_)
                            · refine w_iconst C 0 dX11_game_164 rfl (by decide) ?_
                              refine w_istore C [(10, .int 0), (11, .int v19.2.1), (9, .int v16.2.1), (8, .int v13.2.1), (7, .int v16.2.2.1), (6, .int v16.2.2.2), (5, .int r11), (0, .ref (ad 0)), (1, .int a0), (2, .int a1), (3, .int a2), (4, .int a3)] dX11_game_165 rfl (by decide) rfl ?_
                              refine w_iinc (j := 1) C (v19.2.1 + 1) [(11, .int (v19.2.1 + 1)), (10, .int 0), (9, .int v16.2.1), (8, .int v13.2.1), (7, .int v16.2.2.1), (6, .int v16.2.2.2), (5, .int r11), (0, .ref (ad 0)), (1, .int a0), (2, .int a1), (3, .int a2), (4, .int a3)] dX11_game_167 rfl rfl rfl (by decide) rfl ?_
                              refine w_goto (q := 94) C dX11_game_170 (by decide) ?_
                              exact w_sub [0, 1, 2, 3, 4, 5, 6, 7, 8, 9, 10, 11] rfl (hK21 _ h)
                            · refine w_iconst C 1 dX11_game_160 rfl (by decide) ?_
                              refine w_goto (q := 165) C dX11_game_161 (by decide) ?_
                              refine w_istore C [(10, .int 1), (11, .int v19.2.1), (9, .int v16.2.1), (8, .int v13.2.1), (7, .int v16.2.2.1), (6, .int v16.2.2.2), (5, .int r11), (0, .ref (ad 0)), (1, .int a0), (2, .int a1), (3, .int a2), (4, .int a3)] dX11_game_165 rfl (by decide) rfl ?_
                              refine w_iinc (j := 1) C (v19.2.1 + 1) [(11, .int (v19.2.1 + 1)), (10, .int 1), (9, .int v16.2.1), (8, .int v13.2.1), (7, .int v16.2.2.1), (6, .int v16.2.2.2), (5, .int r11), (0, .ref (ad 0)), (1, .int a0), (2, .int a1), (3, .int a2), (4, .int a3)] dX11_game_167 rfl rfl rfl (by decide) rfl ?_
                              refine w_goto (q := 94) C dX11_game_170 (by decide) ?_
                              exact w_sub [0, 1, 2, 3, 4, 5, 6, 7, 8, 9, 10, 11] rfl (hK21 _ h)
              · refine w_aload_n C dX11_game_50 rfl 0 rfl ?_
                refine w_iconst C 2 dX11_game_51 rfl (by decide) ?_
                refine bd2_w h (fun r34 u35 hc h => ?_)
                refine w_callVi C (As := [.int 2]) (st := []) 0 (Nat.le_of_ble_eq_true rfl) rfl rfl (cfX11_fail D cI cT ad (l := X.2.1) C.2.2.1 hc) tw7_117 cy_X11_fail (by decide +kernel) ⟨Nat.le_of_ble_eq_true rfl, Nat.le_of_ble_eq_true rfl⟩ (by decide) rfl rfl (Nat.le_of_ble_eq_true rfl) dX11_game_52 rfl ?_
                exact w_ri2 hr h (by decide) dX11_game_55
            · exact w_sub [0] rfl (hJ6 _ h)
theorem cfX11_game (D : va_G) (cI cT : ClassId) (ad : Nat → Nat) {l : Launch} (had : gAp (gM D cI cT ad)) {F : Nat} {σ : St} {a0 : Int32} {a1 : Int32} {a2 : Int32} {a3 : Int32} {r : Int32} {σ' : St} (h : fX11_game F σ a0 a1 a2 a3 = some (r, σ')) : MI l yX11_game (wB yX11_game cX11_game 12 (some .int)) 7 174 (gM D cI cT ad) [.ref (ad 0), .int a0, .int a1, .int a2, .int a3] σ r σ' := mk_MI had (by decide +kernel) (Nat.le_of_ble_eq_true rfl) (fun X hX C hr => wfX11_game C hr h)

def fX11_drawOf (F : Nat) (σ : St) (a0 : Int32) : Option (Int32 × St) := nm (up σ 0 48 (((σ 0 48) * 1103515245) + 12345)) fun u2 => ckZ (a0) (some ((((u2 0 48) >>> (16 &&& 31)) &&& 32767) - (((u2 0 48) >>> (16 &&& 31)) &&& 32767) / a0 * a0, u2))
set_option maxRecDepth 20000 in
theorem wfX11_drawOf {X : XT} {D : va_G} {cI cT : ClassId} {ad : Nat → Nat} {F : Nat} {σ : St} {a0 : Int32} {r : Int32} {σ' : St} (C : Cx X (gM D cI cT ad) cX11_drawOf 2 RX11 0 0 0) (hr : RetI X (gM D cI cT ad) cX11_drawOf 2 0 r σ') (h : fX11_drawOf F σ a0 = some (r, σ')) : WP X (gM D cI cT ad) 2 0 0 σ [(0, .ref (ad 0)), (1, .int a0)] [] := by
  unfold fX11_drawOf at h
  refine w_aload_n C dX11_drawOf_0 rfl 0 rfl ?_
  refine w_aload_n C dX11_drawOf_1 rfl 0 rfl ?_
  refine w_get C 0 48 (Nat.le_of_ble_eq_true rfl) rfl rfl inB_X11 (by decide) tw6_209 rfl dX11_drawOf_2 rfl ?_
  refine w_ldcw C 1103515245 dX11_drawOf_5 rfl tw9_54 ?_
  refine w_imul C dX11_drawOf_8 rfl ?_
  refine w_sipush C 12345 dX11_drawOf_9 rfl (by decide) ?_
  refine w_iadd C dX11_drawOf_12 rfl ?_
  refine w_put C 0 48 (((σ 0 48) * 1103515245) + 12345) (Nat.le_of_ble_eq_true rfl) rfl rfl inB_X11 tyX11_ok nmX11 (by decide) tw6_209 rfl rfl rfl (Nat.le_of_ble_eq_true rfl) rfl dX11_drawOf_13 rfl ?_
  refine w_nst h (fun u2 h => ?_)
  refine w_aload_n C dX11_drawOf_16 rfl 0 rfl ?_
  refine w_get C 0 48 (Nat.le_of_ble_eq_true rfl) rfl rfl inB_X11 (by decide) tw6_209 rfl dX11_drawOf_17 rfl ?_
  refine w_bipush C 16 dX11_drawOf_20 rfl (by decide) ?_
  refine w_ishr C dX11_drawOf_22 rfl ?_
  refine w_sipush C 32767 dX11_drawOf_23 rfl (by decide) ?_
  refine w_iand C dX11_drawOf_26 rfl ?_
  refine w_iload_n C dX11_drawOf_27 rfl 1 rfl ?_
  obtain ⟨hz, h⟩ := ckZ_w h
  refine w_irem C hz dX11_drawOf_28 rfl ?_
  exact w_ri2 hr h (by decide) dX11_drawOf_29
theorem cfX11_drawOf (D : va_G) (cI cT : ClassId) (ad : Nat → Nat) {l : Launch} (had : gAp (gM D cI cT ad)) {F : Nat} {σ : St} {a0 : Int32} {r : Int32} {σ' : St} (h : fX11_drawOf F σ a0 = some (r, σ')) : MI l yX11_drawOf (wB yX11_drawOf cX11_drawOf 2 (some .int)) 0 0 (gM D cI cT ad) [.ref (ad 0), .int a0] σ r σ' := mk_MI had (by decide +kernel) (Nat.le_of_ble_eq_true rfl) (fun X hX C hr => wfX11_drawOf C hr h)

def fX11_pack_2 (F : Nat) (σ : St) (a1 : Int32) : Option St := ckI (a1) 138 (nm (up σ 33 (Int32.toNatClampNeg a1) (σ 0 31)) fun u1 => ckI (a1 + 1) 138 (nm (up u1 33 (Int32.toNatClampNeg (a1 + 1)) (u1 0 32)) fun u2 => nm (a1 + 2) fun x3 => lp (fun (K5 : (St × Int32) → Option St) (v4 : St × Int32) => if 8 ≤ v4.2 then (lp (fun (K8 : (St × Int32) → Option St) (v7 : St × Int32) => if 80 ≤ v7.2 then (lp (fun (K11 : (St × Int32) → Option St) (v10 : St × Int32) => if 48 ≤ v10.2 then (some v10.1) else ckI (v10.2) 48 (ckI (((x3 + 8) + 80) + v10.2) 138 (nm (up v10.1 33 (Int32.toNatClampNeg (((x3 + 8) + 80) + v10.2)) (v10.1 19 (Int32.toNatClampNeg v10.2))) fun u13 => K11 ((u13, v10.2 + 1))))) F ((v7.1, 0))) else ckI (v7.2) 160 (ckI ((x3 + 8) + v7.2) 138 (nm (up v7.1 33 (Int32.toNatClampNeg ((x3 + 8) + v7.2)) (v7.1 13 (Int32.toNatClampNeg v7.2))) fun u14 => K8 ((u14, v7.2 + 1))))) F ((v4.1, 0))) else ckI (v4.2) 8 (ckI (x3 + v4.2) 138 (nm (up v4.1 33 (Int32.toNatClampNeg (x3 + v4.2)) (v4.1 18 (Int32.toNatClampNeg v4.2))) fun u15 => K5 ((u15, v4.2 + 1))))) F ((u2, 0))))
set_option maxRecDepth 20000 in
theorem wfX11_pack_2 {X : XT} {D : va_G} {cI cT : ClassId} {ad : Nat → Nat} {F : Nat} {σ : St} {a1 : Int32} {σ' : St} (C : Cx X (gM D cI cT ad) cX11_pack 5 RX11 0 0 0) (hr : RetV X (gM D cI cT ad) cX11_pack 5 0 σ') (h : fX11_pack_2 F σ a1 = some σ') : WP X (gM D cI cT ad) 5 0 0 σ [(0, .ref (ad 0)), (1, .ref (ad 33)), (2, .int a1)] [] := by
  unfold fX11_pack_2 at h
  refine w_aload_n C dX11_pack_0 rfl 1 rfl ?_
  refine w_iload_n C dX11_pack_1 rfl 2 rfl ?_
  refine w_aload_n C dX11_pack_2 rfl 0 rfl ?_
  refine w_get C 0 31 (Nat.le_of_ble_eq_true rfl) rfl rfl inB_X11 (by decide) tw6_192 rfl dX11_pack_3 rfl ?_
  refine w_iast C 33 138 0 (Nat.le_of_ble_eq_true rfl) (fun _ => rfl) rfl h dX11_pack_6 rfl (fun h => ?_)
  refine w_nst h (fun u1 h => ?_)
  refine w_aload_n C dX11_pack_7 rfl 1 rfl ?_
  refine w_iload_n C dX11_pack_8 rfl 2 rfl ?_
  refine w_iconst C 1 dX11_pack_9 rfl (by decide) ?_
  refine w_iadd C dX11_pack_10 rfl ?_
  refine w_aload_n C dX11_pack_11 rfl 0 rfl ?_
  refine w_get C 0 32 (Nat.le_of_ble_eq_true rfl) rfl rfl inB_X11 (by decide) tw6_193 rfl dX11_pack_12 rfl ?_
  refine w_iast C 33 138 0 (Nat.le_of_ble_eq_true rfl) (fun _ => rfl) rfl h dX11_pack_15 rfl (fun h => ?_)
  refine w_nst h (fun u2 h => ?_)
  refine w_iload_n C dX11_pack_16 rfl 2 rfl ?_
  refine w_iconst C 2 dX11_pack_17 rfl (by decide) ?_
  refine w_iadd C dX11_pack_18 rfl ?_
  refine w_nm h (fun x3 h => ?_)
  refine w_istore_n C [(3, .int x3), (0, .ref (ad 0)), (1, .ref (ad 33)), (2, .int a1)] dX11_pack_19 rfl (by decide) rfl ?_
  refine w_iconst C 0 dX11_pack_20 rfl (by decide) ?_
  refine w_istore C [(4, .int 0), (3, .int x3), (0, .ref (ad 0)), (1, .ref (ad 33)), (2, .int a1)] dX11_pack_21 rfl (by decide) rfl ?_
  refine w_sub [0, 1, 2, 3] rfl ?_
  refine lp_w (fun v4 : St × Int32 => WP X (gM D cI cT ad) 5 0 23 v4.1 [(4, .int v4.2), (3, .int x3), (0, .ref (ad 0)), (1, .ref (ad 33))] []) (fun K5 hK6 v4 h => ?_) F _ h
  refine w_iload C dX11_pack_23 rfl 0 rfl ?_
  refine w_bipush C 8 dX11_pack_25 rfl (by decide) ?_
  refine w_icmp_ge C (qt := 49) dX11_pack_27 (by decide) rfl h (fun _ h => ?_) (fun _ h => ?_)
  · refine w_iinc (j := 1) C (x3 + 8) [(3, .int (x3 + 8)), (4, .int v4.2), (0, .ref (ad 0)), (1, .ref (ad 33))] dX11_pack_49 rfl rfl rfl (by decide) rfl ?_
    refine w_iconst C 0 dX11_pack_52 rfl (by decide) ?_
    refine w_istore C [(4, .int 0), (3, .int (x3 + 8)), (0, .ref (ad 0)), (1, .ref (ad 33))] dX11_pack_53 rfl (by decide) rfl ?_
    refine w_sub [0, 1, 2, 3] rfl ?_
    refine lp_w (fun v7 : St × Int32 => WP X (gM D cI cT ad) 5 0 55 v7.1 [(4, .int v7.2), (3, .int (x3 + 8)), (0, .ref (ad 0)), (1, .ref (ad 33))] []) (fun K8 hK9 v7 h => ?_) F _ h
    refine w_iload C dX11_pack_55 rfl 0 rfl ?_
    refine w_bipush C 80 dX11_pack_57 rfl (by decide) ?_
    refine w_icmp_ge C (qt := 81) dX11_pack_59 (by decide) rfl h (fun _ h => ?_) (fun _ h => ?_)
    · refine w_iinc (j := 1) C ((x3 + 8) + 80) [(3, .int ((x3 + 8) + 80)), (4, .int v7.2), (0, .ref (ad 0)), (1, .ref (ad 33))] dX11_pack_81 rfl rfl rfl (by decide) rfl ?_
      refine w_iconst C 0 dX11_pack_84 rfl (by decide) ?_
      refine w_istore C [(4, .int 0), (3, .int ((x3 + 8) + 80)), (0, .ref (ad 0)), (1, .ref (ad 33))] dX11_pack_85 rfl (by decide) rfl ?_
      refine w_sub [0, 1, 2, 3] rfl ?_
      refine lp_w (fun v10 : St × Int32 => WP X (gM D cI cT ad) 5 0 87 v10.1 [(4, .int v10.2), (3, .int ((x3 + 8) + 80)), (0, .ref (ad 0)), (1, .ref (ad 33))] []) (fun K11 hK12 v10 h => ?_) F _ h
      refine w_iload C dX11_pack_87 rfl 0 rfl ?_
      refine w_bipush C 48 dX11_pack_89 rfl (by decide) ?_
      refine w_icmp_ge C (qt := 113) dX11_pack_91 (by decide) rfl h (fun _ h => ?_) (fun _ h => ?_)
      · exact w_rv hr h (by decide) dX11_pack_113
      · refine w_aload_n C dX11_pack_94 rfl 3 rfl ?_
        refine w_iload_n C dX11_pack_95 rfl 1 rfl ?_
        refine w_iload C dX11_pack_96 rfl 0 rfl ?_
        refine w_iadd C dX11_pack_98 rfl ?_
        refine w_aload_n C dX11_pack_99 rfl 2 rfl ?_
        refine w_get C 0 29 (Nat.le_of_ble_eq_true rfl) rfl rfl inB_X11 (by decide) tw6_190 rfl dX11_pack_100 rfl ?_
        refine w_iload C dX11_pack_103 rfl 0 rfl ?_
        refine w_iald C 19 48 0 (Nat.le_of_ble_eq_true rfl) (fun _ => rfl) rfl h dX11_pack_105 rfl (fun h => ?_)
        refine w_iast C 33 138 0 (Nat.le_of_ble_eq_true rfl) (fun _ => rfl) rfl h dX11_pack_106 rfl (fun h => ?_)
        refine w_nst h (fun u13 h => ?_)
        refine w_iinc (j := 0) C (v10.2 + 1) [(4, .int (v10.2 + 1)), (3, .int ((x3 + 8) + 80)), (0, .ref (ad 0)), (1, .ref (ad 33))] dX11_pack_107 rfl rfl rfl (by decide) rfl ?_
        refine w_goto (q := 87) C dX11_pack_110 (by decide) ?_
        exact w_sub [0, 1, 2, 3] rfl (hK12 _ h)
    · refine w_aload_n C dX11_pack_62 rfl 3 rfl ?_
      refine w_iload_n C dX11_pack_63 rfl 1 rfl ?_
      refine w_iload C dX11_pack_64 rfl 0 rfl ?_
      refine w_iadd C dX11_pack_66 rfl ?_
      refine w_aload_n C dX11_pack_67 rfl 2 rfl ?_
      refine w_get C 0 13 (Nat.le_of_ble_eq_true rfl) rfl rfl inB_X11 (by decide) tw6_174 rfl dX11_pack_68 rfl ?_
      refine w_iload C dX11_pack_71 rfl 0 rfl ?_
      refine w_iald C 13 160 0 (Nat.le_of_ble_eq_true rfl) (fun _ => rfl) rfl h dX11_pack_73 rfl (fun h => ?_)
      refine w_iast C 33 138 0 (Nat.le_of_ble_eq_true rfl) (fun _ => rfl) rfl h dX11_pack_74 rfl (fun h => ?_)
      refine w_nst h (fun u14 h => ?_)
      refine w_iinc (j := 0) C (v7.2 + 1) [(4, .int (v7.2 + 1)), (3, .int (x3 + 8)), (0, .ref (ad 0)), (1, .ref (ad 33))] dX11_pack_75 rfl rfl rfl (by decide) rfl ?_
      refine w_goto (q := 55) C dX11_pack_78 (by decide) ?_
      exact w_sub [0, 1, 2, 3] rfl (hK9 _ h)
  · refine w_aload_n C dX11_pack_30 rfl 3 rfl ?_
    refine w_iload_n C dX11_pack_31 rfl 1 rfl ?_
    refine w_iload C dX11_pack_32 rfl 0 rfl ?_
    refine w_iadd C dX11_pack_34 rfl ?_
    refine w_aload_n C dX11_pack_35 rfl 2 rfl ?_
    refine w_get C 0 28 (Nat.le_of_ble_eq_true rfl) rfl rfl inB_X11 (by decide) tw6_189 rfl dX11_pack_36 rfl ?_
    refine w_iload C dX11_pack_39 rfl 0 rfl ?_
    refine w_iald C 18 8 0 (Nat.le_of_ble_eq_true rfl) (fun _ => rfl) rfl h dX11_pack_41 rfl (fun h => ?_)
    refine w_iast C 33 138 0 (Nat.le_of_ble_eq_true rfl) (fun _ => rfl) rfl h dX11_pack_42 rfl (fun h => ?_)
    refine w_nst h (fun u15 h => ?_)
    refine w_iinc (j := 0) C (v4.2 + 1) [(4, .int (v4.2 + 1)), (3, .int x3), (0, .ref (ad 0)), (1, .ref (ad 33))] dX11_pack_43 rfl rfl rfl (by decide) rfl ?_
    refine w_goto (q := 23) C dX11_pack_46 (by decide) ?_
    exact w_sub [0, 1, 2, 3] rfl (hK6 _ h)
theorem cfX11_pack_2 (D : va_G) (cI cT : ClassId) (ad : Nat → Nat) {l : Launch} (had : gAp (gM D cI cT ad)) {F : Nat} {σ : St} {a1 : Int32} {σ' : St} (h : fX11_pack_2 F σ a1 = some σ') : MV l yX11_pack (wB yX11_pack cX11_pack 5 none) 0 0 (gM D cI cT ad) [.ref (ad 0), .ref (ad 33), .int a1] σ σ' := mk_MV had (by decide +kernel) (Nat.le_of_ble_eq_true rfl) (fun X hX C hr => wfX11_pack_2 C hr h)

def fX11_unpack_2 (F : Nat) (σ : St) (a1 : Int32) : Option St := ckI (a1) 138 (nm (up σ 0 31 (σ 33 (Int32.toNatClampNeg a1))) fun u2 => ckI (a1 + 1) 138 (nm (up u2 0 32 (u2 33 (Int32.toNatClampNeg (a1 + 1)))) fun u4 => nm (a1 + 2) fun x5 => lp (fun (K7 : (St × Int32) → Option St) (v6 : St × Int32) => if 8 ≤ v6.2 then (lp (fun (K10 : (St × Int32) → Option St) (v9 : St × Int32) => if 80 ≤ v9.2 then (lp (fun (K13 : (St × Int32) → Option St) (v12 : St × Int32) => if 48 ≤ v12.2 then (some v12.1) else ckI (((x5 + 8) + 80) + v12.2) 138 (ckI (v12.2) 48 (nm (up v12.1 19 (Int32.toNatClampNeg v12.2) (v12.1 33 (Int32.toNatClampNeg (((x5 + 8) + 80) + v12.2)))) fun u15 => K13 ((u15, v12.2 + 1))))) F ((v9.1, 0))) else ckI ((x5 + 8) + v9.2) 138 (ckI (v9.2) 160 (nm (up v9.1 13 (Int32.toNatClampNeg v9.2) (v9.1 33 (Int32.toNatClampNeg ((x5 + 8) + v9.2)))) fun u16 => K10 ((u16, v9.2 + 1))))) F ((v6.1, 0))) else ckI (x5 + v6.2) 138 (ckI (v6.2) 8 (nm (up v6.1 18 (Int32.toNatClampNeg v6.2) (v6.1 33 (Int32.toNatClampNeg (x5 + v6.2)))) fun u17 => K7 ((u17, v6.2 + 1))))) F ((u4, 0))))
set_option maxRecDepth 20000 in
theorem wfX11_unpack_2 {X : XT} {D : va_G} {cI cT : ClassId} {ad : Nat → Nat} {F : Nat} {σ : St} {a1 : Int32} {σ' : St} (C : Cx X (gM D cI cT ad) cX11_unpack 5 RX11 0 0 0) (hr : RetV X (gM D cI cT ad) cX11_unpack 5 0 σ') (h : fX11_unpack_2 F σ a1 = some σ') : WP X (gM D cI cT ad) 5 0 0 σ [(0, .ref (ad 0)), (1, .ref (ad 33)), (2, .int a1)] [] := by
  unfold fX11_unpack_2 at h
  refine w_aload_n C dX11_unpack_0 rfl 0 rfl ?_
  refine w_aload_n C dX11_unpack_1 rfl 1 rfl ?_
  refine w_iload_n C dX11_unpack_2 rfl 2 rfl ?_
  refine w_iald C 33 138 0 (Nat.le_of_ble_eq_true rfl) (fun _ => rfl) rfl h dX11_unpack_3 rfl (fun h => ?_)
  refine w_put C 0 31 (σ 33 (Int32.toNatClampNeg a1)) (Nat.le_of_ble_eq_true rfl) rfl rfl inB_X11 tyX11_ok nmX11 (by decide) tw6_192 rfl rfl rfl (Nat.le_of_ble_eq_true rfl) rfl dX11_unpack_4 rfl ?_
  refine w_nst h (fun u2 h => ?_)
  refine w_aload_n C dX11_unpack_7 rfl 0 rfl ?_
  refine w_aload_n C dX11_unpack_8 rfl 1 rfl ?_
  refine w_iload_n C dX11_unpack_9 rfl 2 rfl ?_
  refine w_iconst C 1 dX11_unpack_10 rfl (by decide) ?_
  refine w_iadd C dX11_unpack_11 rfl ?_
  refine w_iald C 33 138 0 (Nat.le_of_ble_eq_true rfl) (fun _ => rfl) rfl h dX11_unpack_12 rfl (fun h => ?_)
  refine w_put C 0 32 (u2 33 (Int32.toNatClampNeg (a1 + 1))) (Nat.le_of_ble_eq_true rfl) rfl rfl inB_X11 tyX11_ok nmX11 (by decide) tw6_193 rfl rfl rfl (Nat.le_of_ble_eq_true rfl) rfl dX11_unpack_13 rfl ?_
  refine w_nst h (fun u4 h => ?_)
  refine w_iload_n C dX11_unpack_16 rfl 2 rfl ?_
  refine w_iconst C 2 dX11_unpack_17 rfl (by decide) ?_
  refine w_iadd C dX11_unpack_18 rfl ?_
  refine w_nm h (fun x5 h => ?_)
  refine w_istore_n C [(3, .int x5), (0, .ref (ad 0)), (1, .ref (ad 33)), (2, .int a1)] dX11_unpack_19 rfl (by decide) rfl ?_
  refine w_iconst C 0 dX11_unpack_20 rfl (by decide) ?_
  refine w_istore C [(4, .int 0), (3, .int x5), (0, .ref (ad 0)), (1, .ref (ad 33)), (2, .int a1)] dX11_unpack_21 rfl (by decide) rfl ?_
  refine w_sub [0, 1, 2, 3] rfl ?_
  refine lp_w (fun v6 : St × Int32 => WP X (gM D cI cT ad) 5 0 23 v6.1 [(4, .int v6.2), (3, .int x5), (0, .ref (ad 0)), (1, .ref (ad 33))] []) (fun K7 hK8 v6 h => ?_) F _ h
  refine w_iload C dX11_unpack_23 rfl 0 rfl ?_
  refine w_bipush C 8 dX11_unpack_25 rfl (by decide) ?_
  refine w_icmp_ge C (qt := 49) dX11_unpack_27 (by decide) rfl h (fun _ h => ?_) (fun _ h => ?_)
  · refine w_iinc (j := 1) C (x5 + 8) [(3, .int (x5 + 8)), (4, .int v6.2), (0, .ref (ad 0)), (1, .ref (ad 33))] dX11_unpack_49 rfl rfl rfl (by decide) rfl ?_
    refine w_iconst C 0 dX11_unpack_52 rfl (by decide) ?_
    refine w_istore C [(4, .int 0), (3, .int (x5 + 8)), (0, .ref (ad 0)), (1, .ref (ad 33))] dX11_unpack_53 rfl (by decide) rfl ?_
    refine w_sub [0, 1, 2, 3] rfl ?_
    refine lp_w (fun v9 : St × Int32 => WP X (gM D cI cT ad) 5 0 55 v9.1 [(4, .int v9.2), (3, .int (x5 + 8)), (0, .ref (ad 0)), (1, .ref (ad 33))] []) (fun K10 hK11 v9 h => ?_) F _ h
    refine w_iload C dX11_unpack_55 rfl 0 rfl ?_
    refine w_bipush C 80 dX11_unpack_57 rfl (by decide) ?_
    refine w_icmp_ge C (qt := 81) dX11_unpack_59 (by decide) rfl h (fun _ h => ?_) (fun _ h => ?_)
    · refine w_iinc (j := 1) C ((x5 + 8) + 80) [(3, .int ((x5 + 8) + 80)), (4, .int v9.2), (0, .ref (ad 0)), (1, .ref (ad 33))] dX11_unpack_81 rfl rfl rfl (by decide) rfl ?_
      refine w_iconst C 0 dX11_unpack_84 rfl (by decide) ?_
      refine w_istore C [(4, .int 0), (3, .int ((x5 + 8) + 80)), (0, .ref (ad 0)), (1, .ref (ad 33))] dX11_unpack_85 rfl (by decide) rfl ?_
      refine w_sub [0, 1, 2, 3] rfl ?_
      refine lp_w (fun v12 : St × Int32 => WP X (gM D cI cT ad) 5 0 87 v12.1 [(4, .int v12.2), (3, .int ((x5 + 8) + 80)), (0, .ref (ad 0)), (1, .ref (ad 33))] []) (fun K13 hK14 v12 h => ?_) F _ h
      refine w_iload C dX11_unpack_87 rfl 0 rfl ?_
      refine w_bipush C 48 dX11_unpack_89 rfl (by decide) ?_
      refine w_icmp_ge C (qt := 113) dX11_unpack_91 (by decide) rfl h (fun _ h => ?_) (fun _ h => ?_)
      · exact w_rv hr h (by decide) dX11_unpack_113
      · refine w_aload_n C dX11_unpack_94 rfl 2 rfl ?_
        refine w_get C 0 29 (Nat.le_of_ble_eq_true rfl) rfl rfl inB_X11 (by decide) tw6_190 rfl dX11_unpack_95 rfl ?_
        refine w_iload C dX11_unpack_98 rfl 0 rfl ?_
        refine w_aload_n C dX11_unpack_100 rfl 3 rfl ?_
        refine w_iload_n C dX11_unpack_101 rfl 1 rfl ?_
        refine w_iload C dX11_unpack_102 rfl 0 rfl ?_
        refine w_iadd C dX11_unpack_104 rfl ?_
        refine w_iald C 33 138 0 (Nat.le_of_ble_eq_true rfl) (fun _ => rfl) rfl h dX11_unpack_105 rfl (fun h => ?_)
        refine w_iast C 19 48 0 (Nat.le_of_ble_eq_true rfl) (fun _ => rfl) rfl h dX11_unpack_106 rfl (fun h => ?_)
        refine w_nst h (fun u15 h => ?_)
        refine w_iinc (j := 0) C (v12.2 + 1) [(4, .int (v12.2 + 1)), (3, .int ((x5 + 8) + 80)), (0, .ref (ad 0)), (1, .ref (ad 33))] dX11_unpack_107 rfl rfl rfl (by decide) rfl ?_
        refine w_goto (q := 87) C dX11_unpack_110 (by decide) ?_
        exact w_sub [0, 1, 2, 3] rfl (hK14 _ h)
    · refine w_aload_n C dX11_unpack_62 rfl 2 rfl ?_
      refine w_get C 0 13 (Nat.le_of_ble_eq_true rfl) rfl rfl inB_X11 (by decide) tw6_174 rfl dX11_unpack_63 rfl ?_
      refine w_iload C dX11_unpack_66 rfl 0 rfl ?_
      refine w_aload_n C dX11_unpack_68 rfl 3 rfl ?_
      refine w_iload_n C dX11_unpack_69 rfl 1 rfl ?_
      refine w_iload C dX11_unpack_70 rfl 0 rfl ?_
      refine w_iadd C dX11_unpack_72 rfl ?_
      refine w_iald C 33 138 0 (Nat.le_of_ble_eq_true rfl) (fun _ => rfl) rfl h dX11_unpack_73 rfl (fun h => ?_)
      refine w_iast C 13 160 0 (Nat.le_of_ble_eq_true rfl) (fun _ => rfl) rfl h dX11_unpack_74 rfl (fun h => ?_)
      refine w_nst h (fun u16 h => ?_)
      refine w_iinc (j := 0) C (v9.2 + 1) [(4, .int (v9.2 + 1)), (3, .int (x5 + 8)), (0, .ref (ad 0)), (1, .ref (ad 33))] dX11_unpack_75 rfl rfl rfl (by decide) rfl ?_
      refine w_goto (q := 55) C dX11_unpack_78 (by decide) ?_
      exact w_sub [0, 1, 2, 3] rfl (hK11 _ h)
  · refine w_aload_n C dX11_unpack_30 rfl 2 rfl ?_
    refine w_get C 0 28 (Nat.le_of_ble_eq_true rfl) rfl rfl inB_X11 (by decide) tw6_189 rfl dX11_unpack_31 rfl ?_
    refine w_iload C dX11_unpack_34 rfl 0 rfl ?_
    refine w_aload_n C dX11_unpack_36 rfl 3 rfl ?_
    refine w_iload_n C dX11_unpack_37 rfl 1 rfl ?_
    refine w_iload C dX11_unpack_38 rfl 0 rfl ?_
    refine w_iadd C dX11_unpack_40 rfl ?_
    refine w_iald C 33 138 0 (Nat.le_of_ble_eq_true rfl) (fun _ => rfl) rfl h dX11_unpack_41 rfl (fun h => ?_)
    refine w_iast C 18 8 0 (Nat.le_of_ble_eq_true rfl) (fun _ => rfl) rfl h dX11_unpack_42 rfl (fun h => ?_)
    refine w_nst h (fun u17 h => ?_)
    refine w_iinc (j := 0) C (v6.2 + 1) [(4, .int (v6.2 + 1)), (3, .int x5), (0, .ref (ad 0)), (1, .ref (ad 33))] dX11_unpack_43 rfl rfl rfl (by decide) rfl ?_
    refine w_goto (q := 23) C dX11_unpack_46 (by decide) ?_
    exact w_sub [0, 1, 2, 3] rfl (hK8 _ h)
theorem cfX11_unpack_2 (D : va_G) (cI cT : ClassId) (ad : Nat → Nat) {l : Launch} (had : gAp (gM D cI cT ad)) {F : Nat} {σ : St} {a1 : Int32} {σ' : St} (h : fX11_unpack_2 F σ a1 = some σ') : MV l yX11_unpack (wB yX11_unpack cX11_unpack 5 none) 0 0 (gM D cI cT ad) [.ref (ad 0), .ref (ad 33), .int a1] σ σ' := mk_MV had (by decide +kernel) (Nat.le_of_ble_eq_true rfl) (fun X hX C hr => wfX11_unpack_2 C hr h)

