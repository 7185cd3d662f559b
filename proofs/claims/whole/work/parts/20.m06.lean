def fX11_mend (F : Nat) (σ : St) (a0 : Int32) (a1 : Int32) : Option (Int32 × St) := nm (up σ 0 4 0) fun u2 => bd1 (fX11_isDance F u2 a0) fun r3 => jn (fun v4 : Unit => bd2 (fX11_fail F u2 1) fun r7 u8 => some (r7, u8)) fun J5 => if r3 = 0 then (J5 (())) else if a1 < 0 then (J5 (())) else if a1 ≤ 1 then (bd2 (fX11_endsWell F u2 a0) fun r9 u10 => if r9 = 0 then (bd2 (fX11_mendFrom F u10 a0 0) fun r11 u12 => if r11 = ((-1)) then (bd2 (fX11_mendTwo F u12 a0) fun r13 u14 => if r13 = ((-1)) then (some ((-1), u14)) else if a1 = 0 then (some (2, u14)) else some (r13, u14)) else if a1 = 0 then (some (1, u12)) else some (r11, u12)) else if a1 = 0 then (some (0, u10)) else some ((-1), u10)) else J5 (())
set_option maxRecDepth 20000 in
theorem wfX11_mend {X : XT} {D : va_G} {cI cT : ClassId} {ad : Nat → Nat} {F : Nat} {σ : St} {a0 : Int32} {a1 : Int32} {r : Int32} {σ' : St} (C : Cx X (gM D cI cT ad) cX11_mend 5 RX11 8 197 0) (hr : RetI X (gM D cI cT ad) cX11_mend 5 0 r σ') (h : fX11_mend F σ a0 a1 = some (r, σ')) : WP X (gM D cI cT ad) 5 0 0 σ [(0, .ref (ad 0)), (1, .int a0), (2, .int a1)] [] := by
  unfold fX11_mend at h
  refine w_aload_n C dX11_mend_0 rfl 0 rfl ?_
  refine w_iconst C 0 dX11_mend_1 rfl (by decide) ?_
  refine w_put C 0 4 0 (Nat.le_of_ble_eq_true rfl) rfl rfl inB_X11 tyX11_ok nmX11 (by decide) tw6_165 rfl rfl rfl (Nat.le_of_ble_eq_true rfl) rfl dX11_mend_2 rfl ?_
  refine w_nst h (fun u2 h => ?_)
  refine w_aload_n C dX11_mend_5 rfl 0 rfl ?_
  refine w_iload_n C dX11_mend_6 rfl 1 rfl ?_
  refine bd1_w h (fun r3 hc h => ?_)
  refine w_callVi C (As := [.int a0]) (st := []) 0 (Nat.le_of_ble_eq_true rfl) rfl rfl (cfX11_isDance D cI cT ad (l := X.2.1) C.2.2.1 hc) tw8_106 cy_X11_isDance (by decide +kernel) ⟨Nat.le_of_ble_eq_true rfl, Nat.le_of_ble_eq_true rfl⟩ (by decide) rfl rfl (Nat.le_of_ble_eq_true rfl) dX11_mend_7 rfl ?_
  refine jn_w (fun v4 : Unit => WP X (gM D cI cT ad) 5 0 22 u2 [(0, .ref (ad 0))] []) h (fun v4 h => ?_) (fun J5 hJ6 h => ?_)
  · refine w_aload_n C dX11_mend_22 rfl 0 rfl ?_
    refine w_iconst C 1 dX11_mend_23 rfl (by decide) ?_
    refine bd2_w h (fun r7 u8 hc h => ?_)
    refine w_callVi C (As := [.int 1]) (st := []) 0 (Nat.le_of_ble_eq_true rfl) rfl rfl (cfX11_fail D cI cT ad (l := X.2.1) C.2.2.1 hc) tw7_117 cy_X11_fail (by decide +kernel) ⟨Nat.le_of_ble_eq_true rfl, Nat.le_of_ble_eq_true rfl⟩ (by decide) rfl rfl (Nat.le_of_ble_eq_true rfl) dX11_mend_24 rfl ?_
    exact w_ri2 hr h (by decide) dX11_mend_27
  · refine w_if_eq C (qt := 22) dX11_mend_10 (by decide) rfl h (fun _ h => ?_) (fun _ h => ?_)
    · exact w_sub [0] rfl (hJ6 _ h)
    · refine w_iload_n C dX11_mend_13 rfl 2 rfl ?_
      refine w_if_lt C (qt := 22) dX11_mend_14 (by decide) rfl h (fun _ h => ?_) (fun _ h => ?_)
      · exact w_sub [0] rfl (hJ6 _ h)
      · refine w_iload_n C dX11_mend_17 rfl 2 rfl ?_
        refine w_iconst C 1 dX11_mend_18 rfl (by decide) ?_
        refine w_icmp_le C (qt := 28) dX11_mend_19 (by decide) rfl h (fun _ h => ?_) (fun _ h => ?_)
        · refine w_aload_n C dX11_mend_28 rfl 0 rfl ?_
          refine w_iload_n C dX11_mend_29 rfl 1 rfl ?_
          refine bd2_w h (fun r9 u10 hc h => ?_)
          refine w_callVi C (As := [.int a0]) (st := []) 0 (Nat.le_of_ble_eq_true rfl) rfl rfl (cfX11_endsWell D cI cT ad (l := X.2.1) C.2.2.1 hc) tw8_12 cy_X11_endsWell (by decide +kernel) ⟨Nat.le_of_ble_eq_true rfl, Nat.le_of_ble_eq_true rfl⟩ (by decide) rfl rfl (Nat.le_of_ble_eq_true rfl) dX11_mend_30 rfl ?_
          refine w_if_eq C (qt := 46) dX11_mend_33 (by decide) rfl h (fun _ h => ?_) (fun _ h => ?_)
          · refine w_aload_n C dX11_mend_46 rfl 0 rfl ?_
            refine w_iload_n C dX11_mend_47 rfl 1 rfl ?_
            refine w_iconst C 0 dX11_mend_48 rfl (by decide) ?_
            refine bd2_w h (fun r11 u12 hc h => ?_)
            refine w_callVi C (As := [.int a0, .int 0]) (st := []) 0 (Nat.le_of_ble_eq_true rfl) rfl rfl (cfX11_mendFrom D cI cT ad (l := X.2.1) C.2.2.1 hc) tw8_200 cy_X11_mendFrom (by decide +kernel) ⟨Nat.le_of_ble_eq_true rfl, Nat.le_of_ble_eq_true rfl⟩ (by decide) rfl rfl (Nat.le_of_ble_eq_true rfl) dX11_mend_49 rfl ?_
            refine w_istore_n C [(3, .int r11), (0, .ref (ad 0)), (1, .int a0), (2, .int a1)] dX11_mend_52 rfl (by decide) rfl ?_
            refine w_iload_n C dX11_mend_53 rfl 0 rfl ?_
            refine w_iconst C (-1) dX11_mend_54 rfl (by decide) ?_
            refine w_icmp_eq C (qt := 68) dX11_mend_55 (by decide) rfl h (fun _ h => ?_) (fun _ h => ?_)
            · refine w_aload_n C dX11_mend_68 rfl 1 rfl ?_
              refine w_iload_n C dX11_mend_69 rfl 2 rfl ?_
              refine bd2_w h (fun r13 u14 hc h => ?_)
              refine w_callVi C (As := [.int a0]) (st := []) 0 (Nat.le_of_ble_eq_true rfl) rfl rfl (cfX11_mendTwo D cI cT ad (l := X.2.1) C.2.2.1 hc) tw8_208 cy_X11_mendTwo (by decide +kernel) ⟨Nat.le_of_ble_eq_true rfl, Nat.le_of_ble_eq_true rfl⟩ (by decide) rfl rfl (Nat.le_of_ble_eq_true rfl) dX11_mend_70 rfl ?_
              refine w_istore C [(4, .int r13), (3, .int r11), (0, .ref (ad 0)), (1, .int a0), (2, .int a1)] dX11_mend_73 rfl (by decide) rfl ?_
              refine w_iload C dX11_mend_75 rfl 0 rfl ?_
              refine w_iconst C (-1) dX11_mend_77 rfl (by decide) ?_
              refine w_icmp_ne C (qt := 85) dX11_mend_78 (by decide) rfl h (fun _ h => ?_) (fun _ h => ?_)
              · refine w_iload_n C dX11_mend_85 rfl 4 rfl ?_
                refine w_if_ne C (qt := 93) dX11_mend_86 (by decide) rfl h (fun _ h => ?_) (fun _ h => ?_)
                · refine w_iload C dX11_mend_93 rfl 0 rfl ?_
                  exact w_ri2 hr h (by decide) dX11_mend_95
                · refine w_iconst C 2 dX11_mend_89 rfl (by decide) ?_
                  refine w_goto (q := 95) C dX11_mend_90 (by decide) ?_
                  exact w_ri2 hr h (by decide) dX11_mend_95
              · refine w_iconst C (-1) dX11_mend_81 rfl (by decide) ?_
                refine w_goto (q := 95) C dX11_mend_82 (by decide) ?_
                exact w_ri2 hr h (by decide) dX11_mend_95
            · refine w_iload_n C dX11_mend_58 rfl 3 rfl ?_
              refine w_if_ne C (qt := 66) dX11_mend_59 (by decide) rfl h (fun _ h => ?_) (fun _ h => ?_)
              · refine w_iload_n C dX11_mend_66 rfl 0 rfl ?_
                exact w_ri2 hr h (by decide) dX11_mend_67
              · refine w_iconst C 1 dX11_mend_62 rfl (by decide) ?_
                refine w_goto (q := 67) C dX11_mend_63 (by decide) ?_
                exact w_ri2 hr h (by decide) dX11_mend_67
          · refine w_iload_n C dX11_mend_36 rfl 2 rfl ?_
            refine w_if_ne C (qt := 44) dX11_mend_37 (by decide) rfl h (fun _ h => ?_) (fun _ h => ?_)
            · refine w_iconst C (-1) dX11_mend_44 rfl (by decide) ?_
              exact w_ri2 hr h (by decide) dX11_mend_45
            · refine w_iconst C 0 dX11_mend_40 rfl (by decide) ?_
              refine w_goto (q := 45) C dX11_mend_41 (by decide) ?_
              exact w_ri2 hr h (by decide) dX11_mend_45
        · exact w_sub [0] rfl (hJ6 _ h)
theorem cfX11_mend (D : va_G) (cI cT : ClassId) (ad : Nat → Nat) {l : Launch} (had : gAp (gM D cI cT ad)) {F : Nat} {σ : St} {a0 : Int32} {a1 : Int32} {r : Int32} {σ' : St} (h : fX11_mend F σ a0 a1 = some (r, σ')) : MI l yX11_mend (wB yX11_mend cX11_mend 5 (some .int)) 8 197 (gM D cI cT ad) [.ref (ad 0), .int a0, .int a1] σ r σ' := mk_MI had (by decide +kernel) (Nat.le_of_ble_eq_true rfl) (fun X hX C hr => wfX11_mend C hr h)

def fX11_costly (F : Nat) (σ : St) (a0 : Int32) : Option (Int32 × St) := nm (up σ 0 4 0) fun u2 => bd1 (fX11_isDance F u2 a0) fun r3 => if r3 = 0 then (bd2 (fX11_fail F u2 1) fun r18 u19 => some (r18, u19)) else lp (fun (K5 : (St × Int32) → Option (Int32 × St)) (v4 : St × Int32) => ckI (a0) 16 (if (v4.1 10 (Int32.toNatClampNeg a0)) ≤ v4.2 then (some ((-1), v4.1)) else bd2 (fX11_isBinding F v4.1 a0) fun r7 u8 => if r7 = 0 then (some ((-1), u8)) else bd1 (fX11_isLimp F u8 a0 v4.2) fun r9 => if r9 = 0 then (K5 ((u8, v4.2 + 1))) else ckI ((10 * a0) + v4.2) 160 (nm (u8 13 (Int32.toNatClampNeg ((10 * a0) + v4.2))) fun x10 => jn (fun v11 : St => if 9 ≤ x10 then (K5 ((v11, v4.2 + 1))) else bd2 (fX11_endsWellBy F v11 a0 v4.2 (x10 + 1)) fun r14 u15 => if r14 = 0 then (some (((10 * v4.2) + x10) + 1, u15)) else K5 ((u15, v4.2 + 1))) fun J12 => if x10 ≤ 0 then (J12 u8) else bd2 (fX11_endsWellBy F u8 a0 v4.2 (x10 - 1)) fun r16 u17 => if r16 = 0 then (some (((10 * v4.2) + x10) - 1, u17)) else J12 u17))) F ((u2, 0))
set_option maxRecDepth 20000 in
theorem wfX11_costly {X : XT} {D : va_G} {cI cT : ClassId} {ad : Nat → Nat} {F : Nat} {σ : St} {a0 : Int32} {r : Int32} {σ' : St} (C : Cx X (gM D cI cT ad) cX11_costly 4 RX11 6 145 0) (hr : RetI X (gM D cI cT ad) cX11_costly 4 0 r σ') (h : fX11_costly F σ a0 = some (r, σ')) : WP X (gM D cI cT ad) 4 0 0 σ [(0, .ref (ad 0)), (1, .int a0)] [] := by
  unfold fX11_costly at h
  refine w_aload_n C dX11_costly_0 rfl 0 rfl ?_
  refine w_iconst C 0 dX11_costly_1 rfl (by decide) ?_
  refine w_put C 0 4 0 (Nat.le_of_ble_eq_true rfl) rfl rfl inB_X11 tyX11_ok nmX11 (by decide) tw6_165 rfl rfl rfl (Nat.le_of_ble_eq_true rfl) rfl dX11_costly_2 rfl ?_
  refine w_nst h (fun u2 h => ?_)
  refine w_aload_n C dX11_costly_5 rfl 0 rfl ?_
  refine w_iload_n C dX11_costly_6 rfl 1 rfl ?_
  refine bd1_w h (fun r3 hc h => ?_)
  refine w_callVi C (As := [.int a0]) (st := []) 0 (Nat.le_of_ble_eq_true rfl) rfl rfl (cfX11_isDance D cI cT ad (l := X.2.1) C.2.2.1 hc) tw8_106 cy_X11_isDance (by decide +kernel) ⟨Nat.le_of_ble_eq_true rfl, Nat.le_of_ble_eq_true rfl⟩ (by decide) rfl rfl (Nat.le_of_ble_eq_true rfl) dX11_costly_7 rfl ?_
  refine w_if_ne C (qt := 19) dX11_costly_10 (by decide) rfl h (fun _ h => ?_) (fun _ h => ?_)
  · refine w_iconst C 0 dX11_costly_19 rfl (by decide) ?_
    refine w_istore_n C [(2, .int 0), (0, .ref (ad 0)), (1, .int a0)] dX11_costly_20 rfl (by decide) rfl ?_
    refine w_sub [0, 1, 2] rfl ?_
    refine lp_w (fun v4 : St × Int32 => WP X (gM D cI cT ad) 4 0 21 v4.1 [(2, .int v4.2), (0, .ref (ad 0)), (1, .int a0)] []) (fun K5 hK6 v4 h => ?_) F _ h
    refine w_iload_n C dX11_costly_21 rfl 0 rfl ?_
    refine w_aload_n C dX11_costly_22 rfl 1 rfl ?_
    refine w_get C 0 10 (Nat.le_of_ble_eq_true rfl) rfl rfl inB_X11 (by decide) tw6_171 rfl dX11_costly_23 rfl ?_
    refine w_iload_n C dX11_costly_26 rfl 2 rfl ?_
    refine w_iald C 10 16 0 (Nat.le_of_ble_eq_true rfl) (fun _ => rfl) rfl h dX11_costly_27 rfl (fun h => ?_)
    refine w_icmp_ge C (qt := 121) dX11_costly_28 (by decide) rfl h (fun _ h => ?_) (fun _ h => ?_)
    · refine w_iconst C (-1) dX11_costly_121 rfl (by decide) ?_
      exact w_ri2 hr h (by decide) dX11_costly_122
    · refine w_aload_n C dX11_costly_31 rfl 1 rfl ?_
      refine w_iload_n C dX11_costly_32 rfl 2 rfl ?_
      refine bd2_w h (fun r7 u8 hc h => ?_)
      refine w_callVi C (As := [.int a0]) (st := []) 0 (Nat.le_of_ble_eq_true rfl) rfl rfl (cfX11_isBinding D cI cT ad (l := X.2.1) C.2.2.1 hc) tw8_5 cy_X11_isBinding (by decide +kernel) ⟨Nat.le_of_ble_eq_true rfl, Nat.le_of_ble_eq_true rfl⟩ (by decide) rfl rfl (Nat.le_of_ble_eq_true rfl) dX11_costly_33 rfl ?_
      refine w_if_eq C (qt := 121) dX11_costly_36 (by decide) rfl h (fun _ h => ?_) (fun _ h => ?_)
      · refine w_iconst C (-1) dX11_costly_121 rfl (by decide) ?_
        exact w_ri2 hr h (by decide) dX11_costly_122
      · refine w_aload_n C dX11_costly_39 rfl 1 rfl ?_
        refine w_iload_n C dX11_costly_40 rfl 2 rfl ?_
        refine w_iload_n C dX11_costly_41 rfl 0 rfl ?_
        refine bd1_w h (fun r9 hc h => ?_)
        refine w_callVi C (As := [.int a0, .int v4.2]) (st := []) 0 (Nat.le_of_ble_eq_true rfl) rfl rfl (cfX11_isLimp D cI cT ad (l := X.2.1) C.2.2.1 hc) tw8_179 cy_X11_isLimp (by decide +kernel) ⟨Nat.le_of_ble_eq_true rfl, Nat.le_of_ble_eq_true rfl⟩ (by decide) rfl rfl (Nat.le_of_ble_eq_true rfl) dX11_costly_42 rfl ?_
        refine w_if_ne C (qt := 51) dX11_costly_45 (by decide) rfl h (fun _ h => ?_) (fun _ h => ?_)
        · refine w_aload_n C dX11_costly_51 rfl 1 rfl ?_
          refine w_get C 0 13 (Nat.le_of_ble_eq_true rfl) rfl rfl inB_X11 (by decide) tw6_174 rfl dX11_costly_52 rfl ?_
          refine w_bipush C 10 dX11_costly_55 rfl (by decide) ?_
          refine w_iload_n C dX11_costly_57 rfl 2 rfl ?_
          refine w_imul C dX11_costly_58 rfl ?_
          refine w_iload_n C dX11_costly_59 rfl 0 rfl ?_
          refine w_iadd C dX11_costly_60 rfl ?_
          refine w_iald C 13 160 0 (Nat.le_of_ble_eq_true rfl) (fun _ => rfl) rfl h dX11_costly_61 rfl (fun h => ?_)
          refine w_nm h (fun x10 h => ?_)
          refine w_istore_n C [(3, .int x10), (2, .int v4.2), (0, .ref (ad 0)), (1, .int a0)] dX11_costly_62 rfl (by decide) rfl ?_
          refine w_iload_n C dX11_costly_63 rfl 0 rfl ?_
          refine jn_w (fun v11 : St => WP X (gM D cI cT ad) 4 0 88 v11 [(3, .int x10), (2, .int v4.2), (0, .ref (ad 0)), (1, .int a0)] []) h (fun v11 h => ?_) (fun J12 hJ13 h => ?_)
          · refine w_iload_n C dX11_costly_88 rfl 0 rfl ?_
            refine w_bipush C 9 dX11_costly_89 rfl (by decide) ?_
            refine w_icmp_ge C (qt := 115) dX11_costly_91 (by decide) rfl h (fun _ h => ?_) (fun _ h => ?_)
            · refine w_iinc (j := 1) C (v4.2 + 1) [(2, .int (v4.2 + 1)), (3, .int x10), (0, .ref (ad 0)), (1, .int a0)] dX11_costly_115 rfl rfl rfl (by decide) rfl ?_
              refine w_goto (q := 21) C dX11_costly_118 (by decide) ?_
              exact w_sub [0, 2, 3] rfl (hK6 _ h)
            · refine w_aload_n C dX11_costly_94 rfl 2 rfl ?_
              refine w_iload_n C dX11_costly_95 rfl 3 rfl ?_
              refine w_iload_n C dX11_costly_96 rfl 1 rfl ?_
              refine w_iload_n C dX11_costly_97 rfl 0 rfl ?_
              refine w_iconst C 1 dX11_costly_98 rfl (by decide) ?_
              refine w_iadd C dX11_costly_99 rfl ?_
              refine bd2_w h (fun r14 u15 hc h => ?_)
              refine w_callVi C (As := [.int a0, .int v4.2, .int (x10 + 1)]) (st := []) 0 (Nat.le_of_ble_eq_true rfl) rfl rfl (cfX11_endsWellBy D cI cT ad (l := X.2.1) C.2.2.1 hc) tw8_204 cy_X11_endsWellBy (by decide +kernel) ⟨Nat.le_of_ble_eq_true rfl, Nat.le_of_ble_eq_true rfl⟩ (by decide) rfl rfl (Nat.le_of_ble_eq_true rfl) dX11_costly_100 rfl ?_
              refine w_if_ne C (qt := 115) dX11_costly_103 (by decide) rfl h (fun _ h => ?_) (fun _ h => ?_)
              · refine w_iinc (j := 1) C (v4.2 + 1) [(2, .int (v4.2 + 1)), (3, .int x10), (0, .ref (ad 0)), (1, .int a0)] dX11_costly_115 rfl rfl rfl (by decide) rfl ?_
                refine w_goto (q := 21) C dX11_costly_118 (by decide) ?_
                exact w_sub [0, 2, 3] rfl (hK6 _ h)
              · refine w_bipush C 10 dX11_costly_106 rfl (by decide) ?_
                refine w_iload_n C dX11_costly_108 rfl 1 rfl ?_
                refine w_imul C dX11_costly_109 rfl ?_
                refine w_iload_n C dX11_costly_110 rfl 0 rfl ?_
                refine w_iadd C dX11_costly_111 rfl ?_
                refine w_iconst C 1 dX11_costly_112 rfl (by decide) ?_
                refine w_iadd C dX11_costly_113 rfl ?_
                exact w_ri2 hr h (by decide) dX11_costly_114
          · refine w_if_le C (qt := 88) dX11_costly_64 (by decide) rfl h (fun _ h => ?_) (fun _ h => ?_)
            · exact w_sub [0, 1, 2, 3] rfl (hJ13 _ h)
            · refine w_aload_n C dX11_costly_67 rfl 2 rfl ?_
              refine w_iload_n C dX11_costly_68 rfl 3 rfl ?_
              refine w_iload_n C dX11_costly_69 rfl 1 rfl ?_
              refine w_iload_n C dX11_costly_70 rfl 0 rfl ?_
              refine w_iconst C 1 dX11_costly_71 rfl (by decide) ?_
              refine w_isub C dX11_costly_72 rfl ?_
              refine bd2_w h (fun r16 u17 hc h => ?_)
              refine w_callVi C (As := [.int a0, .int v4.2, .int (x10 - 1)]) (st := []) 0 (Nat.le_of_ble_eq_true rfl) rfl rfl (cfX11_endsWellBy D cI cT ad (l := X.2.1) C.2.2.1 hc) tw8_204 cy_X11_endsWellBy (by decide +kernel) ⟨Nat.le_of_ble_eq_true rfl, Nat.le_of_ble_eq_true rfl⟩ (by decide) rfl rfl (Nat.le_of_ble_eq_true rfl) dX11_costly_73 rfl ?_
              refine w_if_ne C (qt := 88) dX11_costly_76 (by decide) rfl h (fun _ h => ?_) (fun _ h => ?_)
              · exact w_sub [0, 1, 2, 3] rfl (hJ13 _ h)
              · refine w_bipush C 10 dX11_costly_79 rfl (by decide) ?_
                refine w_iload_n C dX11_costly_81 rfl 1 rfl ?_
                refine w_imul C dX11_costly_82 rfl ?_
                refine w_iload_n C dX11_costly_83 rfl 0 rfl ?_
                refine w_iadd C dX11_costly_84 rfl ?_
                refine w_iconst C 1 dX11_costly_85 rfl (by decide) ?_
                refine w_isub C dX11_costly_86 rfl ?_
                exact w_ri2 hr h (by decide) dX11_costly_87
        · refine w_goto (q := 115) C dX11_costly_48 (by decide) ?_
          refine w_iinc (j := 0) C (v4.2 + 1) [(2, .int (v4.2 + 1)), (0, .ref (ad 0)), (1, .int a0)] dX11_costly_115 rfl rfl rfl (by decide) rfl ?_
          refine w_goto (q := 21) C dX11_costly_118 (by decide) ?_
          exact w_sub [0, 1, 2] rfl (hK6 _ h)
  · refine w_aload_n C dX11_costly_13 rfl 0 rfl ?_
    refine w_iconst C 1 dX11_costly_14 rfl (by decide) ?_
    refine bd2_w h (fun r18 u19 hc h => ?_)
    refine w_callVi C (As := [.int 1]) (st := []) 0 (Nat.le_of_ble_eq_true rfl) rfl rfl (cfX11_fail D cI cT ad (l := X.2.1) C.2.2.1 hc) tw7_117 cy_X11_fail (by decide +kernel) ⟨Nat.le_of_ble_eq_true rfl, Nat.le_of_ble_eq_true rfl⟩ (by decide) rfl rfl (Nat.le_of_ble_eq_true rfl) dX11_costly_15 rfl ?_
    exact w_ri2 hr h (by decide) dX11_costly_18
theorem cfX11_costly (D : va_G) (cI cT : ClassId) (ad : Nat → Nat) {l : Launch} (had : gAp (gM D cI cT ad)) {F : Nat} {σ : St} {a0 : Int32} {r : Int32} {σ' : St} (h : fX11_costly F σ a0 = some (r, σ')) : MI l yX11_costly (wB yX11_costly cX11_costly 4 (some .int)) 6 145 (gM D cI cT ad) [.ref (ad 0), .int a0] σ r σ' := mk_MI had (by decide +kernel) (Nat.le_of_ble_eq_true rfl) (fun X hX C hr => wfX11_costly C hr h)

def fX11_later (F : Nat) (σ : St) (a0 : Int32) : Option (Int32 × St) := nm (up σ 0 4 0) fun u2 => bd1 (fX11_isIn F u2 (Int32.toInt64 a0) 0 99) fun r3 => if r3 = 0 then (bd2 (fX11_fail F u2 1) fun r11 u12 => some (r11, u12)) else nm (up u2 0 38 a0) fun u5 => bd2 (fX11_binding F u5) fun r6 u7 => bd1 (fX11_bitsOf F u7 r6) fun r8 => nm (up u7 0 38 0) fun u10 => some (r8, u10)
set_option maxRecDepth 20000 in
theorem wfX11_later {X : XT} {D : va_G} {cI cT : ClassId} {ad : Nat → Nat} {F : Nat} {σ : St} {a0 : Int32} {r : Int32} {σ' : St} (C : Cx X (gM D cI cT ad) cX11_later 3 RX11 7 162 0) (hr : RetI X (gM D cI cT ad) cX11_later 3 0 r σ') (h : fX11_later F σ a0 = some (r, σ')) : WP X (gM D cI cT ad) 3 0 0 σ [(0, .ref (ad 0)), (1, .int a0)] [] := by
  unfold fX11_later at h
  refine w_aload_n C dX11_later_0 rfl 0 rfl ?_
  refine w_iconst C 0 dX11_later_1 rfl (by decide) ?_
  refine w_put C 0 4 0 (Nat.le_of_ble_eq_true rfl) rfl rfl inB_X11 tyX11_ok nmX11 (by decide) tw6_165 rfl rfl rfl (Nat.le_of_ble_eq_true rfl) rfl dX11_later_2 rfl ?_
  refine w_nst h (fun u2 h => ?_)
  refine w_iload_n C dX11_later_5 rfl 1 rfl ?_
  refine w_i2l C dX11_later_6 rfl ?_
  refine w_lconst C 0 dX11_later_7 rfl (by decide) ?_
  refine w_ldc2 C (99) dX11_later_8 rfl tw8_187 ?_
  refine bd1_w h (fun r3 hc h => ?_)
  refine w_callSi C (As := [.long (Int32.toInt64 a0), .long 0, .long 99]) (st := []) (cfX11_isIn D cI cT ad (l := X.2.1) C.2.2.1 hc) tw8_99 cs_X11_isIn (by decide +kernel) ⟨Nat.le_of_ble_eq_true rfl, Nat.le_of_ble_eq_true rfl⟩ (by decide) rfl rfl (Nat.le_of_ble_eq_true rfl) dX11_later_11 rfl ?_
  refine w_if_ne C (qt := 23) dX11_later_14 (by decide) rfl h (fun _ h => ?_) (fun _ h => ?_)
  · refine w_aload_n C dX11_later_23 rfl 0 rfl ?_
    refine w_iload_n C dX11_later_24 rfl 1 rfl ?_
    refine w_put C 0 38 a0 (Nat.le_of_ble_eq_true rfl) rfl rfl inB_X11 tyX11_ok nmX11 (by decide) tw6_199 rfl rfl rfl (Nat.le_of_ble_eq_true rfl) rfl dX11_later_25 rfl ?_
    refine w_nst h (fun u5 h => ?_)
    refine w_aload_n C dX11_later_28 rfl 0 rfl ?_
    refine bd2_w h (fun r6 u7 hc h => ?_)
    refine w_callVi C (As := []) (st := []) 0 (Nat.le_of_ble_eq_true rfl) rfl rfl (cfX11_binding D cI cT ad (l := X.2.1) C.2.2.1 hc) tw8_1 cy_X11_binding (by decide +kernel) ⟨Nat.le_of_ble_eq_true rfl, Nat.le_of_ble_eq_true rfl⟩ (by decide) rfl rfl (Nat.le_of_ble_eq_true rfl) dX11_later_29 rfl ?_
    refine bd1_w h (fun r8 hc h => ?_)
    refine w_callSi C (As := [.int r6]) (st := []) (cfX11_bitsOf D cI cT ad (l := X.2.1) C.2.2.1 hc) tw8_224 cs_X11_bitsOf (by decide +kernel) ⟨Nat.le_of_ble_eq_true rfl, Nat.le_of_ble_eq_true rfl⟩ (by decide) rfl rfl (Nat.le_of_ble_eq_true rfl) dX11_later_32 rfl ?_
    refine w_istore_n C [(2, .int r8), (0, .ref (ad 0)), (1, .int a0)] dX11_later_35 rfl (by decide) rfl ?_
    refine w_aload_n C dX11_later_36 rfl 1 rfl ?_
    refine w_iconst C 0 dX11_later_37 rfl (by decide) ?_
    refine w_put C 0 38 0 (Nat.le_of_ble_eq_true rfl) rfl rfl inB_X11 tyX11_ok nmX11 (by decide) tw6_199 rfl rfl rfl (Nat.le_of_ble_eq_true rfl) rfl dX11_later_38 rfl ?_
    refine w_nst h (fun u10 h => ?_)
    refine w_iload_n C dX11_later_41 rfl 0 rfl ?_
    exact w_ri2 hr h (by decide) dX11_later_42
  · refine w_aload_n C dX11_later_17 rfl 0 rfl ?_
    refine w_iconst C 1 dX11_later_18 rfl (by decide) ?_
    refine bd2_w h (fun r11 u12 hc h => ?_)
    refine w_callVi C (As := [.int 1]) (st := []) 0 (Nat.le_of_ble_eq_true rfl) rfl rfl (cfX11_fail D cI cT ad (l := X.2.1) C.2.2.1 hc) tw7_117 cy_X11_fail (by decide +kernel) ⟨Nat.le_of_ble_eq_true rfl, Nat.le_of_ble_eq_true rfl⟩ (by decide) rfl rfl (Nat.le_of_ble_eq_true rfl) dX11_later_19 rfl ?_
    exact w_ri2 hr h (by decide) dX11_later_22
theorem cfX11_later (D : va_G) (cI cT : ClassId) (ad : Nat → Nat) {l : Launch} (had : gAp (gM D cI cT ad)) {F : Nat} {σ : St} {a0 : Int32} {r : Int32} {σ' : St} (h : fX11_later F σ a0 = some (r, σ')) : MI l yX11_later (wB yX11_later cX11_later 3 (some .int)) 7 162 (gM D cI cT ad) [.ref (ad 0), .int a0] σ r σ' := mk_MI had (by decide +kernel) (Nat.le_of_ble_eq_true rfl) (fun X hX C hr => wfX11_later C hr h)

def fX11_inTime (F : Nat) (σ : St) (a0 : Int32) (a1 : Int32) : Option (Int32 × St) := nm (up σ 0 4 0) fun u2 => bd1 (fX11_isDance F u2 a0) fun r3 => if r3 = 0 then (bd2 (fX11_fail F u2 1) fun r22 u23 => some (r22, u23)) else bd1 (fX11_isIn F u2 (Int32.toInt64 a1) 1 4) fun r4 => if r4 = 0 then (bd2 (fX11_fail F u2 2) fun r20 u21 => some (r20, u21)) else lp (fun (K6 : (St × Int32 × Int32) → Option (Int32 × St)) (v5 : St × Int32 × Int32) => ckI (a0) 16 (if (v5.1 10 (Int32.toNatClampNeg a0)) ≤ v5.2.1 then (some (v5.2.2, v5.1)) else bd2 (fX11_isBinding F v5.1 a0) fun r8 u9 => if r8 = 0 then (some (v5.2.2, u9)) else lp (fun (K11 : (St × Int32 × Int32) → Option (Int32 × St)) (v10 : St × Int32 × Int32) => if 2 ≤ v10.2.1 then (if v10.2.2 = 0 then (nm (v5.2.2 + 0) fun x13 => K6 ((v10.1, v5.2.1 + 1, x13))) else nm (v5.2.2 + 1) fun x14 => K6 ((v10.1, v5.2.1 + 1, x14))) else if v10.2.2 = 0 then (bd1 (fX11_binds F v10.1 a0 v5.2.1 v10.2.1) fun r15 => if r15 = 0 then (K11 ((v10.1, v10.2.1 + 1, 0))) else bd2 (fX11_limitOf F v10.1 a0 v5.2.1 v10.2.1 a1) fun r16 u17 => ckI (a0) 16 (bd2 (fX11_limitOf F u17 a0 v5.2.1 v10.2.1 (u17 9 (Int32.toNatClampNeg a0))) fun r18 u19 => if r16 = r18 then (K11 ((u19, v10.2.1 + 1, 0))) else K11 ((u19, v10.2.1 + 1, 1)))) else K11 ((v10.1, v10.2.1 + 1, 1))) F ((u9, 0, 0)))) F ((u2, 0, 0))
set_option maxRecDepth 20000 in
theorem wfX11_inTime {X : XT} {D : va_G} {cI cT : ClassId} {ad : Nat → Nat} {F : Nat} {σ : St} {a0 : Int32} {a1 : Int32} {r : Int32} {σ' : St} (C : Cx X (gM D cI cT ad) cX11_inTime 7 RX11 6 140 0) (hr : RetI X (gM D cI cT ad) cX11_inTime 7 0 r σ') (h : fX11_inTime F σ a0 a1 = some (r, σ')) : WP X (gM D cI cT ad) 7 0 0 σ [(0, .ref (ad 0)), (1, .int a0), (2, .int a1)] [] := by
  unfold fX11_inTime at h
  refine w_aload_n C dX11_inTime_0 rfl 0 rfl ?_
  refine w_iconst C 0 dX11_inTime_1 rfl (by decide) ?_
  refine w_put C 0 4 0 (Nat.le_of_ble_eq_true rfl) rfl rfl inB_X11 tyX11_ok nmX11 (by decide) tw6_165 rfl rfl rfl (Nat.le_of_ble_eq_true rfl) rfl dX11_inTime_2 rfl ?_
  refine w_nst h (fun u2 h => ?_)
  refine w_aload_n C dX11_inTime_5 rfl 0 rfl ?_
  refine w_iload_n C dX11_inTime_6 rfl 1 rfl ?_
  refine bd1_w h (fun r3 hc h => ?_)
  refine w_callVi C (As := [.int a0]) (st := []) 0 (Nat.le_of_ble_eq_true rfl) rfl rfl (cfX11_isDance D cI cT ad (l := X.2.1) C.2.2.1 hc) tw8_106 cy_X11_isDance (by decide +kernel) ⟨Nat.le_of_ble_eq_true rfl, Nat.le_of_ble_eq_true rfl⟩ (by decide) rfl rfl (Nat.le_of_ble_eq_true rfl) dX11_inTime_7 rfl ?_
  refine w_if_ne C (qt := 19) dX11_inTime_10 (by decide) rfl h (fun _ h => ?_) (fun _ h => ?_)
  · refine w_iload_n C dX11_inTime_19 rfl 2 rfl ?_
    refine w_i2l C dX11_inTime_20 rfl ?_
    refine w_lconst C 1 dX11_inTime_21 rfl (by decide) ?_
    refine w_ldc2 C (4) dX11_inTime_22 rfl tw8_231 ?_
    refine bd1_w h (fun r4 hc h => ?_)
    refine w_callSi C (As := [.long (Int32.toInt64 a1), .long 1, .long 4]) (st := []) (cfX11_isIn D cI cT ad (l := X.2.1) C.2.2.1 hc) tw8_99 cs_X11_isIn (by decide +kernel) ⟨Nat.le_of_ble_eq_true rfl, Nat.le_of_ble_eq_true rfl⟩ (by decide) rfl rfl (Nat.le_of_ble_eq_true rfl) dX11_inTime_25 rfl ?_
    refine w_if_ne C (qt := 37) dX11_inTime_28 (by decide) rfl h (fun _ h => ?_) (fun _ h => ?_)
    · refine w_iconst C 0 dX11_inTime_37 rfl (by decide) ?_
      refine w_istore_n C [(3, .int 0), (0, .ref (ad 0)), (1, .int a0), (2, .int a1)] dX11_inTime_38 rfl (by decide) rfl ?_
      refine w_iconst C 0 dX11_inTime_39 rfl (by decide) ?_
      refine w_istore C [(4, .int 0), (3, .int 0), (0, .ref (ad 0)), (1, .int a0), (2, .int a1)] dX11_inTime_40 rfl (by decide) rfl ?_
      refine w_sub [0, 1, 2, 3, 4] rfl ?_
      refine lp_w (fun v5 : St × Int32 × Int32 => WP X (gM D cI cT ad) 7 0 42 v5.1 [(4, .int v5.2.1), (3, .int v5.2.2), (0, .ref (ad 0)), (1, .int a0), (2, .int a1)] []) (fun K6 hK7 v5 h => ?_) F _ h
      refine w_iload C dX11_inTime_42 rfl 0 rfl ?_
      refine w_aload_n C dX11_inTime_44 rfl 2 rfl ?_
      refine w_get C 0 10 (Nat.le_of_ble_eq_true rfl) rfl rfl inB_X11 (by decide) tw6_171 rfl dX11_inTime_45 rfl ?_
      refine w_iload_n C dX11_inTime_48 rfl 3 rfl ?_
      refine w_iald C 10 16 0 (Nat.le_of_ble_eq_true rfl) (fun _ => rfl) rfl h dX11_inTime_49 rfl (fun h => ?_)
      refine w_icmp_ge C (qt := 150) dX11_inTime_50 (by decide) rfl h (fun _ h => ?_) (fun _ h => ?_)
      · refine w_iload_n C dX11_inTime_150 rfl 1 rfl ?_
        exact w_ri2 hr h (by decide) dX11_inTime_151
      · refine w_aload_n C dX11_inTime_53 rfl 2 rfl ?_
        refine w_iload_n C dX11_inTime_54 rfl 3 rfl ?_
        refine bd2_w h (fun r8 u9 hc h => ?_)
        refine w_callVi C (As := [.int a0]) (st := []) 0 (Nat.le_of_ble_eq_true rfl) rfl rfl (cfX11_isBinding D cI cT ad (l := X.2.1) C.2.2.1 hc) tw8_5 cy_X11_isBinding (by decide +kernel) ⟨Nat.le_of_ble_eq_true rfl, Nat.le_of_ble_eq_true rfl⟩ (by decide) rfl rfl (Nat.le_of_ble_eq_true rfl) dX11_inTime_55 rfl ?_
        refine w_if_eq C (qt := 150) dX11_inTime_58 (by decide) rfl h (fun _ h => ?_) (fun _ h => ?_)
        · refine w_iload_n C dX11_inTime_150 rfl 1 rfl ?_
          exact w_ri2 hr h (by decide) dX11_inTime_151
        · refine w_iconst C 0 dX11_inTime_61 rfl (by decide) ?_
          refine w_istore C [(5, .int 0), (4, .int v5.2.1), (3, .int v5.2.2), (0, .ref (ad 0)), (1, .int a0), (2, .int a1)] dX11_inTime_62 rfl (by decide) rfl ?_
          refine w_iconst C 0 dX11_inTime_64 rfl (by decide) ?_
          refine w_istore C [(6, .int 0), (5, .int 0), (4, .int v5.2.1), (3, .int v5.2.2), (0, .ref (ad 0)), (1, .int a0), (2, .int a1)] dX11_inTime_65 rfl (by decide) rfl ?_
          refine w_sub [0, 1, 2, 3, 4, 5, 6] rfl ?_
          refine lp_w (fun v10 : St × Int32 × Int32 => WP X (gM D cI cT ad) 7 0 67 v10.1 [(6, .int v10.2.1), (5, .int v10.2.2), (4, .int v5.2.1), (3, .int v5.2.2), (0, .ref (ad 0)), (1, .int a0), (2, .int a1)] []) (fun K11 hK12 v10 h => ?_) F _ h
          refine w_iload C dX11_inTime_67 rfl 0 rfl ?_
          refine w_iconst C 2 dX11_inTime_69 rfl (by decide) ?_
          refine w_icmp_ge C (qt := 131) dX11_inTime_70 (by decide) rfl h (fun _ h => ?_) (fun _ h => ?_)
          · refine w_iload_n C dX11_inTime_131 rfl 3 rfl ?_
            refine w_iload C dX11_inTime_132 rfl 1 rfl ?_
            refine w_if_eq C (qt := 141) dX11_inTime_134 (by decide) rfl h (fun _ h => ?_) (fun _ h => ?_)
            · refine w_iconst C 0 dX11_inTime_141 rfl (by decide) ?_
              refine w_iadd C dX11_inTime_142 rfl ?_
              refine w_nm h (fun x13 h => ?_)
              refine w_istore_n C [(3, .int x13), (6, .int v10.2.1), (5, .int v10.2.2), (4, .int v5.2.1), (0, .ref (ad 0)), (1, .int a0), (2, .int a1)] dX11_inTime_143 rfl (by decide) rfl ?_
              refine w_iinc (j := 3) C (v5.2.1 + 1) [(4, .int (v5.2.1 + 1)), (3, .int x13), (6, .int v10.2.1), (5, .int v10.2.2), (0, .ref (ad 0)), (1, .int a0), (2, .int a1)] dX11_inTime_144 rfl rfl rfl (by decide) rfl ?_
              refine w_goto (q := 42) C dX11_inTime_147 (by decide) ?_
              exact w_sub [0, 1, 4, 5, 6] rfl (hK7 _ h)
            · refine w_iconst C 1 dX11_inTime_137 rfl (by decide) ?_
              refine w_goto (q := 142) C dX11_inTime_138 (by decide) ?_
              refine w_iadd C dX11_inTime_142 rfl ?_
              refine w_nm h (fun x14 h => ?_)
              refine w_istore_n C [(3, .int x14), (6, .int v10.2.1), (5, .int v10.2.2), (4, .int v5.2.1), (0, .ref (ad 0)), (1, .int a0), (2, .int a1)] dX11_inTime_143 rfl (by decide) rfl ?_
              refine w_iinc (j := 3) C (v5.2.1 + 1) [(4, .int (v5.2.1 + 1)), (3, .int x14), (6, .int v10.2.1), (5, .int v10.2.2), (0, .ref (ad 0)), (1, .int a0), (2, .int a1)] dX11_inTime_144 rfl rfl rfl (by decide) rfl ?_
              refine w_goto (q := 42) C dX11_inTime_147 (by decide) ?_
              exact w_sub [0, 1, 4, 5, 6] rfl (hK7 _ h)
          · refine w_iload C dX11_inTime_73 rfl 1 rfl ?_
            refine w_if_ne C (qt := 118) dX11_inTime_75 (by decide) rfl h (fun _ h => ?_) (fun _ h => ?_)
            · refine w_iconst C 1 dX11_inTime_118 rfl (by decide) ?_
              refine w_goto (q := 123) C dX11_inTime_119 (by decide) ?_
              refine w_istore C [(5, .int 1), (6, .int v10.2.1), (4, .int v5.2.1), (3, .int v5.2.2), (0, .ref (ad 0)), (1, .int a0), (2, .int a1)] dX11_inTime_123 rfl (by decide) rfl ?_
              refine w_iinc (j := 1) C (v10.2.1 + 1) [(6, .int (v10.2.1 + 1)), (5, .int 1), (4, .int v5.2.1), (3, .int v5.2.2), (0, .ref (ad 0)), (1, .int a0), (2, .int a1)] dX11_inTime_125 rfl rfl rfl (by decide) rfl ?_
              refine w_goto (q := 67) C dX11_inTime_128 (by decide) ?_
              exact w_sub [0, 1, 2, 3, 4, 5, 6] rfl (hK12 _ h)
            · refine w_aload_n C dX11_inTime_78 rfl 4 rfl ?_
              refine w_iload_n C dX11_inTime_79 rfl 5 rfl ?_
              refine w_iload C dX11_inTime_80 rfl 2 rfl ?_
              refine w_iload C dX11_inTime_82 rfl 0 rfl ?_
              refine bd1_w h (fun r15 hc h => ?_)
              refine w_callVi C (As := [.int a0, .int v5.2.1, .int v10.2.1]) (st := []) 0 (Nat.le_of_ble_eq_true rfl) rfl rfl (cfX11_binds D cI cT ad (l := X.2.1) C.2.2.1 hc) tw8_64 cy_X11_binds (by decide +kernel) ⟨Nat.le_of_ble_eq_true rfl, Nat.le_of_ble_eq_true rfl⟩ (by decide) rfl rfl (Nat.le_of_ble_eq_true rfl) dX11_inTime_84 rfl ?_
              refine w_if_eq C (qt := 122) dX11_inTime_87 (by decide) rfl h (fun _ h => ?_) (fun _ h => ?_)
              · refine w_iconst C 0 dX11_inTime_122 rfl (by decide) ?_
                refine w_istore C [(5, .int 0), (6, .int v10.2.1), (4, .int v5.2.1), (3, .int v5.2.2), (0, .ref (ad 0)), (1, .int a0), (2, .int a1)] dX11_inTime_123 rfl (by decide) rfl ?_
                refine w_iinc (j := 1) C (v10.2.1 + 1) [(6, .int (v10.2.1 + 1)), (5, .int 0), (4, .int v5.2.1), (3, .int v5.2.2), (0, .ref (ad 0)), (1, .int a0), (2, .int a1)] dX11_inTime_125 rfl rfl rfl (by decide) rfl ?_
                refine w_goto (q := 67) C dX11_inTime_128 (by decide) ?_
                exact w_sub [0, 1, 2, 3, 4, 5, 6] rfl (hK12 _ h)
              · refine w_aload_n C dX11_inTime_90 rfl 4 rfl ?_
                refine w_iload_n C dX11_inTime_91 rfl 5 rfl ?_
                refine w_iload C dX11_inTime_92 rfl 2 rfl ?_
                refine w_iload C dX11_inTime_94 rfl 0 rfl ?_
                refine w_iload_n C dX11_inTime_96 rfl 6 rfl ?_
                refine bd2_w h (fun r16 u17 hc h => ?_)
                refine w_callVi C (As := [.int a0, .int v5.2.1, .int v10.2.1, .int a1]) (st := []) 0 (Nat.le_of_ble_eq_true rfl) rfl rfl (cfX11_limitOf D cI cT ad (l := X.2.1) C.2.2.1 hc) tw8_80 cy_X11_limitOf (by decide +kernel) ⟨Nat.le_of_ble_eq_true rfl, Nat.le_of_ble_eq_true rfl⟩ (by decide) rfl rfl (Nat.le_of_ble_eq_true rfl) dX11_inTime_97 rfl ?_
                refine w_aload_n C dX11_inTime_100 rfl 4 rfl ?_
                refine w_iload_n C dX11_inTime_101 rfl 5 rfl ?_
                refine w_iload C dX11_inTime_102 rfl 2 rfl ?_
                refine w_iload C dX11_inTime_104 rfl 0 rfl ?_
                refine w_aload_n C dX11_inTime_106 rfl 4 rfl ?_
                refine w_get C 0 9 (Nat.le_of_ble_eq_true rfl) rfl rfl inB_X11 (by decide) tw6_170 rfl dX11_inTime_107 rfl ?_
                refine w_iload_n C dX11_inTime_110 rfl 5 rfl ?_
                refine w_iald C 9 16 0 (Nat.le_of_ble_eq_true rfl) (fun _ => rfl) rfl h dX11_inTime_111 rfl (fun h => ?_)
                refine bd2_w h (fun r18 u19 hc h => ?_)
                refine w_callVi C (As := [.int a0, .int v5.2.1, .int v10.2.1, .int (u17 9 (Int32.toNatClampNeg a0))]) (st := [.int r16]) 0 (Nat.le_of_ble_eq_true rfl) rfl rfl (cfX11_limitOf D cI cT ad (l := X.2.1) C.2.2.1 hc) tw8_80 cy_X11_limitOf (by decide +kernel) ⟨Nat.le_of_ble_eq_true rfl, Nat.le_of_ble_eq_true rfl⟩ (by decide) rfl rfl (Nat.le_of_ble_eq_true rfl) dX11_inTime_112 rfl ?_
                refine w_icmp_eq C (qt := 122) dX11_inTime_115 (by decide) rfl h (fun _ h => ?_) (fun _ h => ?_)
                · refine w_iconst C 0 dX11_inTime_122 rfl (by decide) ?_
                  refine w_istore C [(5, .int 0), (6, .int v10.2.1), (4, .int v5.2.1), (3, .int v5.2.2), (0, .ref (ad 0)), (1, .int a0), (2, .int a1)] dX11_inTime_123 rfl (by decide) rfl ?_
                  refine w_iinc (j := 1) C (v10.2.1 + 1) [(6, .int (v10.2.1 + 1)), (5, .int 0), (4, .int v5.2.1), (3, .int v5.2.2), (0, .ref (ad 0)), (1, .int a0), (2, .int a1)] dX11_inTime_125 rfl rfl rfl (by decide) rfl ?_
                  refine w_goto (q := 67) C dX11_inTime_128 (by decide) ?_
                  exact w_sub [0, 1, 2, 3, 4, 5, 6] rfl (hK12 _ h)
                · refine w_iconst C 1 dX11_inTime_118 rfl (by decide) ?_
                  refine w_goto (q := 123) C dX11_inTime_119 (by decide) ?_
                  refine w_istore C [(5, .int 1), (6, .int v10.2.1), (4, .int v5.2.1), (3, .int v5.2.2), (0, .ref (ad 0)), (1, .int a0), (2, .int a1)] dX11_inTime_123 rfl (by decide) rfl ?_
                  refine w_iinc (j := 1) C (v10.2.1 + 1) [(6, .int (v10.2.1 + 1)), (5, .int 1), (4, .int v5.2.1), (3, .int v5.2.2), (0, .ref (ad 0)), (1, .int a0), (2, .int a1)] dX11_inTime_125 rfl rfl rfl (by decide) rfl ?_
                  refine w_goto (q := 67) C dX11_inTime_128 (by decide) ?_
                  exact w_sub [0, 1, 2, 3, 4, 5, 6] rfl (hK12 _ h)
    · refine w_aload_n C dX11_inTime_31 rfl 0 rfl ?_
      refine w_iconst C 2 dX11_inTime_32 rfl (by decide) ?_
      refine bd2_w h (fun r20 u21 hc h => ?_)
      refine w_callVi C (As := [.int 2]) (st := []) 0 (Nat.le_of_ble_eq_true rfl) rfl rfl (cfX11_fail D cI cT ad (l := X.2.1) C.2.2.1 hc) tw7_117 cy_X11_fail (by decide +kernel) ⟨Nat.le_of_ble_eq_true rfl, Nat.le_of_ble_eq_true rfl⟩ (by decide) rfl rfl (Nat.le_of_ble_eq_true rfl) dX11_inTime_33 rfl ?_
      exact w_ri2 hr h (by decide) dX11_inTime_36
  · refine w_aload_n C dX11_inTime_13 rfl 0 rfl ?_
    refine w_iconst C 1 dX11_inTime_14 rfl (by decide) ?_
    refine bd2_w h (fun r22 u23 hc h => ?_)
    refine w_callVi C (As := [.int 1]) (st := []) 0 (Nat.le_of_ble_eq_true rfl) rfl rfl (cfX11_fail D cI cT ad (l := X.2.1) C.2.2.1 hc) tw7_117 cy_X11_fail (by decide +kernel) ⟨Nat.le_of_ble_eq_true rfl, Nat.le_of_ble_eq_true rfl⟩ (by decide) rfl rfl (Nat.le_of_ble_eq_true rfl) dX11_inTime_15 rfl ?_
    exact w_ri2 hr h (by decide) dX11_inTime_18
theorem cfX11_inTime (D : va_G) (cI cT : ClassId) (ad : Nat → Nat) {l : Launch} (had : gAp (gM D cI cT ad)) {F : Nat} {σ : St} {a0 : Int32} {a1 : Int32} {r : Int32} {σ' : St} (h : fX11_inTime F σ a0 a1 = some (r, σ')) : MI l yX11_inTime (wB yX11_inTime cX11_inTime 7 (some .int)) 6 140 (gM D cI cT ad) [.ref (ad 0), .int a0, .int a1] σ r σ' := mk_MI had (by decide +kernel) (Nat.le_of_ble_eq_true rfl) (fun X hX C hr => wfX11_inTime C hr h)

def fX11_apart (F : Nat) (σ : St) (a0 : Int32) : Option (Int32 × St) := nm (up σ 0 4 0) fun u2 => bd1 (fX11_isDance F u2 a0) fun r3 => if r3 = 0 then (bd2 (fX11_fail F u2 1) fun r6 u7 => some (r6, u7)) else ckI (a0) 16 (bd2 (fX11_danceTo F u2 a0 (u2 10 (Int32.toNatClampNeg a0))) fun r4 u5 => some ((if 0 ≤ ((u5 21 0) - (u5 21 1)) then ((u5 21 0) - (u5 21 1)) else 0 - ((u5 21 0) - (u5 21 1))) + (if 0 ≤ ((u5 22 0) - (u5 22 1)) then ((u5 22 0) - (u5 22 1)) else 0 - ((u5 22 0) - (u5 22 1))), u5))
set_option maxRecDepth 20000 in
theorem wfX11_apart {X : XT} {D : va_G} {cI cT : ClassId} {ad : Nat → Nat} {F : Nat} {σ : St} {a0 : Int32} {r : Int32} {σ' : St} (C : Cx X (gM D cI cT ad) cX11_apart 2 RX11 4 98 0) (hr : RetI X (gM D cI cT ad) cX11_apart 2 0 r σ') (h : fX11_apart F σ a0 = some (r, σ')) : WP X (gM D cI cT ad) 2 0 0 σ [(0, .ref (ad 0)), (1, .int a0)] [] := by
  unfold fX11_apart at h
  refine w_aload_n C dX11_apart_0 rfl 0 rfl ?_
  refine w_iconst C 0 dX11_apart_1 rfl (by decide) ?_
  refine w_put C 0 4 0 (Nat.le_of_ble_eq_true rfl) rfl rfl inB_X11 tyX11_ok nmX11 (by decide) tw6_165 rfl rfl rfl (Nat.le_of_ble_eq_true rfl) rfl dX11_apart_2 rfl ?_
  refine w_nst h (fun u2 h => ?_)
  refine w_aload_n C dX11_apart_5 rfl 0 rfl ?_
  refine w_iload_n C dX11_apart_6 rfl 1 rfl ?_
  refine bd1_w h (fun r3 hc h => ?_)
  refine w_callVi C (As := [.int a0]) (st := []) 0 (Nat.le_of_ble_eq_true rfl) rfl rfl (cfX11_isDance D cI cT ad (l := X.2.1) C.2.2.1 hc) tw8_106 cy_X11_isDance (by decide +kernel) ⟨Nat.le_of_ble_eq_true rfl, Nat.le_of_ble_eq_true rfl⟩ (by decide) rfl rfl (Nat.le_of_ble_eq_true rfl) dX11_apart_7 rfl ?_
  refine w_if_ne C (qt := 19) dX11_apart_10 (by decide) rfl h (fun _ h => ?_) (fun _ h => ?_)
  · refine w_aload_n C dX11_apart_19 rfl 0 rfl ?_
    refine w_iload_n C dX11_apart_20 rfl 1 rfl ?_
    refine w_aload_n C dX11_apart_21 rfl 0 rfl ?_
    refine w_get C 0 10 (Nat.le_of_ble_eq_true rfl) rfl rfl inB_X11 (by decide) tw6_171 rfl dX11_apart_22 rfl ?_
    refine w_iload_n C dX11_apart_25 rfl 1 rfl ?_
    refine w_iald C 10 16 0 (Nat.le_of_ble_eq_true rfl) (fun _ => rfl) rfl h dX11_apart_26 rfl (fun h => ?_)
    refine bd2_w h (fun r4 u5 hc h => ?_)
    refine w_callVi C (As := [.int a0, .int (u2 10 (Int32.toNatClampNeg a0))]) (st := []) 0 (Nat.le_of_ble_eq_true rfl) rfl rfl (cfX11_danceTo D cI cT ad (l := X.2.1) C.2.2.1 hc) tw8_16 cy_X11_danceTo (by decide +kernel) ⟨Nat.le_of_ble_eq_true rfl, Nat.le_of_ble_eq_true rfl⟩ (by decide) rfl rfl (Nat.le_of_ble_eq_true rfl) dX11_apart_27 rfl ?_
    refine w_pop C rfl dX11_apart_30 rfl ?_
    refine w_aload_n C dX11_apart_31 rfl 0 rfl ?_
    refine w_get C 0 35 (Nat.le_of_ble_eq_true rfl) rfl rfl inB_X11 (by decide) tw6_196 rfl dX11_apart_32 rfl ?_
    refine w_iconst C 0 dX11_apart_35 rfl (by decide) ?_
    refine w_ialdc C 21 2 0 0 (Nat.le_of_ble_eq_true rfl) (fun _ => rfl) rfl (by decide) (by decide) dX11_apart_36 rfl ?_
    refine w_aload_n C dX11_apart_37 rfl 0 rfl ?_
    refine w_get C 0 35 (Nat.le_of_ble_eq_true rfl) rfl rfl inB_X11 (by decide) tw6_196 rfl dX11_apart_38 rfl ?_
    refine w_iconst C 1 dX11_apart_41 rfl (by decide) ?_
    refine w_ialdc C 21 2 0 1 (Nat.le_of_ble_eq_true rfl) (fun _ => rfl) rfl (by decide) (by decide) dX11_apart_42 rfl ?_
    refine w_isub C dX11_apart_43 rfl ?_
    refine w_mabs C (by intro w hw; simp only [List.mem_cons, List.not_mem_nil, or_false] at hw; rcases hw with rfl | rfl | rfl | rfl; exacts [tw8_236, tw5_223, tw1_17, tw5_224]) ⟨Nat.le_of_ble_eq_true rfl, Nat.le_of_ble_eq_true rfl⟩ (by decide) dX11_apart_44 rfl ?_
    refine w_aload_n C dX11_apart_47 rfl 0 rfl ?_
    refine w_get C 0 36 (Nat.le_of_ble_eq_true rfl) rfl rfl inB_X11 (by decide) tw6_197 rfl dX11_apart_48 rfl ?_
    refine w_iconst C 0 dX11_apart_51 rfl (by decide) ?_
    refine w_ialdc C 22 2 0 0 (Nat.le_of_ble_eq_true rfl) (fun _ => rfl) rfl (by decide) (by decide) dX11_apart_52 rfl ?_
    refine w_aload_n C dX11_apart_53 rfl 0 rfl ?_
    refine w_get C 0 36 (Nat.le_of_ble_eq_true rfl) rfl rfl inB_X11 (by decide) tw6_197 rfl dX11_apart_54 rfl ?_
    refine w_iconst C 1 dX11_apart_57 rfl (by decide) ?_
    refine w_ialdc C 22 2 0 1 (Nat.le_of_ble_eq_true rfl) (fun _ => rfl) rfl (by decide) (by decide) dX11_apart_58 rfl ?_
    refine w_isub C dX11_apart_59 rfl ?_
    refine w_mabs C (by intro w hw; simp only [List.mem_cons, List.not_mem_nil, or_false] at hw; rcases hw with rfl | rfl | rfl | rfl; exacts [tw8_236, tw5_223, tw1_17, tw5_224]) ⟨Nat.le_of_ble_eq_true rfl, Nat.le_of_ble_eq_true rfl⟩ (by decide) dX11_apart_60 rfl ?_
    refine w_iadd C dX11_apart_63 rfl ?_
    exact w_ri2 hr h (by decide) dX11_apart_64
  · refine w_aload_n C dX11_apart_13 rfl 0 rfl ?_
    refine w_iconst C 1 dX11_apart_14 rfl (by decide) ?_
    refine bd2_w h (fun r6 u7 hc h => ?_)
    refine w_callVi C (As := [.int 1]) (st := []) 0 (Nat.le_of_ble_eq_true rfl) rfl rfl (cfX11_fail D cI cT ad (l := X.2.1) C.2.2.1 hc) tw7_117 cy_X11_fail (by decide +kernel) ⟨Nat.le_of_ble_eq_true rfl, Nat.le_of_ble_eq_true rfl⟩ (by decide) rfl rfl (Nat.le_of_ble_eq_true rfl) dX11_apart_15 rfl ?_
    exact w_ri2 hr h (by decide) dX11_apart_18
theorem cfX11_apart (D : va_G) (cI cT : ClassId) (ad : Nat → Nat) {l : Launch} (had : gAp (gM D cI cT ad)) {F : Nat} {σ : St} {a0 : Int32} {r : Int32} {σ' : St} (h : fX11_apart F σ a0 = some (r, σ')) : MI l yX11_apart (wB yX11_apart cX11_apart 2 (some .int)) 4 98 (gM D cI cT ad) [.ref (ad 0), .int a0] σ r σ' := mk_MI had (by decide +kernel) (Nat.le_of_ble_eq_true rfl) (fun X hX C hr => wfX11_apart C hr h)

def fX11_isAgainst (F : Nat) (σ : St) (a0 : Int32) (a1 : Int32) (a2 : Int32) : Option (Int32 × St) := bd1 (fX11_isOf F σ a0 a1) fun r1 => if r1 = 0 then (some (0, σ)) else bd1 (fX11_isOf F σ a0 a2) fun r2 => if r2 = 0 then (some (0, σ)) else lp (fun (K4 : (St × Int32) → Option (Int32 × St)) (v3 : St × Int32) => if (v3.1 5 0) ≤ v3.2 then (some (0, v3.1)) else lp (fun (K7 : (St × Int32) → Option (Int32 × St)) (v6 : St × Int32) => if 8 ≤ v6.2 then (K4 ((v6.1, v3.2 + 1))) else bd2 (fX11_leastBy F v6.1 a1 v3.2 v6.2) fun r9 u10 => bd2 (fX11_leastBy F u10 a2 v3.2 v6.2) fun r11 u12 => if r9 = ((-1)) then (K7 ((u12, v6.2 + 1))) else if r11 = ((-1)) then (K7 ((u12, v6.2 + 1))) else if r9 = r11 then (K7 ((u12, v6.2 + 1))) else some (1, u12)) F ((v3.1, 0))) F ((σ, 0))
set_option maxRecDepth 20000 in
theorem wfX11_isAgainst {X : XT} {D : va_G} {cI cT : ClassId} {ad : Nat → Nat} {F : Nat} {σ : St} {a0 : Int32} {a1 : Int32} {a2 : Int32} {r : Int32} {σ' : St} (C : Cx X (gM D cI cT ad) cX11_isAgainst 8 RX11 4 98 0) (hr : RetZ X (gM D cI cT ad) cX11_isAgainst 8 0 r σ') (h : fX11_isAgainst F σ a0 a1 a2 = some (r, σ')) : WP X (gM D cI cT ad) 8 0 0 σ [(0, .ref (ad 0)), (1, .int a0), (2, .int a1), (3, .int a2)] [] := by
  unfold fX11_isAgainst at h
  refine w_iload_n C dX11_isAgainst_0 rfl 1 rfl ?_
  refine w_iload_n C dX11_isAgainst_1 rfl 2 rfl ?_
  refine bd1_w h (fun r1 hc h => ?_)
  refine w_callSi C (As := [.int a0, .int a1]) (st := []) (cfX11_isOf D cI cT ad (l := X.2.1) C.2.2.1 hc) tw8_9 cs_X11_isOf (by decide +kernel) ⟨Nat.le_of_ble_eq_true rfl, Nat.le_of_ble_eq_true rfl⟩ (by decide) rfl rfl (Nat.le_of_ble_eq_true rfl) dX11_isAgainst_2 rfl ?_
  refine w_if_eq C (qt := 16) dX11_isAgainst_5 (by decide) rfl h (fun _ h => ?_) (fun _ h => ?_)
  · refine w_iconst C 0 dX11_isAgainst_16 rfl (by decide) ?_
    exact w_rz2 hr (by decide) h (by decide) dX11_isAgainst_17
  · refine w_iload_n C dX11_isAgainst_8 rfl 1 rfl ?_
    refine w_iload_n C dX11_isAgainst_9 rfl 3 rfl ?_
    refine bd1_w h (fun r2 hc h => ?_)
    refine w_callSi C (As := [.int a0, .int a2]) (st := []) (cfX11_isOf D cI cT ad (l := X.2.1) C.2.2.1 hc) tw8_9 cs_X11_isOf (by decide +kernel) ⟨Nat.le_of_ble_eq_true rfl, Nat.le_of_ble_eq_true rfl⟩ (by decide) rfl rfl (Nat.le_of_ble_eq_true rfl) dX11_isAgainst_10 rfl ?_
    refine w_if_ne C (qt := 18) dX11_isAgainst_13 (by decide) rfl h (fun _ h => ?_) (fun _ h => ?_)
    · refine w_iconst C 0 dX11_isAgainst_18 rfl (by decide) ?_
      refine w_istore C [(4, .int 0), (0, .ref (ad 0)), (1, .int a0), (2, .int a1), (3, .int a2)] dX11_isAgainst_19 rfl (by decide) rfl ?_
      refine w_sub [0, 1, 3, 4] rfl ?_
      refine lp_w (fun v3 : St × Int32 => WP X (gM D cI cT ad) 8 0 21 v3.1 [(4, .int v3.2), (0, .ref (ad 0)), (2, .int a1), (3, .int a2)] []) (fun K4 hK5 v3 h => ?_) F _ h
      refine w_iload C dX11_isAgainst_21 rfl 0 rfl ?_
      refine w_aload_n C dX11_isAgainst_23 rfl 1 rfl ?_
      refine w_get C 0 5 (Nat.le_of_ble_eq_true rfl) rfl rfl inB_X11 (by decide) tw6_166 rfl dX11_isAgainst_24 rfl ?_
      refine w_iconst C 0 dX11_isAgainst_27 rfl (by decide) ?_
      refine w_ialdc C 5 8 0 0 (Nat.le_of_ble_eq_true rfl) (fun _ => rfl) rfl (by decide) (by decide) dX11_isAgainst_28 rfl ?_
      refine w_icmp_ge C (qt := 97) dX11_isAgainst_29 (by decide) rfl h (fun _ h => ?_) (fun _ h => ?_)
      · refine w_iconst C 0 dX11_isAgainst_97 rfl (by decide) ?_
        exact w_rz2 hr (by decide) h (by decide) dX11_isAgainst_98
      · refine w_iconst C 0 dX11_isAgainst_32 rfl (by decide) ?_
        refine w_istore C [(5, .int 0), (4, .int v3.2), (0, .ref (ad 0)), (2, .int a1), (3, .int a2)] dX11_isAgainst_33 rfl (by decide) rfl ?_
        refine w_sub [0, 1, 2, 3, 4] rfl ?_
        refine lp_w (fun v6 : St × Int32 => WP X (gM D cI cT ad) 8 0 35 v6.1 [(5, .int v6.2), (4, .int v3.2), (0, .ref (ad 0)), (2, .int a1), (3, .int a2)] []) (fun K7 hK8 v6 h => ?_) F _ h
        refine w_iload C dX11_isAgainst_35 rfl 0 rfl ?_
        refine w_bipush C 8 dX11_isAgainst_37 rfl (by decide) ?_
        refine w_icmp_ge C (qt := 91) dX11_isAgainst_39 (by decide) rfl h (fun _ h => ?_) (fun _ h => ?_)
        · refine w_iinc (j := 1) C (v3.2 + 1) [(4, .int (v3.2 + 1)), (5, .int v6.2), (0, .ref (ad 0)), (2, .int a1), (3, .int a2)] dX11_isAgainst_91 rfl rfl rfl (by decide) rfl ?_
          refine w_goto (q := 21) C dX11_isAgainst_94 (by decide) ?_
          exact w_sub [0, 2, 3, 4] rfl (hK5 _ h)
        · refine w_aload_n C dX11_isAgainst_42 rfl 2 rfl ?_
          refine w_iload_n C dX11_isAgainst_43 rfl 3 rfl ?_
          refine w_iload C dX11_isAgainst_44 rfl 1 rfl ?_
          refine w_iload C dX11_isAgainst_46 rfl 0 rfl ?_
          refine bd2_w h (fun r9 u10 hc h => ?_)
          refine w_callVi C (As := [.int a1, .int v3.2, .int v6.2]) (st := []) 0 (Nat.le_of_ble_eq_true rfl) rfl rfl (cfX11_leastBy D cI cT ad (l := X.2.1) C.2.2.1 hc) tw8_56 cy_X11_leastBy (by decide +kernel) ⟨Nat.le_of_ble_eq_true rfl, Nat.le_of_ble_eq_true rfl⟩ (by decide) rfl rfl (Nat.le_of_ble_eq_true rfl) dX11_isAgainst_48 rfl ?_
          refine w_istore C [(6, .int r9), (5, .int v6.2), (4, .int v3.2), (0, .ref (ad 0)), (2, .int a1), (3, .int a2)] dX11_isAgainst_51 rfl (by decide) rfl ?_
          refine w_aload_n C dX11_isAgainst_53 rfl 3 rfl ?_
          refine w_iload_n C dX11_isAgainst_54 rfl 5 rfl ?_
          refine w_iload C dX11_isAgainst_55 rfl 2 rfl ?_
          refine w_iload C dX11_isAgainst_57 rfl 1 rfl ?_
          refine bd2_w h (fun r11 u12 hc h => ?_)
          refine w_callVi C (As := [.int a2, .int v3.2, .int v6.2]) (st := []) 0 (Nat.le_of_ble_eq_true rfl) rfl rfl (cfX11_leastBy D cI cT ad (l := X.2.1) C.2.2.1 hc) tw8_56 cy_X11_leastBy (by decide +kernel) ⟨Nat.le_of_ble_eq_true rfl, Nat.le_of_ble_eq_true rfl⟩ (by decide) rfl rfl (Nat.le_of_ble_eq_true rfl) dX11_isAgainst_59 rfl ?_
          refine w_istore C [(7, .int r11), (6, .int r9), (5, .int v6.2), (4, .int v3.2), (0, .ref (ad 0)), (2, .int a1), (3, .int a2)] dX11_isAgainst_62 rfl (by decide) rfl ?_
          refine w_iload C dX11_isAgainst_64 rfl 1 rfl ?_
          refine w_iconst C (-1) dX11_isAgainst_66 rfl (by decide) ?_
          refine w_icmp_eq C (qt := 85) dX11_isAgainst_67 (by decide) rfl h (fun _ h => ?_) (fun _ h => ?_)
          · refine w_iinc (j := 2) C (v6.2 + 1) [(5, .int (v6.2 + 1)), (7, .int r11), (6, .int r9), (4, .int v3.2), (0, .ref (ad 0)), (2, .int a1), (3, .int a2)] dX11_isAgainst_85 rfl rfl rfl (by decide) rfl ?_
            refine w_goto (q := 35) C dX11_isAgainst_88 (by decide) ?_
            exact w_sub [0, 3, 4, 5, 6] rfl (hK8 _ h)
          · refine w_iload C dX11_isAgainst_70 rfl 0 rfl ?_
            refine w_iconst C (-1) dX11_isAgainst_72 rfl (by decide) ?_
            refine w_icmp_eq C (qt := 85) dX11_isAgainst_73 (by decide) rfl h (fun _ h => ?_) (fun _ h => ?_)
            · refine w_iinc (j := 2) C (v6.2 + 1) [(5, .int (v6.2 + 1)), (7, .int r11), (6, .int r9), (4, .int v3.2), (0, .ref (ad 0)), (2, .int a1), (3, .int a2)] dX11_isAgainst_85 rfl rfl rfl (by decide) rfl ?_
              refine w_goto (q := 35) C dX11_isAgainst_88 (by decide) ?_
              exact w_sub [0, 3, 4, 5, 6] rfl (hK8 _ h)
            · refine w_iload C dX11_isAgainst_76 rfl 1 rfl ?_
              refine w_iload C dX11_isAgainst_78 rfl 0 rfl ?_
              refine w_icmp_eq C (qt := 85) dX11_isAgainst_80 (by decide) rfl h (fun _ h => ?_) (fun _ h => ?_)
              · refine w_iinc (j := 2) C (v6.2 + 1) [(5, .int (v6.2 + 1)), (7, .int r11), (6, .int r9), (4, .int v3.2), (0, .ref (ad 0)), (2, .int a1), (3, .int a2)] dX11_isAgainst_85 rfl rfl rfl (by decide) rfl ?_
                refine w_goto (q := 35) C dX11_isAgainst_88 (by decide) ?_
                exact w_sub [0, 3, 4, 5, 6] rfl (hK8 _ h)
              · refine w_iconst C 1 dX11_isAgainst_83 rfl (by decide) ?_
                exact w_rz2 hr (by decide) h (by decide) dX11_isAgainst_84
    · refine w_iconst C 0 dX11_isAgainst_16 rfl (by decide) ?_
      exact w_rz2 hr (by decide) h (by decide) dX11_isAgainst_17
theorem cfX11_isAgainst (D : va_G) (cI cT : ClassId) (ad : Nat → Nat) {l : Launch} (had : gAp (gM D cI cT ad)) {F : Nat} {σ : St} {a0 : Int32} {a1 : Int32} {a2 : Int32} {r : Int32} {σ' : St} (h : fX11_isAgainst F σ a0 a1 a2 = some (r, σ')) : MI l yX11_isAgainst (wB yX11_isAgainst cX11_isAgainst 8 (some .boolean)) 4 98 (gM D cI cT ad) [.ref (ad 0), .int a0, .int a1, .int a2] σ r σ' := mk_MZ had (by decide +kernel) (Nat.le_of_ble_eq_true rfl) (fun X hX C hr => wfX11_isAgainst C hr h)

def fX11_against (F : Nat) (σ : St) (a0 : Int32) : Option (Int32 × St) := nm (up σ 0 4 0) fun u2 => jn (fun v3 : Unit => bd2 (fX11_fail F u2 1) fun r6 u7 => some (r6, u7)) fun J4 => if a0 < 0 then (J4 (())) else if a0 ≤ 1 then (bd2 (fX11_binding F u2) fun r8 u9 => lp (fun (K11 : (St × Int32 × Int32) → Option (Int32 × St)) (v10 : St × Int32 × Int32) => if (v10.1 5 1) ≤ v10.2.1 then (if a0 = 0 then (some (v10.2.2, v10.1)) else lp (fun (K14 : (Int32 × Int32) → Option (Int32 × St)) (v13 : Int32 × Int32) => if (1 <<< ((v10.1 5 1) &&& 31)) ≤ v13.1 then (some (v13.2, v10.1)) else jn (fun v16 : Int32 => lp (fun (K20 : (Int32 × Int32) → Option (Int32 × St)) (v19 : Int32 × Int32) => jn (fun v22 : Unit => if v19.2 = 0 then (K14 ((v13.1 + 1, v13.2))) else K14 ((v13.1 + 1, v13.1))) fun J23 => if (v10.1 5 1) ≤ v19.1 then (J23 (())) else if v19.2 = 0 then (J23 (())) else bd1 (fX11_isOf F v10.1 v13.1 v19.1) fun r25 => if r25 = 0 then (ckI (v19.1) 8 (if ((v10.1 26 (Int32.toNatClampNeg v19.1)) &&& (v13.1 ^^^ ((-1)))) = 0 then (K20 ((v19.1 + 1, 1))) else K20 ((v19.1 + 1, 0)))) else K20 ((v19.1 + 1, 1))) F ((0, v16))) fun J17 => jn (fun v26 : Unit => J17 1) fun J27 => if v13.2 = ((-1)) then (J27 (())) else bd1 (fX11_bitsOf F v10.1 v13.1) fun r29 => bd1 (fX11_bitsOf F v10.1 v13.2) fun r30 => if r30 ≤ r29 then (J17 0) else J27 (())) F ((0, (-1)))) else ckI (v10.2.1) 8 (nm (up v10.1 26 (Int32.toNatClampNeg v10.2.1) 0) fun u31 => nm (v10.2.1 + 1) fun x32 => lp (fun (K34 : (St × Int32 × Int32) → Option (Int32 × St)) (v33 : St × Int32 × Int32) => if (v33.1 5 1) ≤ v33.2.1 then (K11 ((v33.1, v10.2.1 + 1, v33.2.2))) else bd2 (fX11_isAgainst F v33.1 r8 v10.2.1 v33.2.1) fun r36 u37 => if r36 = 0 then (K34 ((u37, v33.2.1 + 1, v33.2.2))) else ckI (v10.2.1) 8 (ckI (v10.2.1) 8 (nm (up u37 26 (Int32.toNatClampNeg v10.2.1) ((u37 26 (Int32.toNatClampNeg v10.2.1)) ||| (1 <<< (v33.2.1 &&& 31)))) fun u38 => K34 ((u38, v33.2.1 + 1, v33.2.2 + 1))))) F ((u31, x32, v10.2.2)))) F ((u9, 0, 0))) else J4 (())
set_option maxRecDepth 20000 in
theorem wfX11_against {X : XT} {D : va_G} {cI cT : ClassId} {ad : Nat → Nat} {F : Nat} {σ : St} {a0 : Int32} {r : Int32} {σ' : St} (C : Cx X (gM D cI cT ad) cX11_against 8 RX11 7 162 0) (hr : RetI X (gM D cI cT ad) cX11_against 8 0 r σ') (h : fX11_against F σ a0 = some (r, σ')) : WP X (gM D cI cT ad) 8 0 0 σ [(0, .ref (ad 0)), (1, .int a0)] [] := by
  unfold fX11_against at h
  refine w_aload_n C dX11_against_0 rfl 0 rfl ?_
  refine w_iconst C 0 dX11_against_1 rfl (by decide) ?_
  refine w_put C 0 4 0 (Nat.le_of_ble_eq_true rfl) rfl rfl inB_X11 tyX11_ok nmX11 (by decide) tw6_165 rfl rfl rfl (Nat.le_of_ble_eq_true rfl) rfl dX11_against_2 rfl ?_
  refine w_nst h (fun u2 h => ?_)
  refine w_iload_n C dX11_against_5 rfl 1 rfl ?_
  refine jn_w (fun v3 : Unit => WP X (gM D cI cT ad) 8 0 14 u2 [(0, .ref (ad 0))] []) h (fun v3 h => ?_) (fun J4 hJ5 h => ?_)
  · refine w_aload_n C dX11_against_14 rfl 0 rfl ?_
    refine w_iconst C 1 dX11_against_15 rfl (by decide) ?_
    refine bd2_w h (fun r6 u7 hc h => ?_)
    refine w_callVi C (As := [.int 1]) (st := []) 0 (Nat.le_of_ble_eq_true rfl) rfl rfl (cfX11_fail D cI cT ad (l := X.2.1) C.2.2.1 hc) tw7_117 cy_X11_fail (by decide +kernel) ⟨Nat.le_of_ble_eq_true rfl, Nat.le_of_ble_eq_true rfl⟩ (by decide) rfl rfl (Nat.le_of_ble_eq_true rfl) dX11_against_16 rfl ?_
    exact w_ri2 hr h (by decide) dX11_against_19
  · refine w_if_lt C (qt := 14) dX11_against_6 (by decide) rfl h (fun _ h => ?_) (fun _ h => ?_)
    · exact w_sub [0] rfl (hJ5 _ h)
    · refine w_iload_n C dX11_against_9 rfl 1 rfl ?_
      refine w_iconst C 1 dX11_against_10 rfl (by decide) ?_
      refine w_icmp_le C (qt := 20) dX11_against_11 (by decide) rfl h (fun _ h => ?_) (fun _ h => ?_)
      · refine w_aload_n C dX11_against_20 rfl 0 rfl ?_
        refine bd2_w h (fun r8 u9 hc h => ?_)
        refine w_callVi C (As := []) (st := []) 0 (Nat.le_of_ble_eq_true rfl) rfl rfl (cfX11_binding D cI cT ad (l := X.2.1) C.2.2.1 hc) tw8_1 cy_X11_binding (by decide +kernel) ⟨Nat.le_of_ble_eq_true rfl, Nat.le_of_ble_eq_true rfl⟩ (by decide) rfl rfl (Nat.le_of_ble_eq_true rfl) dX11_against_21 rfl ?_
        refine w_istore_n C [(2, .int r8), (0, .ref (ad 0)), (1, .int a0)] dX11_against_24 rfl (by decide) rfl ?_
        refine w_iconst C 0 dX11_against_25 rfl (by decide) ?_
        refine w_istore_n C [(3, .int 0), (2, .int r8), (0, .ref (ad 0)), (1, .int a0)] dX11_against_26 rfl (by decide) rfl ?_
        refine w_iconst C 0 dX11_against_27 rfl (by decide) ?_
        refine w_istore C [(4, .int 0), (3, .int 0), (2, .int r8), (0, .ref (ad 0)), (1, .int a0)] dX11_against_28 rfl (by decide) rfl ?_
        refine w_sub [0, 1, 2, 3, 4] rfl ?_
        refine lp_w (fun v10 : St × Int32 × Int32 => WP X (gM D cI cT ad) 8 0 30 v10.1 [(4, .int v10.2.1), (3, .int v10.2.2), (2, .int r8), (0, .ref (ad 0)), (1, .int a0)] []) (fun K11 hK12 v10 h => ?_) F _ h
        refine w_iload C dX11_against_30 rfl 0 rfl ?_
        refine w_aload_n C dX11_against_32 rfl 3 rfl ?_
        refine w_get C 0 5 (Nat.le_of_ble_eq_true rfl) rfl rfl inB_X11 (by decide) tw6_166 rfl dX11_against_33 rfl ?_
        refine w_iconst C 1 dX11_against_36 rfl (by decide) ?_
        refine w_ialdc C 5 8 0 1 (Nat.le_of_ble_eq_true rfl) (fun _ => rfl) rfl (by decide) (by decide) dX11_against_37 rfl ?_
        refine w_icmp_ge C (qt := 110) dX11_against_38 (by decide) rfl h (fun _ h => ?_) (fun _ h => ?_)
        · refine w_iload_n C dX11_against_110 rfl 4 rfl ?_
          refine w_if_ne C (qt := 116) dX11_against_111 (by decide) rfl h (fun _ h => ?_) (fun _ h => ?_)
          · refine w_iconst C (-1) dX11_against_116 rfl (by decide) ?_
            refine w_istore C [(4, .int ((-1))), (3, .int v10.2.2), (2, .int r8), (0, .ref (ad 0)), (1, .int a0)] dX11_against_117 rfl (by decide) rfl ?_
            refine w_iconst C 0 dX11_against_119 rfl (by decide) ?_
            refine w_istore C [(5, .int 0), (4, .int ((-1))), (3, .int v10.2.2), (2, .int r8), (0, .ref (ad 0)), (1, .int a0)] dX11_against_120 rfl (by decide) rfl ?_
            refine w_sub [0, 1, 4] rfl ?_
            refine lp_w (fun v13 : Int32 × Int32 => WP X (gM D cI cT ad) 8 0 122 v10.1 [(5, .int v13.1), (4, .int v13.2), (0, .ref (ad 0))] []) (fun K14 hK15 v13 h => ?_) F _ h
            refine w_iload C dX11_against_122 rfl 0 rfl ?_
            refine w_iconst C 1 dX11_against_124 rfl (by decide) ?_
            refine w_aload_n C dX11_against_125 rfl 2 rfl ?_
            refine w_get C 0 5 (Nat.le_of_ble_eq_true rfl) rfl rfl inB_X11 (by decide) tw6_166 rfl dX11_against_126 rfl ?_
            refine w_iconst C 1 dX11_against_129 rfl (by decide) ?_
            refine w_ialdc C 5 8 0 1 (Nat.le_of_ble_eq_true rfl) (fun _ => rfl) rfl (by decide) (by decide) dX11_against_130 rfl ?_
            refine w_ishl C dX11_against_131 rfl ?_
            refine w_icmp_ge C (qt := 233) dX11_against_132 (by decide) rfl h (fun _ h => ?_) (fun _ h => ?_)
            · refine w_iload C dX11_against_233 rfl 1 rfl ?_
              exact w_ri2 hr h (by decide) dX11_against_235
            · refine w_iload C dX11_against_135 rfl 1 rfl ?_
              refine w_iconst C (-1) dX11_against_137 rfl (by decide) ?_
              refine jn_w (fun v16 : Int32 => WP X (gM D cI cT ad) 8 0 159 v10.1 [(5, .int v13.1), (4, .int v13.2), (0, .ref (ad 0))] [.int v16]) h (fun v16 h => ?_) (fun J17 hJ18 h => ?_)
              · refine w_istore C [(6, .int v16), (5, .int v13.1), (4, .int v13.2), (0, .ref (ad 0))] dX11_against_159 rfl (by decide) rfl ?_
                refine w_iconst C 0 dX11_against_161 rfl (by decide) ?_
                refine w_istore C [(7, .int 0), (6, .int v16), (5, .int v13.1), (4, .int v13.2), (0, .ref (ad 0))] dX11_against_162 rfl (by decide) rfl ?_
                refine w_sub [0, 1, 2, 3, 4] rfl ?_
                refine lp_w (fun v19 : Int32 × Int32 => WP X (gM D cI cT ad) 8 0 164 v10.1 [(7, .int v19.1), (6, .int v19.2), (5, .int v13.1), (4, .int v13.2), (0, .ref (ad 0))] []) (fun K20 hK21 v19 h => ?_) F _ h
                refine w_iload C dX11_against_164 rfl 0 rfl ?_
                refine w_aload_n C dX11_against_166 rfl 4 rfl ?_
                refine w_get C 0 5 (Nat.le_of_ble_eq_true rfl) rfl rfl inB_X11 (by decide) tw6_166 rfl dX11_against_167 rfl ?_
                refine w_iconst C 1 dX11_against_170 rfl (by decide) ?_
                refine w_ialdc C 5 8 0 1 (Nat.le_of_ble_eq_true rfl) (fun _ => rfl) rfl (by decide) (by decide) dX11_against_171 rfl ?_
                refine jn_w (fun v22 : Unit => WP X (gM D cI cT ad) 8 0 218 v10.1 [(6, .int v19.2), (5, .int v13.1), (4, .int v13.2), (0, .ref (ad 0))] []) h (fun v22 h => ?_) (fun J23 hJ24 h => ?_)
                · refine w_iload C dX11_against_218 rfl 0 rfl ?_
                  refine w_if_eq C (qt := 227) dX11_against_220 (by decide) rfl h (fun _ h => ?_) (fun _ h => ?_)
                  · refine w_iinc (j := 1) C (v13.1 + 1) [(5, .int (v13.1 + 1)), (6, .int v19.2), (4, .int v13.2), (0, .ref (ad 0))] dX11_against_227 rfl rfl rfl (by decide) rfl ?_
                    refine w_goto (q := 122) C dX11_against_230 (by decide) ?_
                    exact w_sub [0, 2, 3] rfl (hK15 _ h)
                  · refine w_iload C dX11_against_223 rfl 1 rfl ?_
                    refine w_istore C [(4, .int v13.1), (6, .int v19.2), (5, .int v13.1), (0, .ref (ad 0))] dX11_against_225 rfl (by decide) rfl ?_
                    refine w_iinc (j := 2) C (v13.1 + 1) [(5, .int (v13.1 + 1)), (4, .int v13.1), (6, .int v19.2), (0, .ref (ad 0))] dX11_against_227 rfl rfl rfl (by decide) rfl ?_
                    refine w_goto (q := 122) C dX11_against_230 (by decide) ?_
                    exact w_sub [0, 1, 3] rfl (hK15 _ h)
                · refine w_icmp_ge C (qt := 218) dX11_against_172 (by decide) rfl h (fun _ h => ?_) (fun _ h => ?_)
                  · exact w_sub [1, 2, 3, 4] rfl (hJ24 _ h)
                  · refine w_iload C dX11_against_175 rfl 1 rfl ?_
                    refine w_if_eq C (qt := 218) dX11_against_177 (by decide) rfl h (fun _ h => ?_) (fun _ h => ?_)
                    · exact w_sub [1, 2, 3, 4] rfl (hJ24 _ h)
                    · refine w_iload C dX11_against_180 rfl 2 rfl ?_
                      refine w_iload C dX11_against_182 rfl 0 rfl ?_
                      refine bd1_w h (fun r25 hc h => ?_)
                      refine w_callSi C (As := [.int v13.1, .int v19.1]) (st := []) (cfX11_isOf D cI cT ad (l := X.2.1) C.2.2.1 hc) tw8_9 cs_X11_isOf (by decide +kernel) ⟨Nat.le_of_ble_eq_true rfl, Nat.le_of_ble_eq_true rfl⟩ (by decide) rfl rfl (Nat.le_of_ble_eq_true rfl) dX11_against_184 rfl ?_
                      refine w_if_ne C (qt := 205) dX11_against_187 (by decide) rfl h (fun _ h => ?_) (fun _ h => ?_)
                      · refine w_iconst C 1 dX11_against_205 rfl (by decide) ?_
                        refine w_goto (q := 210) C dX11_against_206 (by decide) ?_
                        refine w_istore C [(6, .int 1), (7, .int v19.1), (5, .int v13.1), (4, .int v13.2), (0, .ref (ad 0))] dX11_against_210 rfl (by decide) rfl ?_
                        refine w_iinc (j := 1) C (v19.1 + 1) [(7, .int (v19.1 + 1)), (6, .int 1), (5, .int v13.1), (4, .int v13.2), (0, .ref (ad 0))] dX11_against_212 rfl rfl rfl (by decide) rfl ?_
                        refine w_goto (q := 164) C dX11_against_215 (by decide) ?_
                        exact w_sub [0, 1, 2, 3, 4] rfl (hK21 _ h)
                      · refine w_aload_n C dX11_against_190 rfl 4 rfl ?_
                        refine w_get C 0 41 (Nat.le_of_ble_eq_true rfl) rfl rfl inB_X11 (by decide) tw6_202 rfl dX11_against_191 rfl ?_
                        refine w_iload C dX11_against_194 rfl 0 rfl ?_
                        refine w_iald C 26 8 0 (Nat.le_of_ble_eq_true rfl) (fun _ => rfl) rfl h dX11_against_196 rfl (fun h => ?_)
                        refine w_iload C dX11_against_197 rfl 2 rfl ?_
                        refine w_iconst C (-1) dX11_against_199 rfl (by decide) ?_
                        refine w_ixor C dX11_against_200 rfl ?_
                        refine w_iand C dX11_against_201 rfl ?_
                        refine w_if_ne C (qt := 209) dX11_against_202 (by decide) rfl h (fun _ h => ?_) (fun _ h => ?_)
                        · refine w_iconst C 0 dX11_against_209 rfl (by decide) ?_
                          refine w_istore C [(6, .int 0), (7, .int v19.1), (5, .int v13.1), (4, .int v13.2), (0, .ref (ad 0))] dX11_against_210 rfl (by decide) rfl ?_
                          refine w_iinc (j := 1) C (v19.1 + 1) [(7, .int (v19.1 + 1)), (6, .int 0), (5, .int v13.1), (4, .int v13.2), (0, .ref (ad 0))] dX11_against_212 rfl rfl rfl (by decide) rfl ?_
                          refine w_goto (q := 164) C dX11_against_215 (by decide) ?_
                          exact w_sub [0, 1, 2, 3, 4] rfl (hK21 _ h)
                        · refine w_iconst C 1 dX11_against_205 rfl (by decide) ?_
                          refine w_goto (q := 210) C dX11_against_206 (by decide) ?_
                          refine w_istore C [(6, .int 1), (7, .int v19.1), (5, .int v13.1), (4, .int v13.2), (0, .ref (ad 0))] dX11_against_210 rfl (by decide) rfl ?_
                          refine w_iinc (j := 1) C (v19.1 + 1) [(7, .int (v19.1 + 1)), (6, .int 1), (5, .int v13.1), (4, .int v13.2), (0, .ref (ad 0))] dX11_against_212 rfl rfl rfl (by decide) rfl ?_
                          refine w_goto (q := 164) C dX11_against_215 (by decide) ?_
                          exact w_sub [0, 1, 2, 3, 4] rfl (hK21 _ h)
              · refine jn_w (fun v26 : Unit => WP X (gM D cI cT ad) 8 0 154 v10.1 [(5, .int v13.1), (4, .int v13.2), (0, .ref (ad 0))] []) h (fun v26 h => ?_) (fun J27 hJ28 h => ?_)
                · refine w_iconst C 1 dX11_against_154 rfl (by decide) ?_
                  refine w_goto (q := 159) C dX11_against_155 (by decide) ?_
                  exact w_sub [0, 1, 2] rfl (hJ18 _ h)
                · refine w_icmp_eq C (qt := 154) dX11_against_138 (by decide) rfl h (fun _ h => ?_) (fun _ h => ?_)
                  · exact w_sub [0, 1, 2] rfl (hJ28 _ h)
                  · refine w_iload C dX11_against_141 rfl 0 rfl ?_
                    refine bd1_w h (fun r29 hc h => ?_)
                    refine w_callSi C (As := [.int v13.1]) (st := []) (cfX11_bitsOf D cI cT ad (l := X.2.1) C.2.2.1 hc) tw8_224 cs_X11_bitsOf (by decide +kernel) ⟨Nat.le_of_ble_eq_true rfl, Nat.le_of_ble_eq_true rfl⟩ (by decide) rfl rfl (Nat.le_of_ble_eq_true rfl) dX11_against_143 rfl ?_
                    refine w_iload C dX11_against_146 rfl 1 rfl ?_
                    refine bd1_w h (fun r30 hc h => ?_)
                    refine w_callSi C (As := [.int v13.2]) (st := [.int r29]) (cfX11_bitsOf D cI cT ad (l := X.2.1) C.2.2.1 hc) tw8_224 cs_X11_bitsOf (by decide +kernel) ⟨Nat.le_of_ble_eq_true rfl, Nat.le_of_ble_eq_true rfl⟩ (by decide) rfl rfl (Nat.le_of_ble_eq_true rfl) dX11_against_148 rfl ?_
                    refine w_icmp_ge C (qt := 158) dX11_against_151 (by decide) rfl h (fun _ h => ?_) (fun _ h => ?_)
                    · refine w_iconst C 0 dX11_against_158 rfl (by decide) ?_
                      exact w_sub [0, 1, 2] rfl (hJ18 _ h)
                    · exact w_sub [0, 1, 2] rfl (hJ28 _ h)
          · refine w_iload_n C dX11_against_114 rfl 1 rfl ?_
            exact w_ri2 hr h (by decide) dX11_against_115
        · refine w_aload_n C dX11_against_41 rfl 3 rfl ?_
          refine w_get C 0 41 (Nat.le_of_ble_eq_true rfl) rfl rfl inB_X11 (by decide) tw6_202 rfl dX11_against_42 rfl ?_
          refine w_iload C dX11_against_45 rfl 0 rfl ?_
          refine w_iconst C 0 dX11_against_47 rfl (by decide) ?_
          refine w_iast C 26 8 0 (Nat.le_of_ble_eq_true rfl) (fun _ => rfl) rfl h dX11_against_48 rfl (fun h => ?_)
          refine w_nst h (fun u31 h => ?_)
          refine w_iload C dX11_against_49 rfl 0 rfl ?_
          refine w_iconst C 1 dX11_against_51 rfl (by decide) ?_
          refine w_iadd C dX11_against_52 rfl ?_
          refine w_nm h (fun x32 h => ?_)
          refine w_istore C [(5, .int x32), (4, .int v10.2.1), (3, .int v10.2.2), (2, .int r8), (0, .ref (ad 0)), (1, .int a0)] dX11_against_53 rfl (by decide) rfl ?_
          refine w_sub [0, 1, 2, 3, 4, 5] rfl ?_
          refine lp_w (fun v33 : St × Int32 × Int32 => WP X (gM D cI cT ad) 8 0 55 v33.1 [(5, .int v33.2.1), (4, .int v10.2.1), (3, .int v33.2.2), (2, .int r8), (0, .ref (ad 0)), (1, .int a0)] []) (fun K34 hK35 v33 h => ?_) F _ h
          refine w_iload C dX11_against_55 rfl 0 rfl ?_
          refine w_aload_n C dX11_against_57 rfl 4 rfl ?_
          refine w_get C 0 5 (Nat.le_of_ble_eq_true rfl) rfl rfl inB_X11 (by decide) tw6_166 rfl dX11_against_58 rfl ?_
          refine w_iconst C 1 dX11_against_61 rfl (by decide) ?_
          refine w_ialdc C 5 8 0 1 (Nat.le_of_ble_eq_true rfl) (fun _ => rfl) rfl (by decide) (by decide) dX11_against_62 rfl ?_
          refine w_icmp_ge C (qt := 104) dX11_against_63 (by decide) rfl h (fun _ h => ?_) (fun _ h => ?_)
          · refine w_iinc (j := 1) C (v10.2.1 + 1) [(4, .int (v10.2.1 + 1)), (5, .int v33.2.1), (3, .int v33.2.2), (2, .int r8), (0, .ref (ad 0)), (1, .int a0)] dX11_against_104 rfl rfl rfl (by decide) rfl ?_
            refine w_goto (q := 30) C dX11_against_107 (by decide) ?_
            exact w_sub [0, 2, 3, 4, 5] rfl (hK12 _ h)
          · refine w_aload_n C dX11_against_66 rfl 4 rfl ?_
            refine w_iload_n C dX11_against_67 rfl 3 rfl ?_
            refine w_iload C dX11_against_68 rfl 1 rfl ?_
            refine w_iload C dX11_against_70 rfl 0 rfl ?_
            refine bd2_w h (fun r36 u37 hc h => ?_)
            refine w_callVi C (As := [.int r8, .int v10.2.1, .int v33.2.1]) (st := []) 0 (Nat.le_of_ble_eq_true rfl) rfl rfl (cfX11_isAgainst D cI cT ad (l := X.2.1) C.2.2.1 hc) tw9_1 cy_X11_isAgainst (by decide +kernel) ⟨Nat.le_of_ble_eq_true rfl, Nat.le_of_ble_eq_true rfl⟩ (by decide) rfl rfl (Nat.le_of_ble_eq_true rfl) dX11_against_72 rfl ?_
            refine w_if_ne C (qt := 81) dX11_against_75 (by decide) rfl h (fun _ h => ?_) (fun _ h => ?_)
            · refine w_aload_n C dX11_against_81 rfl 4 rfl ?_
              refine w_get C 0 41 (Nat.le_of_ble_eq_true rfl) rfl rfl inB_X11 (by decide) tw6_202 rfl dX11_against_82 rfl ?_
              refine w_iload C dX11_against_85 rfl 1 rfl ?_
              refine w_dup2 C rfl rfl dX11_against_87 rfl ?_
              refine w_iald C 26 8 0 (Nat.le_of_ble_eq_true rfl) (fun _ => rfl) rfl h dX11_against_88 rfl (fun h => ?_)
              refine w_iconst C 1 dX11_against_89 rfl (by decide) ?_
              refine w_iload C dX11_against_90 rfl 0 rfl ?_
              refine w_ishl C dX11_against_92 rfl ?_
              refine w_ior C dX11_against_93 rfl ?_
              refine w_iast C 26 8 0 (Nat.le_of_ble_eq_true rfl) (fun _ => rfl) rfl h dX11_against_94 rfl (fun h => ?_)
              refine w_nst h (fun u38 h => ?_)
              refine w_iinc (j := 2) C (v33.2.2 + 1) [(3, .int (v33.2.2 + 1)), (5, .int v33.2.1), (4, .int v10.2.1), (2, .int r8), (0, .ref (ad 0)), (1, .int a0)] dX11_against_95 rfl rfl rfl (by decide) rfl ?_
              refine w_iinc (j := 1) C (v33.2.1 + 1) [(5, .int (v33.2.1 + 1)), (3, .int (v33.2.2 + 1)), (4, .int v10.2.1), (2, .int r8), (0, .ref (ad 0)), (1, .int a0)] dX11_against_98 rfl rfl rfl (by decide) rfl ?_
              refine w_goto (q := 55) C dX11_against_101 (by decide) ?_
              exact w_sub [0, 2, 1, 3, 4, 5] rfl (hK35 _ h)
            · refine w_goto (q := 98) C dX11_against_78 (by decide) ?_
              refine w_iinc (j := 0) C (v33.2.1 + 1) [(5, .int (v33.2.1 + 1)), (4, .int v10.2.1), (3, .int v33.2.2), (2, .int r8), (0, .ref (ad 0)), (1, .int a0)] dX11_against_98 rfl rfl rfl (by decide) rfl ?_
              refine w_goto (q := 55) C dX11_against_101 (by decide) ?_
              exact w_sub [0, 1, 2, 3, 4, 5] rfl (hK35 _ h)
      · exact w_sub [0] rfl (hJ5 _ h)
theorem cfX11_against (D : va_G) (cI cT : ClassId) (ad : Nat → Nat) {l : Launch} (had : gAp (gM D cI cT ad)) {F : Nat} {σ : St} {a0 : Int32} {r : Int32} {σ' : St} (h : fX11_against F σ a0 = some (r, σ')) : MI l yX11_against (wB yX11_against cX11_against 8 (some .int)) 7 162 (gM D cI cT ad) [.ref (ad 0), .int a0] σ r σ' := mk_MI had (by decide +kernel) (Nat.le_of_ble_eq_true rfl) (fun X hX C hr => wfX11_against C hr h)

def fX11_help (F : Nat) (σ : St) (a0 : Int32) : Option (Int32 × St) := nm (up σ 0 4 0) fun u2 => bd1 (fX11_isValley F u2 a0) fun r3 => if r3 = 0 then (bd2 (fX11_fail F u2 1) fun r16 u17 => some (r16, u17)) else bd2 (fX11_binding F u2) fun r4 u5 => nm (1 <<< (a0 &&& 31)) fun x6 => lp (fun (K8 : (Int32 × Int32) → Option (Int32 × St)) (v7 : Int32 × Int32) => if 6 ≤ v7.1 then (some (v7.2 &&& ((1 <<< (a0 &&& 31)) ^^^ ((-1))), u5)) else lp (fun (K11 : (Int32 × Int32) → Option (Int32 × St)) (v10 : Int32 × Int32) => if (u5 5 1) ≤ v10.1 then (K8 ((v7.1 + 1, v10.2))) else ckI (v10.1) 16 (ckI (v10.1) 16 (nm ((1 <<< ((u5 7 (Int32.toNatClampNeg v10.1)) &&& 31)) ||| (1 <<< ((u5 8 (Int32.toNatClampNeg v10.1)) &&& 31))) fun x13 => bd1 (fX11_isOf F u5 r4 v10.1) fun r14 => if r14 = 0 then (K11 ((v10.1 + 1, v10.2))) else ckI (v10.1) 16 (if (u5 9 (Int32.toNatClampNeg v10.1)) = 3 then (if (x13 &&& v10.2) = 0 then (K11 ((v10.1 + 1, v10.2))) else nm (v10.2 ||| x13) fun x15 => K11 ((v10.1 + 1, x15))) else K11 ((v10.1 + 1, v10.2)))))) F ((0, v7.2))) F ((0, x6))
set_option maxRecDepth 20000 in
theorem wfX11_help {X : XT} {D : va_G} {cI cT : ClassId} {ad : Nat → Nat} {F : Nat} {σ : St} {a0 : Int32} {r : Int32} {σ' : St} (C : Cx X (gM D cI cT ad) cX11_help 7 RX11 7 162 0) (hr : RetI X (gM D cI cT ad) cX11_help 7 0 r σ') (h : fX11_help F σ a0 = some (r, σ')) : WP X (gM D cI cT ad) 7 0 0 σ [(0, .ref (ad 0)), (1, .int a0)] [] := by
  unfold fX11_help at h
  refine w_aload_n C dX11_help_0 rfl 0 rfl ?_
  refine w_iconst C 0 dX11_help_1 rfl (by decide) ?_
  refine w_put C 0 4 0 (Nat.le_of_ble_eq_true rfl) rfl rfl inB_X11 tyX11_ok nmX11 (by decide) tw6_165 rfl rfl rfl (Nat.le_of_ble_eq_true rfl) rfl dX11_help_2 rfl ?_
  refine w_nst h (fun u2 h => ?_)
  refine w_aload_n C dX11_help_5 rfl 0 rfl ?_
  refine w_iload_n C dX11_help_6 rfl 1 rfl ?_
  refine bd1_w h (fun r3 hc h => ?_)
  refine w_callVi C (As := [.int a0]) (st := []) 0 (Nat.le_of_ble_eq_true rfl) rfl rfl (cfX11_isValley D cI cT ad (l := X.2.1) C.2.2.1 hc) tw8_95 cy_X11_isValley (by decide +kernel) ⟨Nat.le_of_ble_eq_true rfl, Nat.le_of_ble_eq_true rfl⟩ (by decide) rfl rfl (Nat.le_of_ble_eq_true rfl) dX11_help_7 rfl ?_
  refine w_if_ne C (qt := 19) dX11_help_10 (by decide) rfl h (fun _ h => ?_) (fun _ h => ?_)
  · refine w_aload_n C dX11_help_19 rfl 0 rfl ?_
    refine bd2_w h (fun r4 u5 hc h => ?_)
    refine w_callVi C (As := []) (st := []) 0 (Nat.le_of_ble_eq_true rfl) rfl rfl (cfX11_binding D cI cT ad (l := X.2.1) C.2.2.1 hc) tw8_1 cy_X11_binding (by decide +kernel) ⟨Nat.le_of_ble_eq_true rfl, Nat.le_of_ble_eq_true rfl⟩ (by decide) rfl rfl (Nat.le_of_ble_eq_true rfl) dX11_help_20 rfl ?_
    refine w_istore_n C [(2, .int r4), (0, .ref (ad 0)), (1, .int a0)] dX11_help_23 rfl (by decide) rfl ?_
    refine w_iconst C 1 dX11_help_24 rfl (by decide) ?_
    refine w_iload_n C dX11_help_25 rfl 2 rfl ?_
    refine w_ishl C dX11_help_26 rfl ?_
    refine w_nm h (fun x6 h => ?_)
    refine w_istore_n C [(3, .int x6), (2, .int r4), (0, .ref (ad 0)), (1, .int a0)] dX11_help_27 rfl (by decide) rfl ?_
    refine w_iconst C 0 dX11_help_28 rfl (by decide) ?_
    refine w_istore C [(4, .int 0), (3, .int x6), (2, .int r4), (0, .ref (ad 0)), (1, .int a0)] dX11_help_29 rfl (by decide) rfl ?_
    refine w_sub [0, 1, 2, 3, 4] rfl ?_
    refine lp_w (fun v7 : Int32 × Int32 => WP X (gM D cI cT ad) 7 0 31 u5 [(4, .int v7.1), (3, .int v7.2), (2, .int r4), (0, .ref (ad 0)), (1, .int a0)] []) (fun K8 hK9 v7 h => ?_) F _ h
    refine w_iload C dX11_help_31 rfl 0 rfl ?_
    refine w_bipush C 6 dX11_help_33 rfl (by decide) ?_
    refine w_icmp_ge C (qt := 117) dX11_help_35 (by decide) rfl h (fun _ h => ?_) (fun _ h => ?_)
    · refine w_iload_n C dX11_help_117 rfl 1 rfl ?_
      refine w_iconst C 1 dX11_help_118 rfl (by decide) ?_
      refine w_iload_n C dX11_help_119 rfl 4 rfl ?_
      refine w_ishl C dX11_help_120 rfl ?_
      refine w_iconst C (-1) dX11_help_121 rfl (by decide) ?_
      refine w_ixor C dX11_help_122 rfl ?_
      refine w_iand C dX11_help_123 rfl ?_
      exact w_ri2 hr h (by decide) dX11_help_124
    · refine w_iconst C 0 dX11_help_38 rfl (by decide) ?_
      refine w_istore C [(5, .int 0), (4, .int v7.1), (3, .int v7.2), (2, .int r4), (0, .ref (ad 0)), (1, .int a0)] dX11_help_39 rfl (by decide) rfl ?_
      refine w_sub [0, 1, 2, 3, 4, 5] rfl ?_
      refine lp_w (fun v10 : Int32 × Int32 => WP X (gM D cI cT ad) 7 0 41 u5 [(5, .int v10.1), (4, .int v7.1), (3, .int v10.2), (2, .int r4), (0, .ref (ad 0)), (1, .int a0)] []) (fun K11 hK12 v10 h => ?_) F _ h
      refine w_iload C dX11_help_41 rfl 0 rfl ?_
      refine w_aload_n C dX11_help_43 rfl 4 rfl ?_
      refine w_get C 0 5 (Nat.le_of_ble_eq_true rfl) rfl rfl inB_X11 (by decide) tw6_166 rfl dX11_help_44 rfl ?_
      refine w_iconst C 1 dX11_help_47 rfl (by decide) ?_
      refine w_ialdc C 5 8 0 1 (Nat.le_of_ble_eq_true rfl) (fun _ => rfl) rfl (by decide) (by decide) dX11_help_48 rfl ?_
      refine w_icmp_ge C (qt := 111) dX11_help_49 (by decide) rfl h (fun _ h => ?_) (fun _ h => ?_)
      · refine w_iinc (j := 1) C (v7.1 + 1) [(4, .int (v7.1 + 1)), (5, .int v10.1), (3, .int v10.2), (2, .int r4), (0, .ref (ad 0)), (1, .int a0)] dX11_help_111 rfl rfl rfl (by decide) rfl ?_
        refine w_goto (q := 31) C dX11_help_114 (by decide) ?_
        exact w_sub [0, 2, 3, 4, 5] rfl (hK9 _ h)
      · refine w_iconst C 1 dX11_help_52 rfl (by decide) ?_
        refine w_aload_n C dX11_help_53 rfl 4 rfl ?_
        refine w_get C 0 7 (Nat.le_of_ble_eq_true rfl) rfl rfl inB_X11 (by decide) tw6_168 rfl dX11_help_54 rfl ?_
        refine w_iload C dX11_help_57 rfl 0 rfl ?_
        refine w_iald C 7 16 0 (Nat.le_of_ble_eq_true rfl) (fun _ => rfl) rfl h dX11_help_59 rfl (fun h => ?_)
        refine w_ishl C dX11_help_60 rfl ?_
        refine w_iconst C 1 dX11_help_61 rfl (by decide) ?_
        refine w_aload_n C dX11_help_62 rfl 4 rfl ?_
        refine w_get C 0 8 (Nat.le_of_ble_eq_true rfl) rfl rfl inB_X11 (by decide) tw6_169 rfl dX11_help_63 rfl ?_
        refine w_iload C dX11_help_66 rfl 0 rfl ?_
        refine w_iald C 8 16 0 (Nat.le_of_ble_eq_true rfl) (fun _ => rfl) rfl h dX11_help_68 rfl (fun h => ?_)
        refine w_ishl C dX11_help_69 rfl ?_
        refine w_ior C dX11_help_70 rfl ?_
        refine w_nm h (fun x13 h => ?_)
        refine w_istore C [(6, .int x13), (5, .int v10.1), (4, .int v7.1), (3, .int v10.2), (2, .int r4), (0, .ref (ad 0)), (1, .int a0)] dX11_help_71 rfl (by decide) rfl ?_
        refine w_iload_n C dX11_help_73 rfl 4 rfl ?_
        refine w_iload C dX11_help_74 rfl 1 rfl ?_
        refine bd1_w h (fun r14 hc h => ?_)
        refine w_callSi C (As := [.int r4, .int v10.1]) (st := []) (cfX11_isOf D cI cT ad (l := X.2.1) C.2.2.1 hc) tw8_9 cs_X11_isOf (by decide +kernel) ⟨Nat.le_of_ble_eq_true rfl, Nat.le_of_ble_eq_true rfl⟩ (by decide) rfl rfl (Nat.le_of_ble_eq_true rfl) dX11_help_76 rfl ?_
        refine w_if_eq C (qt := 105) dX11_help_79 (by decide) rfl h (fun _ h => ?_) (fun _ h => ?_)
        · refine w_iinc (j := 1) C (v10.1 + 1) [(5, .int (v10.1 + 1)), (6, .int x13), (4, .int v7.1), (3, .int v10.2), (2, .int r4), (0, .ref (ad 0)), (1, .int a0)] dX11_help_105 rfl rfl rfl (by decide) rfl ?_
          refine w_goto (q := 41) C dX11_help_108 (by decide) ?_
          exact w_sub [0, 2, 3, 4, 5, 6] rfl (hK12 _ h)
        · refine w_aload_n C dX11_help_82 rfl 5 rfl ?_
          refine w_get C 0 9 (Nat.le_of_ble_eq_true rfl) rfl rfl inB_X11 (by decide) tw6_170 rfl dX11_help_83 rfl ?_
          refine w_iload C dX11_help_86 rfl 1 rfl ?_
          refine w_iald C 9 16 0 (Nat.le_of_ble_eq_true rfl) (fun _ => rfl) rfl h dX11_help_88 rfl (fun h => ?_)
          refine w_iconst C 3 dX11_help_89 rfl (by decide) ?_
          refine w_icmp_ne C (qt := 105) dX11_help_90 (by decide) rfl h (fun _ h => ?_) (fun _ h => ?_)
          · refine w_iinc (j := 1) C (v10.1 + 1) [(5, .int (v10.1 + 1)), (6, .int x13), (4, .int v7.1), (3, .int v10.2), (2, .int r4), (0, .ref (ad 0)), (1, .int a0)] dX11_help_105 rfl rfl rfl (by decide) rfl ?_
            refine w_goto (q := 41) C dX11_help_108 (by decide) ?_
            exact w_sub [0, 2, 3, 4, 5, 6] rfl (hK12 _ h)
          · refine w_iload C dX11_help_93 rfl 0 rfl ?_
            refine w_iload_n C dX11_help_95 rfl 3 rfl ?_
            refine w_iand C dX11_help_96 rfl ?_
            refine w_if_eq C (qt := 105) dX11_help_97 (by decide) rfl h (fun _ h => ?_) (fun _ h => ?_)
            · refine w_iinc (j := 1) C (v10.1 + 1) [(5, .int (v10.1 + 1)), (6, .int x13), (4, .int v7.1), (3, .int v10.2), (2, .int r4), (0, .ref (ad 0)), (1, .int a0)] dX11_help_105 rfl rfl rfl (by decide) rfl ?_
              refine w_goto (q := 41) C dX11_help_108 (by decide) ?_
              exact w_sub [0, 2, 3, 4, 5, 6] rfl (hK12 _ h)
            · refine w_iload_n C dX11_help_100 rfl 3 rfl ?_
              refine w_iload C dX11_help_101 rfl 0 rfl ?_
              refine w_ior C dX11_help_103 rfl ?_
              refine w_nm h (fun x15 h => ?_)
              refine w_istore_n C [(3, .int x15), (6, .int x13), (5, .int v10.1), (4, .int v7.1), (2, .int r4), (0, .ref (ad 0)), (1, .int a0)] dX11_help_104 rfl (by decide) rfl ?_
              refine w_iinc (j := 2) C (v10.1 + 1) [(5, .int (v10.1 + 1)), (3, .int x15), (6, .int x13), (4, .int v7.1), (2, .int r4), (0, .ref (ad 0)), (1, .int a0)] dX11_help_105 rfl rfl rfl (by decide) rfl ?_
              refine w_goto (q := 41) C dX11_help_108 (by decide) ?_
              exact w_sub [0, 3, 1, 4, 5, 6] rfl (hK12 _ h)
  · refine w_aload_n C dX11_help_13 rfl 0 rfl ?_
    refine w_iconst C 1 dX11_help_14 rfl (by decide) ?_
    refine bd2_w h (fun r16 u17 hc h => ?_)
    refine w_callVi C (As := [.int 1]) (st := []) 0 (Nat.le_of_ble_eq_true rfl) rfl rfl (cfX11_fail D cI cT ad (l := X.2.1) C.2.2.1 hc) tw7_117 cy_X11_fail (by decide +kernel) ⟨Nat.le_of_ble_eq_true rfl, Nat.le_of_ble_eq_true rfl⟩ (by decide) rfl rfl (Nat.le_of_ble_eq_true rfl) dX11_help_15 rfl ?_
    exact w_ri2 hr h (by decide) dX11_help_18
theorem cfX11_help (D : va_G) (cI cT : ClassId) (ad : Nat → Nat) {l : Launch} (had : gAp (gM D cI cT ad)) {F : Nat} {σ : St} {a0 : Int32} {r : Int32} {σ' : St} (h : fX11_help F σ a0 = some (r, σ')) : MI l yX11_help (wB yX11_help cX11_help 7 (some .int)) 7 162 (gM D cI cT ad) [.ref (ad 0), .int a0] σ r σ' := mk_MI had (by decide +kernel) (Nat.le_of_ble_eq_true rfl) (fun X hX C hr => wfX11_help C hr h)

def fX11_fits_b (rx : St → Int32 → Int32 →  Option (Int32 × St)) (F : Nat) (σ : St) (a0 : Int32) (a1 : Int32) : Option (Int32 × St) := if a0 = (σ 5 1) then (some (1, σ)) else ckI (a0) 16 (ckI (a0) 16 (nm ((1 <<< ((σ 7 (Int32.toNatClampNeg a0)) &&& 31)) ||| (1 <<< ((σ 8 (Int32.toNatClampNeg a0)) &&& 31))) fun x1 => lp (fun (K3 : (St × Int32) → Option (Int32 × St)) (v2 : St × Int32) => if a1 ≤ v2.2 then (some (0, v2.1)) else ckI (v2.2) 8 (if ((v2.1 27 (Int32.toNatClampNeg v2.2)) &&& x1) = 0 then (ckI (v2.2) 8 (ckI (v2.2) 8 (nm (up v2.1 27 (Int32.toNatClampNeg v2.2) ((v2.1 27 (Int32.toNatClampNeg v2.2)) ||| x1)) fun u5 => bd2 (rx u5 (a0 + 1) a1) fun r6 u7 => ckI (v2.2) 8 (ckI (v2.2) 8 (nm (up u7 27 (Int32.toNatClampNeg v2.2) ((u7 27 (Int32.toNatClampNeg v2.2)) &&& (x1 ^^^ ((-1))))) fun u8 => if r6 = 0 then (K3 ((u8, v2.2 + 1))) else some (1, u8)))))) else K3 ((v2.1, v2.2 + 1)))) F ((σ, 0))))
set_option maxRecDepth 20000 in
theorem wfX11_fits_b {X : XT} {D : va_G} {cI cT : ClassId} {ad : Nat → Nat} {F : Nat} {σ : St} {a0 : Int32} {a1 : Int32} {r : Int32} {σ' : St} {rx : St → Int32 → Int32 →  Option (Int32 × St)} {f0 l0 : Nat} (C : Cx X (gM D cI cT ad) cX11_fits 6 RX11 (f0 + 1) (l0 + 25) 0) (hrx : ∀ (τ : St) (b0 : Int32) (b1 : Int32) (r : Int32) (τ' : St), rx τ b0 b1 = some (r, τ') → MI X.2.1 yX11_fits (wB yX11_fits cX11_fits 6 (some .boolean)) f0 l0 (gM D cI cT ad) [.ref (ad 0), .int b0, .int b1] τ r τ') (hr : RetZ X (gM D cI cT ad) cX11_fits 6 0 r σ') (h : fX11_fits_b rx F σ a0 a1 = some (r, σ')) : WP X (gM D cI cT ad) 6 0 0 σ [(0, .ref (ad 0)), (1, .int a0), (2, .int a1)] [] := by
  unfold fX11_fits_b at h
  refine w_iload_n C dX11_fits_0 rfl 1 rfl ?_
  refine w_aload_n C dX11_fits_1 rfl 0 rfl ?_
  refine w_get C 0 5 (Nat.le_of_ble_eq_true rfl) rfl rfl inB_X11 (by decide) tw6_166 rfl dX11_fits_2 rfl ?_
  refine w_iconst C 1 dX11_fits_5 rfl (by decide) ?_
  refine w_ialdc C 5 8 0 1 (Nat.le_of_ble_eq_true rfl) (fun _ => rfl) rfl (by decide) (by decide) dX11_fits_6 rfl ?_
  refine w_icmp_ne C (qt := 12) dX11_fits_7 (by decide) rfl h (fun _ h => ?_) (fun _ h => ?_)
  · refine w_iconst C 1 dX11_fits_12 rfl (by decide) ?_
    refine w_aload_n C dX11_fits_13 rfl 0 rfl ?_
    refine w_get C 0 7 (Nat.le_of_ble_eq_true rfl) rfl rfl inB_X11 (by decide) tw6_168 rfl dX11_fits_14 rfl ?_
    refine w_iload_n C dX11_fits_17 rfl 1 rfl ?_
    refine w_iald C 7 16 0 (Nat.le_of_ble_eq_true rfl) (fun _ => rfl) rfl h dX11_fits_18 rfl (fun h => ?_)
    refine w_ishl C dX11_fits_19 rfl ?_
    refine w_iconst C 1 dX11_fits_20 rfl (by decide) ?_
    refine w_aload_n C dX11_fits_21 rfl 0 rfl ?_
    refine w_get C 0 8 (Nat.le_of_ble_eq_true rfl) rfl rfl inB_X11 (by decide) tw6_169 rfl dX11_fits_22 rfl ?_
    refine w_iload_n C dX11_fits_25 rfl 1 rfl ?_
    refine w_iald C 8 16 0 (Nat.le_of_ble_eq_true rfl) (fun _ => rfl) rfl h dX11_fits_26 rfl (fun h => ?_)
    refine w_ishl C dX11_fits_27 rfl ?_
    refine w_ior C dX11_fits_28 rfl ?_
    refine w_nm h (fun x1 h => ?_)
    refine w_istore_n C [(3, .int x1), (0, .ref (ad 0)), (1, .int a0), (2, .int a1)] dX11_fits_29 rfl (by decide) rfl ?_
    refine w_iconst C 0 dX11_fits_30 rfl (by decide) ?_
    refine w_istore C [(4, .int 0), (3, .int x1), (0, .ref (ad 0)), (1, .int a0), (2, .int a1)] dX11_fits_31 rfl (by decide) rfl ?_
    refine w_sub [0, 1, 2, 3, 4] rfl ?_
    refine lp_w (fun v2 : St × Int32 => WP X (gM D cI cT ad) 6 0 33 v2.1 [(4, .int v2.2), (3, .int x1), (0, .ref (ad 0)), (1, .int a0), (2, .int a1)] []) (fun K3 hK4 v2 h => ?_) F _ h
    refine w_iload C dX11_fits_33 rfl 0 rfl ?_
    refine w_iload_n C dX11_fits_35 rfl 4 rfl ?_
    refine w_icmp_ge C (qt := 101) dX11_fits_36 (by decide) rfl h (fun _ h => ?_) (fun _ h => ?_)
    · refine w_iconst C 0 dX11_fits_101 rfl (by decide) ?_
      exact w_rz2 hr (by decide) h (by decide) dX11_fits_102
    · refine w_aload_n C dX11_fits_39 rfl 2 rfl ?_
      refine w_get C 0 42 (Nat.le_of_ble_eq_true rfl) rfl rfl inB_X11 (by decide) tw6_203 rfl dX11_fits_40 rfl ?_
      refine w_iload C dX11_fits_43 rfl 0 rfl ?_
      refine w_iald C 27 8 0 (Nat.le_of_ble_eq_true rfl) (fun _ => rfl) rfl h dX11_fits_45 rfl (fun h => ?_)
      refine w_iload_n C dX11_fits_46 rfl 1 rfl ?_
      refine w_iand C dX11_fits_47 rfl ?_
      refine w_if_eq C (qt := 54) dX11_fits_48 (by decide) rfl h (fun _ h => ?_) (fun _ h => ?_)
      · refine w_aload_n C dX11_fits_54 rfl 2 rfl ?_
        refine w_get C 0 42 (Nat.le_of_ble_eq_true rfl) rfl rfl inB_X11 (by decide) tw6_203 rfl dX11_fits_55 rfl ?_
        refine w_iload C dX11_fits_58 rfl 0 rfl ?_
        refine w_dup2 C rfl rfl dX11_fits_60 rfl ?_
        refine w_iald C 27 8 0 (Nat.le_of_ble_eq_true rfl) (fun _ => rfl) rfl h dX11_fits_61 rfl (fun h => ?_)
        refine w_iload_n C dX11_fits_62 rfl 1 rfl ?_
        refine w_ior C dX11_fits_63 rfl ?_
        refine w_iast C 27 8 0 (Nat.le_of_ble_eq_true rfl) (fun _ => rfl) rfl h dX11_fits_64 rfl (fun h => ?_)
        refine w_nst h (fun u5 h => ?_)
        refine w_aload_n C dX11_fits_65 rfl 2 rfl ?_
        refine w_iload_n C dX11_fits_66 rfl 3 rfl ?_
        refine w_iconst C 1 dX11_fits_67 rfl (by decide) ?_
        refine w_iadd C dX11_fits_68 rfl ?_
        refine w_iload_n C dX11_fits_69 rfl 4 rfl ?_
        refine bd2_w h (fun r6 u7 hc h => ?_)
        refine w_callVi C (As := [.int (a0 + 1), .int a1]) (st := []) 0 (Nat.le_of_ble_eq_true rfl) rfl rfl (hrx _ _ _ _ _ hc) tw9_13 cy_X11_fits (by decide +kernel) ⟨by omega, by omega⟩ (by decide) rfl rfl (Nat.le_of_ble_eq_true rfl) dX11_fits_70 rfl ?_
        refine w_istore C [(5, .int r6), (4, .int v2.2), (3, .int x1), (0, .ref (ad 0)), (1, .int a0), (2, .int a1)] dX11_fits_73 rfl (by decide) rfl ?_
        refine w_aload_n C dX11_fits_75 rfl 3 rfl ?_
        refine w_get C 0 42 (Nat.le_of_ble_eq_true rfl) rfl rfl inB_X11 (by decide) tw6_203 rfl dX11_fits_76 rfl ?_
        refine w_iload C dX11_fits_79 rfl 1 rfl ?_
        refine w_dup2 C rfl rfl dX11_fits_81 rfl ?_
        refine w_iald C 27 8 0 (Nat.le_of_ble_eq_true rfl) (fun _ => rfl) rfl h dX11_fits_82 rfl (fun h => ?_)
        refine w_iload_n C dX11_fits_83 rfl 2 rfl ?_
        refine w_iconst C (-1) dX11_fits_84 rfl (by decide) ?_
        refine w_ixor C dX11_fits_85 rfl ?_
        refine w_iand C dX11_fits_86 rfl ?_
        refine w_iast C 27 8 0 (Nat.le_of_ble_eq_true rfl) (fun _ => rfl) rfl h dX11_fits_87 rfl (fun h => ?_)
        refine w_nst h (fun u8 h => ?_)
        refine w_iload C dX11_fits_88 rfl 0 rfl ?_
        refine w_if_eq C (qt := 95) dX11_fits_90 (by decide) rfl h (fun _ h => ?_) (fun _ h => ?_)
        · refine w_iinc (j := 1) C (v2.2 + 1) [(4, .int (v2.2 + 1)), (5, .int r6), (3, .int x1), (0, .ref (ad 0)), (1, .int a0), (2, .int a1)] dX11_fits_95 rfl rfl rfl (by decide) rfl ?_
          refine w_goto (q := 33) C dX11_fits_98 (by decide) ?_
          exact w_sub [0, 2, 3, 4, 5] rfl (hK4 _ h)
        · refine w_iconst C 1 dX11_fits_93 rfl (by decide) ?_
          exact w_rz2 hr (by decide) h (by decide) dX11_fits_94
      · refine w_goto (q := 95) C dX11_fits_51 (by decide) ?_
        refine w_iinc (j := 0) C (v2.2 + 1) [(4, .int (v2.2 + 1)), (3, .int x1), (0, .ref (ad 0)), (1, .int a0), (2, .int a1)] dX11_fits_95 rfl rfl rfl (by decide) rfl ?_
        refine w_goto (q := 33) C dX11_fits_98 (by decide) ?_
        exact w_sub [0, 1, 2, 3, 4] rfl (hK4 _ h)
  · refine w_iconst C 1 dX11_fits_10 rfl (by decide) ?_
    exact w_rz2 hr (by decide) h (by decide) dX11_fits_11
theorem cfX11_fits_b (D : va_G) (cI cT : ClassId) (ad : Nat → Nat) {l : Launch} (had : gAp (gM D cI cT ad)) {rx : St → Int32 → Int32 →  Option (Int32 × St)} {f0 l0 : Nat} (hrx : ∀ (τ : St) (b0 : Int32) (b1 : Int32) (r : Int32) (τ' : St), rx τ b0 b1 = some (r, τ') → MI l yX11_fits (wB yX11_fits cX11_fits 6 (some .boolean)) f0 l0 (gM D cI cT ad) [.ref (ad 0), .int b0, .int b1] τ r τ') {F : Nat} {σ : St} {a0 : Int32} {a1 : Int32} {r : Int32} {σ' : St} (h : fX11_fits_b rx F σ a0 a1 = some (r, σ')) : MI l yX11_fits (wB yX11_fits cX11_fits 6 (some .boolean)) (f0 + 1) (l0 + 25) (gM D cI cT ad) [.ref (ad 0), .int a0, .int a1] σ r σ' := mk_MZ had (by decide +kernel) (Nat.le_of_ble_eq_true rfl) (fun X hX C hr => wfX11_fits_b C (by rw [hX]; exact hrx) hr h)
def fX11_fits (F : Nat) : Nat → St → Int32 → Int32 →  Option (Int32 × St)
  | 0, _, _, _ => none
  | d + 1, σ, a0, a1 => fX11_fits_b (fX11_fits F d) F σ a0 a1
theorem cfX11_fits (D : va_G) (cI cT : ClassId) (ad : Nat → Nat) {l : Launch} (had : gAp (gM D cI cT ad)) {F : Nat} : ∀ (d : Nat) {σ : St} {a0 : Int32} {a1 : Int32} {r : Int32} {σ' : St} (h : fX11_fits F d σ a0 a1 = some (r, σ')), MI l yX11_fits (wB yX11_fits cX11_fits 6 (some .boolean)) (1 * d) (25 * d) (gM D cI cT ad) [.ref (ad 0), .int a0, .int a1] σ r σ'
  | 0, _, _, _, _, _, h => nomatch h
  | d + 1, _, _, _, _, _, h => cfX11_fits_b D cI cT ad had (f0 := 1 * d) (l0 := 25 * d) (rx := fX11_fits F d) (fun _ _ _ _ _ hh => cfX11_fits D cI cT ad had d hh) h

