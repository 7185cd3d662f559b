def fX10_addBytes (F : Nat) (σ : St) (a0 : Int32) : Option St := lp (fun (K2 : (St × Int32) → Option St) (v1 : St × Int32) => if v1.2 < 0 then (some v1.1) else if (700 : Int32) ≤ (v1.1 0 1) then (some v1.1) else ckI (v1.1 0 1) 700 (nm (up v1.1 1 (Int32.toNatClampNeg (v1.1 0 1)) ((ushr a0 v1.2) &&& 255)) fun u4 => nm (up u4 0 1 ((u4 0 1) + 1)) fun u6 => K2 ((u6, v1.2 + Int32.ofInt (-8))))) F ((σ, 24))
set_option maxRecDepth 20000 in
theorem wfX10_addBytes {X : XT} {D : va_G} {cI : ClassId} {ad : Nat → Nat} {F : Nat} {σ : St} {a0 : Int32} {σ' : St} (C : Cx X (gC D cI ad) cX10_addBytes 3 RX10 0 0 0) (hr : RetV X (gC D cI ad) cX10_addBytes 3 0 σ') (h : fX10_addBytes F σ a0 = some σ') : WP X (gC D cI ad) 3 0 0 σ [(0, .ref (ad 0)), (1, .int a0)] [] := by
  unfold fX10_addBytes at h
  refine w_bipush C 24 dX10_addBytes_0 rfl (by decide) ?_
  refine w_istore_n C [(2, .int 24), (0, .ref (ad 0)), (1, .int a0)] dX10_addBytes_2 rfl (by decide) rfl ?_
  refine w_sub (lv' := [(2, .int 24), (0, .ref (ad 0)), (1, .int a0)]) [0, 1, 2] rfl ?_
  refine lp_w (fun v1 : St × Int32 => WP X (gC D cI ad) 3 0 3 v1.1 [(2, .int v1.2), (0, .ref (ad 0)), (1, .int a0)] []) (fun K2 hK3 v1 h => ?_) F _ h
  refine w_iload_n C dX10_addBytes_3 rfl 0 rfl ?_
  refine w_if_lt C (qt := 49) dX10_addBytes_4 (by decide) rfl h (fun _ h => ?_) (fun _ h => ?_)
  · exact w_rv hr h (by decide) dX10_addBytes_49
  · refine w_aload_n C dX10_addBytes_7 rfl 1 rfl ?_
    refine w_get C 0 1 (Nat.le_of_ble_eq_true rfl) rfl rfl inB_X10 (by decide) tw2_173 rfl dX10_addBytes_8 rfl ?_
    refine w_sipush C 700 dX10_addBytes_11 rfl (by decide) ?_
    refine w_icmp_ge C (qt := 49) dX10_addBytes_14 (by decide) rfl h (fun _ h => ?_) (fun _ h => ?_)
    · exact w_rv hr h (by decide) dX10_addBytes_49
    · refine w_aload_n C dX10_addBytes_17 rfl 1 rfl ?_
      refine w_get C 0 0 (Nat.le_of_ble_eq_true rfl) rfl rfl inB_X10 (by decide) tw2_172 rfl dX10_addBytes_18 rfl ?_
      refine w_aload_n C dX10_addBytes_21 rfl 1 rfl ?_
      refine w_get C 0 1 (Nat.le_of_ble_eq_true rfl) rfl rfl inB_X10 (by decide) tw2_173 rfl dX10_addBytes_22 rfl ?_
      refine w_iload_n C dX10_addBytes_25 rfl 2 rfl ?_
      refine w_iload_n C dX10_addBytes_26 rfl 0 rfl ?_
      refine w_iushr C dX10_addBytes_27 rfl ?_
      refine w_sipush C 255 dX10_addBytes_28 rfl (by decide) ?_
      refine w_iand C dX10_addBytes_31 rfl ?_
      refine w_iast C 1 700 0 (Nat.le_of_ble_eq_true rfl) (fun _ => rfl) rfl h dX10_addBytes_32 rfl (fun h => ?_)
      refine w_nst h (fun u4 h => ?_)
      refine w_aload_n C dX10_addBytes_33 rfl 1 rfl ?_
      refine w_dup C rfl dX10_addBytes_34 rfl ?_
      refine w_get C 0 1 (Nat.le_of_ble_eq_true rfl) rfl rfl inB_X10 (by decide) tw2_173 rfl dX10_addBytes_35 rfl ?_
      refine w_iconst C 1 dX10_addBytes_38 rfl (by decide) ?_
      refine w_iadd C dX10_addBytes_39 rfl ?_
      refine w_put C 0 1 ((u4 0 1) + 1) (Nat.le_of_ble_eq_true rfl) rfl rfl inB_X10 tyX10_ok nmX10 (by decide) tw2_173 rfl rfl rfl (Nat.le_of_ble_eq_true rfl) rfl dX10_addBytes_40 rfl ?_
      refine w_nst h (fun u6 h => ?_)
      refine w_iinc (j := 0) C (v1.2 + Int32.ofInt (-8)) [(2, .int (v1.2 + Int32.ofInt (-8))), (0, .ref (ad 0)), (1, .int a0)] dX10_addBytes_43 rfl rfl rfl (by decide) rfl ?_
      refine w_goto (q := 3) C dX10_addBytes_46 (by decide) ?_
      exact w_sub (lv' := [(2, .int (v1.2 + Int32.ofInt (-8))), (0, .ref (ad 0)), (1, .int a0)]) [0, 1, 2] rfl (hK3 ((u6, v1.2 + Int32.ofInt (-8))) h)
theorem cfX10_addBytes (D : va_G) (cI : ClassId) (ad : Nat → Nat) {l : Launch} (had : gAp (gC D cI ad)) {F : Nat} {σ : St} {a0 : Int32} {σ' : St} (h : fX10_addBytes F σ a0 = some σ') : MV l yX10_addBytes (wB yX10_addBytes cX10_addBytes 3 none) 0 0 (gC D cI ad) [.ref (ad 0), .int a0] σ σ' := mk_MV had (by decide +kernel) (Nat.le_of_ble_eq_true rfl) (fun X hX C hr => wfX10_addBytes C hr h)

def fX10_feed (F : Nat) (σ : St) (a0 : Int32) (a1 : Int32) (a2 : Int32) (a3 : Int32) (a4 : Int32) : Option (Int32 × St) := if ((σ 0 1) + 20) ≤ (700 : Int32) then (bd1 (fX10_addBytes F σ a0) fun u1 => bd1 (fX10_addBytes F u1 a1) fun u2 => bd1 (fX10_addBytes F u2 a2) fun u3 => bd1 (fX10_addBytes F u3 a3) fun u4 => bd1 (fX10_addBytes F u4 a4) fun u5 => some (u5 0 1, u5)) else some ((-1), σ)
set_option maxRecDepth 20000 in
theorem wfX10_feed {X : XT} {D : va_G} {cI : ClassId} {ad : Nat → Nat} {F : Nat} {σ : St} {a0 : Int32} {a1 : Int32} {a2 : Int32} {a3 : Int32} {a4 : Int32} {r : Int32} {σ' : St} (C : Cx X (gC D cI ad) cX10_feed 6 RX10 1 22 0) (hr : RetI X (gC D cI ad) cX10_feed 6 0 r σ') (h : fX10_feed F σ a0 a1 a2 a3 a4 = some (r, σ')) : WP X (gC D cI ad) 6 0 0 σ [(0, .ref (ad 0)), (1, .int a0), (2, .int a1), (3, .int a2), (4, .int a3), (5, .int a4)] [] := by
  unfold fX10_feed at h
  refine w_aload_n C dX10_feed_0 rfl 0 rfl ?_
  refine w_get C 0 1 (Nat.le_of_ble_eq_true rfl) rfl rfl inB_X10 (by decide) tw2_173 rfl dX10_feed_1 rfl ?_
  refine w_bipush C 20 dX10_feed_4 rfl (by decide) ?_
  refine w_iadd C dX10_feed_6 rfl ?_
  refine w_sipush C 700 dX10_feed_7 rfl (by decide) ?_
  refine w_icmp_le C (qt := 15) dX10_feed_10 (by decide) rfl h (fun _ h => ?_) (fun _ h => ?_)
  · refine w_aload_n C dX10_feed_15 rfl 0 rfl ?_
    refine w_iload_n C dX10_feed_16 rfl 1 rfl ?_
    refine bd1_w h (fun u1 hc h => ?_)
    refine w_callVv C (n := 1) (As := [.int a0]) (st := []) 0 (Nat.le_of_ble_eq_true rfl) rfl rfl (cfX10_addBytes D cI ad (l := X.2.1) C.2.2.1 hc) tw2_222 cy_X10_addBytes (by decide +kernel) ⟨Nat.le_of_ble_eq_true rfl, Nat.le_of_ble_eq_true rfl⟩ (by decide) rfl rfl (Nat.le_of_ble_eq_true rfl) dX10_feed_17 rfl ?_
    refine w_aload_n C dX10_feed_20 rfl 0 rfl ?_
    refine w_iload_n C dX10_feed_21 rfl 2 rfl ?_
    refine bd1_w h (fun u2 hc h => ?_)
    refine w_callVv C (n := 1) (As := [.int a1]) (st := []) 0 (Nat.le_of_ble_eq_true rfl) rfl rfl (cfX10_addBytes D cI ad (l := X.2.1) C.2.2.1 hc) tw2_222 cy_X10_addBytes (by decide +kernel) ⟨Nat.le_of_ble_eq_true rfl, Nat.le_of_ble_eq_true rfl⟩ (by decide) rfl rfl (Nat.le_of_ble_eq_true rfl) dX10_feed_22 rfl ?_
    refine w_aload_n C dX10_feed_25 rfl 0 rfl ?_
    refine w_iload_n C dX10_feed_26 rfl 3 rfl ?_
    refine bd1_w h (fun u3 hc h => ?_)
    refine w_callVv C (n := 1) (As := [.int a2]) (st := []) 0 (Nat.le_of_ble_eq_true rfl) rfl rfl (cfX10_addBytes D cI ad (l := X.2.1) C.2.2.1 hc) tw2_222 cy_X10_addBytes (by decide +kernel) ⟨Nat.le_of_ble_eq_true rfl, Nat.le_of_ble_eq_true rfl⟩ (by decide) rfl rfl (Nat.le_of_ble_eq_true rfl) dX10_feed_27 rfl ?_
    refine w_aload_n C dX10_feed_30 rfl 0 rfl ?_
    refine w_iload C dX10_feed_31 rfl 4 rfl ?_
    refine bd1_w h (fun u4 hc h => ?_)
    refine w_callVv C (n := 1) (As := [.int a3]) (st := []) 0 (Nat.le_of_ble_eq_true rfl) rfl rfl (cfX10_addBytes D cI ad (l := X.2.1) C.2.2.1 hc) tw2_222 cy_X10_addBytes (by decide +kernel) ⟨Nat.le_of_ble_eq_true rfl, Nat.le_of_ble_eq_true rfl⟩ (by decide) rfl rfl (Nat.le_of_ble_eq_true rfl) dX10_feed_33 rfl ?_
    refine w_aload_n C dX10_feed_36 rfl 0 rfl ?_
    refine w_iload C dX10_feed_37 rfl 5 rfl ?_
    refine bd1_w h (fun u5 hc h => ?_)
    refine w_callVv C (n := 1) (As := [.int a4]) (st := []) 0 (Nat.le_of_ble_eq_true rfl) rfl rfl (cfX10_addBytes D cI ad (l := X.2.1) C.2.2.1 hc) tw2_222 cy_X10_addBytes (by decide +kernel) ⟨Nat.le_of_ble_eq_true rfl, Nat.le_of_ble_eq_true rfl⟩ (by decide) rfl rfl (Nat.le_of_ble_eq_true rfl) dX10_feed_39 rfl ?_
    refine w_aload_n C dX10_feed_42 rfl 0 rfl ?_
    refine w_get C 0 1 (Nat.le_of_ble_eq_true rfl) rfl rfl inB_X10 (by decide) tw2_173 rfl dX10_feed_43 rfl ?_
    exact w_ri2 hr h (by decide) dX10_feed_46
  · refine w_iconst C (-1) dX10_feed_13 rfl (by decide) ?_
    exact w_ri2 hr h (by decide) dX10_feed_14
theorem cfX10_feed (D : va_G) (cI : ClassId) (ad : Nat → Nat) {l : Launch} (had : gAp (gC D cI ad)) {F : Nat} {σ : St} {a0 : Int32} {a1 : Int32} {a2 : Int32} {a3 : Int32} {a4 : Int32} {r : Int32} {σ' : St} (h : fX10_feed F σ a0 a1 a2 a3 a4 = some (r, σ')) : MI l yX10_feed (wB yX10_feed cX10_feed 6 (some .int)) 1 22 (gC D cI ad) [.ref (ad 0), .int a0, .int a1, .int a2, .int a3, .int a4] σ r σ' := mk_MI had (by decide +kernel) (Nat.le_of_ble_eq_true rfl) (fun X hX C hr => wfX10_feed C hr h)

def fX0_empty (F : Nat) (σ : St) : Option St := nm (up σ 15 0 0) fun u2 => nm (up u2 15 1 0) fun u4 => nm (up u4 15 2 12) fun u6 => nm (up u6 15 3 0) fun u8 => nm (up u8 15 4 0) fun u10 => nm (up u10 25 0 0) fun u12 => some u12
set_option maxRecDepth 20000 in
theorem wfX0_empty {X : XT} {D : va_G} {cI : ClassId} {ad : Nat → Nat} {F : Nat} {σ : St}  {σ' : St} (C : Cx X (gC D cI ad) cX0_empty 1 RX0 0 0 0) (hr : RetV X (gC D cI ad) cX0_empty 1 0 σ') (h : fX0_empty F σ = some σ') : WP X (gC D cI ad) 1 0 0 σ [(0, .ref (ad 15))] [] := by
  unfold fX0_empty at h
  refine w_aload_n C dX0_empty_0 rfl 0 rfl ?_
  refine w_iconst C 0 dX0_empty_1 rfl (by decide) ?_
  refine w_put C 15 0 0 (Nat.le_of_ble_eq_true rfl) rfl rfl inB_X0 tyX0_ok nmX0 (by decide) tw1_58 rfl rfl rfl (Nat.le_of_ble_eq_true rfl) rfl dX0_empty_2 rfl ?_
  refine w_nst h (fun u2 h => ?_)
  refine w_aload_n C dX0_empty_5 rfl 0 rfl ?_
  refine w_iconst C 0 dX0_empty_6 rfl (by decide) ?_
  refine w_put C 15 1 0 (Nat.le_of_ble_eq_true rfl) rfl rfl inB_X0 tyX0_ok nmX0 (by decide) tw1_62 rfl rfl rfl (Nat.le_of_ble_eq_true rfl) rfl dX0_empty_7 rfl ?_
  refine w_nst h (fun u4 h => ?_)
  refine w_aload_n C dX0_empty_10 rfl 0 rfl ?_
  refine w_bipush C 12 dX0_empty_11 rfl (by decide) ?_
  refine w_put C 15 2 12 (Nat.le_of_ble_eq_true rfl) rfl rfl inB_X0 tyX0_ok nmX0 (by decide) tw1_69 rfl rfl rfl (Nat.le_of_ble_eq_true rfl) rfl dX0_empty_13 rfl ?_
  refine w_nst h (fun u6 h => ?_)
  refine w_aload_n C dX0_empty_16 rfl 0 rfl ?_
  refine w_iconst C 0 dX0_empty_17 rfl (by decide) ?_
  refine w_put C 15 3 0 (Nat.le_of_ble_eq_true rfl) rfl rfl inB_X0 tyX0_ok nmX0 (by decide) tw1_74 rfl rfl rfl (Nat.le_of_ble_eq_true rfl) rfl dX0_empty_18 rfl ?_
  refine w_nst h (fun u8 h => ?_)
  refine w_aload_n C dX0_empty_21 rfl 0 rfl ?_
  refine w_iconst C 0 dX0_empty_22 rfl (by decide) ?_
  refine w_put C 15 4 0 (Nat.le_of_ble_eq_true rfl) rfl rfl inB_X0 tyX0_ok nmX0 (by decide) tw1_76 rfl rfl rfl (Nat.le_of_ble_eq_true rfl) rfl dX0_empty_23 rfl ?_
  refine w_nst h (fun u10 h => ?_)
  refine w_aload_n C dX0_empty_26 rfl 0 rfl ?_
  refine w_get C 15 14 (Nat.le_of_ble_eq_true rfl) rfl rfl inB_X0 (by decide) tw1_116 rfl dX0_empty_27 rfl ?_
  refine w_iconst C 0 dX0_empty_30 rfl (by decide) ?_
  refine w_put C 25 0 0 (Nat.le_of_ble_eq_true rfl) rfl rfl inB_X8 tyX8_ok nmX8 (by decide) tw1_47 rfl rfl rfl (Nat.le_of_ble_eq_true rfl) rfl dX0_empty_31 rfl ?_
  refine w_nst h (fun u12 h => ?_)
  exact w_rv hr h (by decide) dX0_empty_34
theorem cfX0_empty (D : va_G) (cI : ClassId) (ad : Nat → Nat) {l : Launch} (had : gAp (gC D cI ad)) {F : Nat} {σ : St}  {σ' : St} (h : fX0_empty F σ = some σ') : MV l yX0_empty (wB yX0_empty cX0_empty 1 none) 0 0 (gC D cI ad) [.ref (ad 15)] σ σ' := mk_MV had (by decide +kernel) (Nat.le_of_ble_eq_true rfl) (fun X hX C hr => wfX0_empty C hr h)

def fX7_kindAt (F : Nat) (σ : St) (a0 : Int32) : Option Int32 := if a0 < 0 then (some 0) else if a0 < (σ 28 2) then (ckE (σ 28 1) 1 (ckI (a0) 700 (nm (σ 1 (Int32.toNatClampNeg a0)) fun x1 => if x1 = (32 : Int32) then (some 4) else if x1 = (10 : Int32) then (some 4) else jn (fun v2 : Unit => jn (fun v5 : Unit => jn (fun v8 : Int32 => if v8 = 0 then (some 5) else some 3) fun J9 => jn (fun v11 : Unit => J9 1) fun J12 => if x1 = (59 : Int32) then (J12 (())) else if x1 = (40 : Int32) then (J12 (())) else if x1 = (41 : Int32) then (J12 (())) else if x1 = (43 : Int32) then (J12 (())) else if x1 = (45 : Int32) then (J12 (())) else if x1 = (42 : Int32) then (J12 (())) else if x1 = (47 : Int32) then (J12 (())) else if x1 = (60 : Int32) then (J12 (())) else if x1 = (61 : Int32) then (J12 (())) else J9 0) fun J6 => if x1 < (48 : Int32) then (J6 (())) else if (57 : Int32) < x1 then (J6 (())) else some 2) fun J3 => if x1 < (97 : Int32) then (J3 (())) else if (122 : Int32) < x1 then (J3 (())) else some 1))) else some 0
set_option maxRecDepth 20000 in
theorem wfX7_kindAt {X : XT} {D : va_G} {cI : ClassId} {ad : Nat → Nat} {F : Nat} {σ : St} {a0 : Int32} {r : Int32} (C : Cx X (gC D cI ad) cX7_kindAt 4 RX7 0 0 0) (hr : RetI X (gC D cI ad) cX7_kindAt 4 0 r σ) (h : fX7_kindAt F σ a0 = some r) : WP X (gC D cI ad) 4 0 0 σ [(0, .ref (ad 28)), (1, .int a0)] [] := by
  unfold fX7_kindAt at h
  refine w_iload_n C dX7_kindAt_0 rfl 1 rfl ?_
  refine w_if_lt C (qt := 12) dX7_kindAt_1 (by decide) rfl h (fun _ h => ?_) (fun _ h => ?_)
  · refine w_iconst C 0 dX7_kindAt_12 rfl (by decide) ?_
    exact w_ri1 hr h (by decide) dX7_kindAt_13
  · refine w_iload_n C dX7_kindAt_4 rfl 1 rfl ?_
    refine w_aload_n C dX7_kindAt_5 rfl 0 rfl ?_
    refine w_get C 28 2 (Nat.le_of_ble_eq_true rfl) rfl rfl inB_X7 (by decide) tw1_158 rfl dX7_kindAt_6 rfl ?_
    refine w_icmp_lt C (qt := 14) dX7_kindAt_9 (by decide) rfl h (fun _ h => ?_) (fun _ h => ?_)
    · refine w_aload_n C dX7_kindAt_14 rfl 0 rfl ?_
      obtain ⟨ht, h⟩ := ckE_w h
      refine w_get C 28 1 (Nat.le_of_ble_eq_true rfl) rfl rfl inB_X7 (by decide) tw1_157 (by show _ = some (Value.ref (ad (σ 28 1).toNatClampNeg)); rfl) dX7_kindAt_15 rfl ?_
      rw [ht]
      refine w_iload_n C dX7_kindAt_18 rfl 1 rfl ?_
      refine w_iald C 1 700 0 (Nat.le_of_ble_eq_true rfl) (fun _ => rfl) rfl h dX7_kindAt_19 rfl (fun h => ?_)
      refine w_nm h (fun x1 h => ?_)
      refine w_istore_n C [(2, .int x1), (0, .ref (ad 28)), (1, .int a0)] dX7_kindAt_20 rfl (by decide) rfl ?_
      refine w_iload_n C dX7_kindAt_21 rfl 0 rfl ?_
      refine w_bipush C 32 dX7_kindAt_22 rfl (by decide) ?_
      refine w_icmp_eq C (qt := 33) dX7_kindAt_24 (by decide) rfl h (fun _ h => ?_) (fun _ h => ?_)
      · refine w_iconst C 4 dX7_kindAt_33 rfl (by decide) ?_
        exact w_ri1 hr h (by decide) dX7_kindAt_34
      · refine w_iload_n C dX7_kindAt_27 rfl 0 rfl ?_
        refine w_bipush C 10 dX7_kindAt_28 rfl (by decide) ?_
        refine w_icmp_ne C (qt := 35) dX7_kindAt_30 (by decide) rfl h (fun _ h => ?_) (fun _ h => ?_)
        · refine w_iload_n C dX7_kindAt_35 rfl 0 rfl ?_
          refine w_bipush C 97 dX7_kindAt_36 rfl (by decide) ?_
          refine jn_w (fun v2 : Unit => WP X (gC D cI ad) 4 0 49 σ [(2, .int x1)] []) h (fun v2 h => ?_) (fun J3 hJ4 h => ?_)
          · refine w_iload_n C dX7_kindAt_49 rfl 0 rfl ?_
            refine w_bipush C 48 dX7_kindAt_50 rfl (by decide) ?_
            refine jn_w (fun v5 : Unit => WP X (gC D cI ad) 4 0 63 σ [(2, .int x1)] []) h (fun v5 h => ?_) (fun J6 hJ7 h => ?_)
            · refine w_iload_n C dX7_kindAt_63 rfl 0 rfl ?_
              refine w_bipush C 59 dX7_kindAt_64 rfl (by decide) ?_
              refine jn_w (fun v8 : Int32 => WP X (gC D cI ad) 4 0 122 σ [] [.int v8]) h (fun v8 h => ?_) (fun J9 hJ10 h => ?_)
              · refine w_istore_n C [(3, .int v8)] dX7_kindAt_122 rfl (by decide) rfl ?_
                refine w_iload_n C dX7_kindAt_123 rfl 0 rfl ?_
                refine w_if_eq C (qt := 131) dX7_kindAt_124 (by decide) rfl h (fun _ h => ?_) (fun _ h => ?_)
                · refine w_iconst C 5 dX7_kindAt_131 rfl (by decide) ?_
                  exact w_ri1 hr h (by decide) dX7_kindAt_132
                · refine w_iconst C 3 dX7_kindAt_127 rfl (by decide) ?_
                  refine w_goto (q := 132) C dX7_kindAt_128 (by decide) ?_
                  exact w_ri1 hr h (by decide) dX7_kindAt_132
              · refine jn_w (fun v11 : Unit => WP X (gC D cI ad) 4 0 117 σ [] []) h (fun v11 h => ?_) (fun J12 hJ13 h => ?_)
                · refine w_iconst C 1 dX7_kindAt_117 rfl (by decide) ?_
                  refine w_goto (q := 122) C dX7_kindAt_118 (by decide) ?_
                  exact w_sub (lv' := []) [] rfl (hJ10 1 h)
                · refine w_icmp_eq C (qt := 117) dX7_kindAt_66 (by decide) rfl h (fun _ h => ?_) (fun _ h => ?_)
                  · exact w_sub (lv' := []) [] rfl (hJ13 (()) h)
                  · refine w_iload_n C dX7_kindAt_69 rfl 0 rfl ?_
                    refine w_bipush C 40 dX7_kindAt_70 rfl (by decide) ?_
                    refine w_icmp_eq C (qt := 117) dX7_kindAt_72 (by decide) rfl h (fun _ h => ?_) (fun _ h => ?_)
                    · exact w_sub (lv' := []) [] rfl (hJ13 (()) h)
                    · refine w_iload_n C dX7_kindAt_75 rfl 0 rfl ?_
                      refine w_bipush C 41 dX7_kindAt_76 rfl (by decide) ?_
                      refine w_icmp_eq C (qt := 117) dX7_kindAt_78 (by decide) rfl h (fun _ h => ?_) (fun _ h => ?_)
                      · exact w_sub (lv' := []) [] rfl (hJ13 (()) h)
                      · refine w_iload_n C dX7_kindAt_81 rfl 0 rfl ?_
                        refine w_bipush C 43 dX7_kindAt_82 rfl (by decide) ?_
                        refine w_icmp_eq C (qt := 117) dX7_kindAt_84 (by decide) rfl h (fun _ h => ?_) (fun _ h => ?_)
                        · exact w_sub (lv' := []) [] rfl (hJ13 (()) h)
                        · refine w_iload_n C dX7_kindAt_87 rfl 0 rfl ?_
                          refine w_bipush C 45 dX7_kindAt_88 rfl (by decide) ?_
                          refine w_icmp_eq C (qt := 117) dX7_kindAt_90 (by decide) rfl h (fun _ h => ?_) (fun _ h => ?_)
                          · exact w_sub (lv' := []) [] rfl (hJ13 (()) h)
                          · refine w_iload_n C dX7_kindAt_93 rfl 0 rfl ?_
                            refine w_bipush C 42 dX7_kindAt_94 rfl (by decide) ?_
                            refine w_icmp_eq C (qt := 117) dX7_kindAt_96 (by decide) rfl h (fun _ h => ?_) (fun _ h => ?_)
                            · exact w_sub (lv' := []) [] rfl (hJ13 (()) h)
                            · refine w_iload_n C dX7_kindAt_99 rfl 0 rfl ?_
                              refine w_bipush C 47 dX7_kindAt_100 rfl (by decide) ?_
                              refine w_icmp_eq C (qt := 117) dX7_kindAt_102 (by decide) rfl h (fun _ h => ?_) (fun _ h => ?_)
                              · exact w_sub (lv' := []) [] rfl (hJ13 (()) h)
                              · refine w_iload_n C dX7_kindAt_105 rfl 0 rfl ?_
                                refine w_bipush C 60 dX7_kindAt_106 rfl (by decide) ?_
                                refine w_icmp_eq C (qt := 117) dX7_kindAt_108 (by decide) rfl h (fun _ h => ?_) (fun _ h => ?_)
                                · exact w_sub (lv' := []) [] rfl (hJ13 (()) h)
                                · refine w_iload_n C dX7_kindAt_111 rfl 0 rfl ?_
                                  refine w_bipush C 61 dX7_kindAt_112 rfl (by decide) ?_
                                  refine w_icmp_ne C (qt := 121) dX7_kindAt_114 (by decide) rfl h (fun _ h => ?_) (fun _ h => ?_)
                                  · refine w_iconst C 0 dX7_kindAt_121 rfl (by decide) ?_
                                    exact w_sub (lv' := []) [] rfl (hJ10 0 h)
                                  · exact w_sub (lv' := []) [] rfl (hJ13 (()) h)
            · refine w_icmp_lt C (qt := 63) dX7_kindAt_52 (by decide) rfl h (fun _ h => ?_) (fun _ h => ?_)
              · exact w_sub (lv' := [(2, .int x1)]) [0] rfl (hJ7 (()) h)
              · refine w_iload_n C dX7_kindAt_55 rfl 0 rfl ?_
                refine w_bipush C 57 dX7_kindAt_56 rfl (by decide) ?_
                refine w_icmp_gt C (qt := 63) dX7_kindAt_58 (by decide) rfl h (fun _ h => ?_) (fun _ h => ?_)
                · exact w_sub (lv' := [(2, .int x1)]) [0] rfl (hJ7 (()) h)
                · refine w_iconst C 2 dX7_kindAt_61 rfl (by decide) ?_
                  exact w_ri1 hr h (by decide) dX7_kindAt_62
          · refine w_icmp_lt C (qt := 49) dX7_kindAt_38 (by decide) rfl h (fun _ h => ?_) (fun _ h => ?_)
            · exact w_sub (lv' := [(2, .int x1)]) [0] rfl (hJ4 (()) h)
            · refine w_iload_n C dX7_kindAt_41 rfl 0 rfl ?_
              refine w_bipush C 122 dX7_kindAt_42 rfl (by decide) ?_
              refine w_icmp_gt C (qt := 49) dX7_kindAt_44 (by decide) rfl h (fun _ h => ?_) (fun _ h => ?_)
              · exact w_sub (lv' := [(2, .int x1)]) [0] rfl (hJ4 (()) h)
              · refine w_iconst C 1 dX7_kindAt_47 rfl (by decide) ?_
                exact w_ri1 hr h (by decide) dX7_kindAt_48
        · refine w_iconst C 4 dX7_kindAt_33 rfl (by decide) ?_
          exact w_ri1 hr h (by decide) dX7_kindAt_34
    · refine w_iconst C 0 dX7_kindAt_12 rfl (by decide) ?_
      exact w_ri1 hr h (by decide) dX7_kindAt_13
theorem cfX7_kindAt (D : va_G) (cI : ClassId) (ad : Nat → Nat) {l : Launch} (had : gAp (gC D cI ad)) {F : Nat} {σ : St} {a0 : Int32} {r : Int32} (h : fX7_kindAt F σ a0 = some r) : MI l yX7_kindAt (wB yX7_kindAt cX7_kindAt 4 (some .int)) 0 0 (gC D cI ad) [.ref (ad 28), .int a0] σ r σ := mk_MI had (by decide +kernel) (Nat.le_of_ble_eq_true rfl) (fun X hX C hr => wfX7_kindAt C hr h)

def fX7_nextToken (F : Nat) (σ : St) : Option St := nm (up σ 28 4 (σ 28 5)) fun u2 => lp (fun (K4 : (St × Int32) → Option St) (v3 : St × Int32) => jn (fun v6 : Unit => bd1 (fX7_kindAt F v3.1 (v3.1 28 4)) fun r9 => nm (up v3.1 28 3 r9) fun u11 => jn (fun v12 : Int32 => nm (up u11 28 5 v12) fun u16 => jn (fun v17 : Int32 => lp (fun (K21 : (St × Int32) → Option St) (v20 : St × Int32) => if (700 : Int32) ≤ v20.2 then (some v20.1) else if v17 = 0 then (some v20.1) else bd1 (fX7_kindAt F v20.1 (v20.1 28 5)) fun r23 => if r23 = (v20.1 28 3) then (nm (up v20.1 28 5 ((v20.1 28 5) + 1)) fun u25 => K21 ((u25, v20.2 + 1))) else some v20.1) F ((u16, 0))) fun J18 => jn (fun v26 : Unit => J18 1) fun J27 => if (u16 28 3) = (1 : Int32) then (J27 (())) else if (u16 28 3) = (2 : Int32) then (J27 (())) else J18 0) fun J13 => if (u11 28 3) = 0 then (J13 (u11 28 4)) else J13 ((u11 28 4) + 1)) fun J7 => if (700 : Int32) ≤ v3.2 then (J7 (())) else bd1 (fX7_kindAt F v3.1 (v3.1 28 4)) fun r29 => if r29 = (4 : Int32) then (nm (up v3.1 28 4 ((v3.1 28 4) + 1)) fun u31 => K4 ((u31, v3.2 + 1))) else J7 (())) F ((u2, 0))
set_option maxRecDepth 20000 in
theorem wfX7_nextToken {X : XT} {D : va_G} {cI : ClassId} {ad : Nat → Nat} {F : Nat} {σ : St}  {σ' : St} (C : Cx X (gC D cI ad) cX7_nextToken 3 RX7 1 23 0) (hr : RetV X (gC D cI ad) cX7_nextToken 3 0 σ') (h : fX7_nextToken F σ = some σ') : WP X (gC D cI ad) 3 0 0 σ [(0, .ref (ad 28))] [] := by
  unfold fX7_nextToken at h
  refine w_aload_n C dX7_nextToken_0 rfl 0 rfl ?_
  refine w_aload_n C dX7_nextToken_1 rfl 0 rfl ?_
  refine w_get C 28 5 (Nat.le_of_ble_eq_true rfl) rfl rfl inB_X7 (by decide) tw1_161 rfl dX7_nextToken_2 rfl ?_
  refine w_put C 28 4 (σ 28 5) (Nat.le_of_ble_eq_true rfl) rfl rfl inB_X7 tyX7_ok nmX7 (by decide) tw1_160 rfl rfl rfl (Nat.le_of_ble_eq_true rfl) rfl dX7_nextToken_5 rfl ?_
  refine w_nst h (fun u2 h => ?_)
  refine w_iconst C 0 dX7_nextToken_8 rfl (by decide) ?_
  refine w_istore_n C [(1, .int 0), (0, .ref (ad 28))] dX7_nextToken_9 rfl (by decide) rfl ?_
  refine w_sub (lv' := [(1, .int 0), (0, .ref (ad 28))]) [0, 1] rfl ?_
  refine lp_w (fun v3 : St × Int32 => WP X (gC D cI ad) 3 0 10 v3.1 [(1, .int v3.2), (0, .ref (ad 28))] []) (fun K4 hK5 v3 h => ?_) F _ h
  refine w_iload_n C dX7_nextToken_10 rfl 0 rfl ?_
  refine w_sipush C 700 dX7_nextToken_11 rfl (by decide) ?_
  refine jn_w (fun v6 : Unit => WP X (gC D cI ad) 3 0 45 v3.1 [(0, .ref (ad 28))] []) h (fun v6 h => ?_) (fun J7 hJ8 h => ?_)
  · refine w_aload_n C dX7_nextToken_45 rfl 0 rfl ?_
    refine w_aload_n C dX7_nextToken_46 rfl 0 rfl ?_
    refine w_aload_n C dX7_nextToken_47 rfl 0 rfl ?_
    refine w_get C 28 4 (Nat.le_of_ble_eq_true rfl) rfl rfl inB_X7 (by decide) tw1_160 rfl dX7_nextToken_48 rfl ?_
    refine bd1_w h (fun r9 hc h => ?_)
    refine w_callVi C (n := 1) (As := [.int (v3.1 28 4)]) (st := [.ref (ad 28)]) 28 (Nat.le_of_ble_eq_true rfl) rfl rfl (cfX7_kindAt D cI ad (l := X.2.1) C.2.2.1 hc) tw3_122 cy_X7_kindAt (by decide +kernel) ⟨Nat.le_of_ble_eq_true rfl, Nat.le_of_ble_eq_true rfl⟩ (by decide) rfl rfl (Nat.le_of_ble_eq_true rfl) dX7_nextToken_51 rfl ?_
    refine w_put C 28 3 r9 (Nat.le_of_ble_eq_true rfl) rfl rfl inB_X7 tyX7_ok nmX7 (by decide) tw1_159 rfl rfl rfl (Nat.le_of_ble_eq_true rfl) rfl dX7_nextToken_54 rfl ?_
    refine w_nst h (fun u11 h => ?_)
    refine w_aload_n C dX7_nextToken_57 rfl 0 rfl ?_
    refine w_aload_n C dX7_nextToken_58 rfl 0 rfl ?_
    refine w_get C 28 3 (Nat.le_of_ble_eq_true rfl) rfl rfl inB_X7 (by decide) tw1_159 rfl dX7_nextToken_59 rfl ?_
    refine jn_w (fun v12 : Int32 => WP X (gC D cI ad) 3 0 78 u11 [(0, .ref (ad 28))] [.int v12, .ref (ad 28)]) h (fun v12 h => ?_) (fun J13 hJ14 h => ?_)
    · refine w_put C 28 5 v12 (Nat.le_of_ble_eq_true rfl) rfl rfl inB_X7 tyX7_ok nmX7 (by decide) tw1_161 rfl rfl rfl (Nat.le_of_ble_eq_true rfl) rfl dX7_nextToken_78 rfl ?_
      refine w_nst h (fun u16 h => ?_)
      refine w_aload_n C dX7_nextToken_81 rfl 0 rfl ?_
      refine w_get C 28 3 (Nat.le_of_ble_eq_true rfl) rfl rfl inB_X7 (by decide) tw1_159 rfl dX7_nextToken_82 rfl ?_
      refine w_iconst C 1 dX7_nextToken_85 rfl (by decide) ?_
      refine jn_w (fun v17 : Int32 => WP X (gC D cI ad) 3 0 102 u16 [(0, .ref (ad 28))] [.int v17]) h (fun v17 h => ?_) (fun J18 hJ19 h => ?_)
      · refine w_istore_n C [(1, .int v17), (0, .ref (ad 28))] dX7_nextToken_102 rfl (by decide) rfl ?_
        refine w_iconst C 0 dX7_nextToken_103 rfl (by decide) ?_
        refine w_istore_n C [(2, .int 0), (1, .int v17), (0, .ref (ad 28))] dX7_nextToken_104 rfl (by decide) rfl ?_
        refine w_sub (lv' := [(2, .int 0), (1, .int v17), (0, .ref (ad 28))]) [0, 1, 2] rfl ?_
        refine lp_w (fun v20 : St × Int32 => WP X (gC D cI ad) 3 0 105 v20.1 [(2, .int v20.2), (1, .int v17), (0, .ref (ad 28))] []) (fun K21 hK22 v20 h => ?_) F _ h
        refine w_iload_n C dX7_nextToken_105 rfl 0 rfl ?_
        refine w_sipush C 700 dX7_nextToken_106 rfl (by decide) ?_
        refine w_icmp_ge C (qt := 147) dX7_nextToken_109 (by decide) rfl h (fun _ h => ?_) (fun _ h => ?_)
        · exact w_rv hr h (by decide) dX7_nextToken_147
        · refine w_iload_n C dX7_nextToken_112 rfl 1 rfl ?_
          refine w_if_eq C (qt := 147) dX7_nextToken_113 (by decide) rfl h (fun _ h => ?_) (fun _ h => ?_)
          · exact w_rv hr h (by decide) dX7_nextToken_147
          · refine w_aload_n C dX7_nextToken_116 rfl 2 rfl ?_
            refine w_aload_n C dX7_nextToken_117 rfl 2 rfl ?_
            refine w_get C 28 5 (Nat.le_of_ble_eq_true rfl) rfl rfl inB_X7 (by decide) tw1_161 rfl dX7_nextToken_118 rfl ?_
            refine bd1_w h (fun r23 hc h => ?_)
            refine w_callVi C (n := 1) (As := [.int (v20.1 28 5)]) (st := []) 28 (Nat.le_of_ble_eq_true rfl) rfl rfl (cfX7_kindAt D cI ad (l := X.2.1) C.2.2.1 hc) tw3_122 cy_X7_kindAt (by decide +kernel) ⟨Nat.le_of_ble_eq_true rfl, Nat.le_of_ble_eq_true rfl⟩ (by decide) rfl rfl (Nat.le_of_ble_eq_true rfl) dX7_nextToken_121 rfl ?_
            refine w_aload_n C dX7_nextToken_124 rfl 2 rfl ?_
            refine w_get C 28 3 (Nat.le_of_ble_eq_true rfl) rfl rfl inB_X7 (by decide) tw1_159 rfl dX7_nextToken_125 rfl ?_
            refine w_icmp_ne C (qt := 147) dX7_nextToken_128 (by decide) rfl h (fun _ h => ?_) (fun _ h => ?_)
            · exact w_rv hr h (by decide) dX7_nextToken_147
            · refine w_aload_n C dX7_nextToken_131 rfl 2 rfl ?_
              refine w_dup C rfl dX7_nextToken_132 rfl ?_
              refine w_get C 28 5 (Nat.le_of_ble_eq_true rfl) rfl rfl inB_X7 (by decide) tw1_161 rfl dX7_nextToken_133 rfl ?_
              refine w_iconst C 1 dX7_nextToken_136 rfl (by decide) ?_
              refine w_iadd C dX7_nextToken_137 rfl ?_
              refine w_put C 28 5 ((v20.1 28 5) + 1) (Nat.le_of_ble_eq_true rfl) rfl rfl inB_X7 tyX7_ok nmX7 (by decide) tw1_161 rfl rfl rfl (Nat.le_of_ble_eq_true rfl) rfl dX7_nextToken_138 rfl ?_
              refine w_nst h (fun u25 h => ?_)
              refine w_iinc (j := 0) C (v20.2 + 1) [(2, .int (v20.2 + 1)), (1, .int v17), (0, .ref (ad 28))] dX7_nextToken_141 rfl rfl rfl (by decide) rfl ?_
              refine w_goto (q := 105) C dX7_nextToken_144 (by decide) ?_
              exact w_sub (lv' := [(2, .int (v20.2 + 1)), (1, .int v17), (0, .ref (ad 28))]) [0, 1, 2] rfl (hK22 ((u25, v20.2 + 1)) h)
      · refine jn_w (fun v26 : Unit => WP X (gC D cI ad) 3 0 97 u16 [(0, .ref (ad 28))] []) h (fun v26 h => ?_) (fun J27 hJ28 h => ?_)
        · refine w_iconst C 1 dX7_nextToken_97 rfl (by decide) ?_
          refine w_goto (q := 102) C dX7_nextToken_98 (by decide) ?_
          exact w_sub (lv' := [(0, .ref (ad 28))]) [0] rfl (hJ19 1 h)
        · refine w_icmp_eq C (qt := 97) dX7_nextToken_86 (by decide) rfl h (fun _ h => ?_) (fun _ h => ?_)
          · exact w_sub (lv' := [(0, .ref (ad 28))]) [0] rfl (hJ28 (()) h)
          · refine w_aload_n C dX7_nextToken_89 rfl 0 rfl ?_
            refine w_get C 28 3 (Nat.le_of_ble_eq_true rfl) rfl rfl inB_X7 (by decide) tw1_159 rfl dX7_nextToken_90 rfl ?_
            refine w_iconst C 2 dX7_nextToken_93 rfl (by decide) ?_
            refine w_icmp_ne C (qt := 101) dX7_nextToken_94 (by decide) rfl h (fun _ h => ?_) (fun _ h => ?_)
            · refine w_iconst C 0 dX7_nextToken_101 rfl (by decide) ?_
              exact w_sub (lv' := [(0, .ref (ad 28))]) [0] rfl (hJ19 0 h)
            · exact w_sub (lv' := [(0, .ref (ad 28))]) [0] rfl (hJ28 (()) h)
    · refine w_if_ne C (qt := 72) dX7_nextToken_62 (by decide) rfl h (fun _ h => ?_) (fun _ h => ?_)
      · refine w_aload_n C dX7_nextToken_72 rfl 0 rfl ?_
        refine w_get C 28 4 (Nat.le_of_ble_eq_true rfl) rfl rfl inB_X7 (by decide) tw1_160 rfl dX7_nextToken_73 rfl ?_
        refine w_iconst C 1 dX7_nextToken_76 rfl (by decide) ?_
        refine w_iadd C dX7_nextToken_77 rfl ?_
        exact w_sub (lv' := [(0, .ref (ad 28))]) [0] rfl (hJ14 ((u11 28 4) + 1) h)
      · refine w_aload_n C dX7_nextToken_65 rfl 0 rfl ?_
        refine w_get C 28 4 (Nat.le_of_ble_eq_true rfl) rfl rfl inB_X7 (by decide) tw1_160 rfl dX7_nextToken_66 rfl ?_
        refine w_goto (q := 78) C dX7_nextToken_69 (by decide) ?_
        exact w_sub (lv' := [(0, .ref (ad 28))]) [0] rfl (hJ14 (u11 28 4) h)
  · refine w_icmp_ge C (qt := 45) dX7_nextToken_14 (by decide) rfl h (fun _ h => ?_) (fun _ h => ?_)
    · exact w_sub (lv' := [(0, .ref (ad 28))]) [1] rfl (hJ8 (()) h)
    · refine w_aload_n C dX7_nextToken_17 rfl 1 rfl ?_
      refine w_aload_n C dX7_nextToken_18 rfl 1 rfl ?_
      refine w_get C 28 4 (Nat.le_of_ble_eq_true rfl) rfl rfl inB_X7 (by decide) tw1_160 rfl dX7_nextToken_19 rfl ?_
      refine bd1_w h (fun r29 hc h => ?_)
      refine w_callVi C (n := 1) (As := [.int (v3.1 28 4)]) (st := []) 28 (Nat.le_of_ble_eq_true rfl) rfl rfl (cfX7_kindAt D cI ad (l := X.2.1) C.2.2.1 hc) tw3_122 cy_X7_kindAt (by decide +kernel) ⟨Nat.le_of_ble_eq_true rfl, Nat.le_of_ble_eq_true rfl⟩ (by decide) rfl rfl (Nat.le_of_ble_eq_true rfl) dX7_nextToken_22 rfl ?_
      refine w_iconst C 4 dX7_nextToken_25 rfl (by decide) ?_
      refine w_icmp_ne C (qt := 45) dX7_nextToken_26 (by decide) rfl h (fun _ h => ?_) (fun _ h => ?_)
      · exact w_sub (lv' := [(0, .ref (ad 28))]) [1] rfl (hJ8 (()) h)
      · refine w_aload_n C dX7_nextToken_29 rfl 1 rfl ?_
        refine w_dup C rfl dX7_nextToken_30 rfl ?_
        refine w_get C 28 4 (Nat.le_of_ble_eq_true rfl) rfl rfl inB_X7 (by decide) tw1_160 rfl dX7_nextToken_31 rfl ?_
        refine w_iconst C 1 dX7_nextToken_34 rfl (by decide) ?_
        refine w_iadd C dX7_nextToken_35 rfl ?_
        refine w_put C 28 4 ((v3.1 28 4) + 1) (Nat.le_of_ble_eq_true rfl) rfl rfl inB_X7 tyX7_ok nmX7 (by decide) tw1_160 rfl rfl rfl (Nat.le_of_ble_eq_true rfl) rfl dX7_nextToken_36 rfl ?_
        refine w_nst h (fun u31 h => ?_)
        refine w_iinc (j := 0) C (v3.2 + 1) [(1, .int (v3.2 + 1)), (0, .ref (ad 28))] dX7_nextToken_39 rfl rfl rfl (by decide) rfl ?_
        refine w_goto (q := 10) C dX7_nextToken_42 (by decide) ?_
        exact w_sub (lv' := [(1, .int (v3.2 + 1)), (0, .ref (ad 28))]) [0, 1] rfl (hK5 ((u31, v3.2 + 1)) h)
theorem cfX7_nextToken (D : va_G) (cI : ClassId) (ad : Nat → Nat) {l : Launch} (had : gAp (gC D cI ad)) {F : Nat} {σ : St}  {σ' : St} (h : fX7_nextToken F σ = some σ') : MV l yX7_nextToken (wB yX7_nextToken cX7_nextToken 3 none) 1 23 (gC D cI ad) [.ref (ad 28)] σ σ' := mk_MV had (by decide +kernel) (Nat.le_of_ble_eq_true rfl) (fun X hX C hr => wfX7_nextToken C hr h)

def fJ0_coder_7d493 (F : Nat) (σ : St) (i0 : Nat) : Option Int32 := ckS i0 (if (1 : Int32) = 0 then (some 1) else some 0)
set_option maxRecDepth 20000 in
theorem wfJ0_coder_7d493 {X : XT} {D : va_G} {cI : ClassId} {ad : Nat → Nat} {F : Nat} {σ : St} {i0 : Nat} {r : Int32} (C : Cx X (gC D cI ad) cJ0_coder_7d493 1 RJ0 0 0 0) (hr : RetN X (gC D cI ad) cJ0_coder_7d493 1 0 .byte r σ) (h : fJ0_coder_7d493 F σ i0 = some r) : WP X (gC D cI ad) 1 0 0 σ [(0, .ref (ad (1100 + i0)))] [] := by
  unfold fJ0_coder_7d493 at h
  obtain ⟨hi0, h⟩ := ckS_w h
  refine w_gets C C.2.2.2.1.2.2.2.2.2.2.1.1 tw3_143 dJ0_coder_7d493_0 rfl ?_
  refine w_if_eq C (qt := 13) dJ0_coder_7d493_3 (by decide) rfl h (fun _ h => ?_) (fun _ h => ?_)
  · refine w_iconst C 1 dJ0_coder_7d493_13 rfl (by decide) ?_
    exact w_rn1 hr rfl h (by decide) dJ0_coder_7d493_14
  · refine w_aload_n C dJ0_coder_7d493_6 rfl 0 rfl ?_
    refine w_scod C i0 hi0 tw9_85 dJ0_coder_7d493_7 rfl ?_
    refine w_goto (q := 14) C dJ0_coder_7d493_10 (by decide) ?_
    exact w_rn1 hr rfl h (by decide) dJ0_coder_7d493_14
theorem cfJ0_coder_7d493 (D : va_G) (cI : ClassId) (ad : Nat → Nat) {l : Launch} (had : gAp (gC D cI ad)) {F : Nat} {σ : St} {i0 : Nat} {r : Int32} (h : fJ0_coder_7d493 F σ i0 = some r) : MI l yJ0_coder_7d493 (wB yJ0_coder_7d493 cJ0_coder_7d493 1 (some .byte)) 0 0 (gC D cI ad) [.ref (ad (1100 + i0))] σ r σ := mk_MN had (by decide +kernel) (Nat.le_of_ble_eq_true rfl) (fun X hX C hr => wfJ0_coder_7d493 C hr h)

def fJ0_length_8abf5 (F : Nat) (σ : St) (i0 : Nat) : Option Int32 := ckS i0 (bd1 (fJ0_coder_7d493 F σ i0) fun r1 => some ((slen i0) >>> (r1 &&& 31)))
set_option maxRecDepth 20000 in
theorem wfJ0_length_8abf5 {X : XT} {D : va_G} {cI : ClassId} {ad : Nat → Nat} {F : Nat} {σ : St} {i0 : Nat} {r : Int32} (C : Cx X (gC D cI ad) cJ0_length_8abf5 1 RJ0 1 20 0) (hr : RetI X (gC D cI ad) cJ0_length_8abf5 1 0 r σ) (h : fJ0_length_8abf5 F σ i0 = some r) : WP X (gC D cI ad) 1 0 0 σ [(0, .ref (ad (1100 + i0)))] [] := by
  unfold fJ0_length_8abf5 at h
  obtain ⟨hi0, h⟩ := ckS_w h
  refine w_aload_n C dJ0_length_8abf5_0 rfl 0 rfl ?_
  refine w_sval C i0 hi0 tw9_84 dJ0_length_8abf5_1 rfl ?_
  refine w_slen C i0 hi0 dJ0_length_8abf5_4 rfl ?_
  refine w_aload_n C dJ0_length_8abf5_5 rfl 0 rfl ?_
  refine bd1_w h (fun r1 hc h => ?_)
  refine w_callWi C (n := 0) (As := []) (st := [.int (slen i0)]) i0 hi0 rfl (cfJ0_coder_7d493 D cI ad (l := X.2.1) C.2.2.1 hc) tw3_139 cy_J0_coder_7d493 (by decide +kernel) ⟨Nat.le_of_ble_eq_true rfl, Nat.le_of_ble_eq_true rfl⟩ (by decide) rfl rfl (Nat.le_of_ble_eq_true rfl) dJ0_length_8abf5_6 rfl ?_
  refine w_ishr C dJ0_length_8abf5_9 rfl ?_
  exact w_ri1 hr h (by decide) dJ0_length_8abf5_10
theorem cfJ0_length_8abf5 (D : va_G) (cI : ClassId) (ad : Nat → Nat) {l : Launch} (had : gAp (gC D cI ad)) {F : Nat} {σ : St} {i0 : Nat} {r : Int32} (h : fJ0_length_8abf5 F σ i0 = some r) : MI l yJ0_length_8abf5 (wB yJ0_length_8abf5 cJ0_length_8abf5 1 (some .int)) 1 20 (gC D cI ad) [.ref (ad (1100 + i0))] σ r σ := mk_MI had (by decide +kernel) (Nat.le_of_ble_eq_true rfl) (fun X hX C hr => wfJ0_length_8abf5 C hr h)

def fX7_byteAt (F : Nat) (σ : St) (a0 : Int32) : Option Int32 := if a0 < 0 then (some ((-1))) else if (σ 28 2) ≤ a0 then (some ((-1))) else ckE (σ 28 1) 1 (ckI (a0) 700 (some (σ 1 (Int32.toNatClampNeg a0))))
set_option maxRecDepth 20000 in
theorem wfX7_byteAt {X : XT} {D : va_G} {cI : ClassId} {ad : Nat → Nat} {F : Nat} {σ : St} {a0 : Int32} {r : Int32} (C : Cx X (gC D cI ad) cX7_byteAt 2 RX7 0 0 0) (hr : RetI X (gC D cI ad) cX7_byteAt 2 0 r σ) (h : fX7_byteAt F σ a0 = some r) : WP X (gC D cI ad) 2 0 0 σ [(0, .ref (ad 28)), (1, .int a0)] [] := by
  unfold fX7_byteAt at h
  refine w_iload_n C dX7_byteAt_0 rfl 1 rfl ?_
  refine w_if_lt C (qt := 21) dX7_byteAt_1 (by decide) rfl h (fun _ h => ?_) (fun _ h => ?_)
  · refine w_iconst C (-1) dX7_byteAt_21 rfl (by decide) ?_
    exact w_ri1 hr h (by decide) dX7_byteAt_22
  · refine w_iload_n C dX7_byteAt_4 rfl 1 rfl ?_
    refine w_aload_n C dX7_byteAt_5 rfl 0 rfl ?_
    refine w_get C 28 2 (Nat.le_of_ble_eq_true rfl) rfl rfl inB_X7 (by decide) tw1_158 rfl dX7_byteAt_6 rfl ?_
    refine w_icmp_ge C (qt := 21) dX7_byteAt_9 (by decide) rfl h (fun _ h => ?_) (fun _ h => ?_)
    · refine w_iconst C (-1) dX7_byteAt_21 rfl (by decide) ?_
      exact w_ri1 hr h (by decide) dX7_byteAt_22
    · refine w_aload_n C dX7_byteAt_12 rfl 0 rfl ?_
      obtain ⟨ht, h⟩ := ckE_w h
      refine w_get C 28 1 (Nat.le_of_ble_eq_true rfl) rfl rfl inB_X7 (by decide) tw1_157 (by show _ = some (Value.ref (ad (σ 28 1).toNatClampNeg)); rfl) dX7_byteAt_13 rfl ?_
      rw [ht]
      refine w_iload_n C dX7_byteAt_16 rfl 1 rfl ?_
      refine w_iald C 1 700 0 (Nat.le_of_ble_eq_true rfl) (fun _ => rfl) rfl h dX7_byteAt_17 rfl (fun h => ?_)
      refine w_goto (q := 22) C dX7_byteAt_18 (by decide) ?_
      exact w_ri1 hr h (by decide) dX7_byteAt_22
theorem cfX7_byteAt (D : va_G) (cI : ClassId) (ad : Nat → Nat) {l : Launch} (had : gAp (gC D cI ad)) {F : Nat} {σ : St} {a0 : Int32} {r : Int32} (h : fX7_byteAt F σ a0 = some r) : MI l yX7_byteAt (wB yX7_byteAt cX7_byteAt 2 (some .int)) 0 0 (gC D cI ad) [.ref (ad 28), .int a0] σ r σ := mk_MI had (by decide +kernel) (Nat.le_of_ble_eq_true rfl) (fun X hX C hr => wfX7_byteAt C hr h)

def fJ0_isLatin1_aae02 (F : Nat) (σ : St) (i0 : Nat) : Option Int32 := ckS i0 (if (1 : Int32) = 0 then (some 0) else if (0 : Int32) = 0 then (some 1) else some 0)
set_option maxRecDepth 20000 in
theorem wfJ0_isLatin1_aae02 {X : XT} {D : va_G} {cI : ClassId} {ad : Nat → Nat} {F : Nat} {σ : St} {i0 : Nat} {r : Int32} (C : Cx X (gC D cI ad) cJ0_isLatin1_aae02 1 RJ0 0 0 0) (hr : RetZ X (gC D cI ad) cJ0_isLatin1_aae02 1 0 r σ) (h : fJ0_isLatin1_aae02 F σ i0 = some r) : WP X (gC D cI ad) 1 0 0 σ [(0, .ref (ad (1100 + i0)))] [] := by
  unfold fJ0_isLatin1_aae02 at h
  obtain ⟨hi0, h⟩ := ckS_w h
  refine w_gets C C.2.2.2.1.2.2.2.2.2.2.1.1 tw3_143 dJ0_isLatin1_aae02_0 rfl ?_
  refine w_if_eq C (qt := 17) dJ0_isLatin1_aae02_3 (by decide) rfl h (fun _ h => ?_) (fun _ h => ?_)
  · refine w_iconst C 0 dJ0_isLatin1_aae02_17 rfl (by decide) ?_
    exact w_rz1 hr (by decide) h (by decide) dJ0_isLatin1_aae02_18
  · refine w_aload_n C dJ0_isLatin1_aae02_6 rfl 0 rfl ?_
    refine w_scod C i0 hi0 tw9_85 dJ0_isLatin1_aae02_7 rfl ?_
    refine w_if_ne C (qt := 17) dJ0_isLatin1_aae02_10 (by decide) rfl h (fun _ h => ?_) (fun _ h => ?_)
    · refine w_iconst C 0 dJ0_isLatin1_aae02_17 rfl (by decide) ?_
      exact w_rz1 hr (by decide) h (by decide) dJ0_isLatin1_aae02_18
    · refine w_iconst C 1 dJ0_isLatin1_aae02_13 rfl (by decide) ?_
      refine w_goto (q := 18) C dJ0_isLatin1_aae02_14 (by decide) ?_
      exact w_rz1 hr (by decide) h (by decide) dJ0_isLatin1_aae02_18
theorem cfJ0_isLatin1_aae02 (D : va_G) (cI : ClassId) (ad : Nat → Nat) {l : Launch} (had : gAp (gC D cI ad)) {F : Nat} {σ : St} {i0 : Nat} {r : Int32} (h : fJ0_isLatin1_aae02 F σ i0 = some r) : MI l yJ0_isLatin1_aae02 (wB yJ0_isLatin1_aae02 cJ0_isLatin1_aae02 1 (some .boolean)) 0 0 (gC D cI ad) [.ref (ad (1100 + i0))] σ r σ := mk_MZ had (by decide +kernel) (Nat.le_of_ble_eq_true rfl) (fun X hX C hr => wfJ0_isLatin1_aae02 C hr h)

def fJ3_checkIndex_8e157 (F : Nat) (σ : St) (a0 : Int32) (a1 : Int32) : Option Int32 := jn (fun v1 : Unit => none) fun J2 => if a0 < 0 then (none) else if a0 < a1 then (some a0) else none
set_option maxRecDepth 20000 in
theorem wfJ3_checkIndex_8e157 {X : XT} {D : va_G} {cI : ClassId} {ad : Nat → Nat} {F : Nat} {σ : St} {a0 : Int32} {a1 : Int32} {a2 : Option Nat} {r : Int32} (C : Cx X (gC D cI ad) cJ3_checkIndex_8e157 3 RJ3 0 0 0) (hr : RetI X (gC D cI ad) cJ3_checkIndex_8e157 3 0 r σ) (h : fJ3_checkIndex_8e157 F σ a0 a1 = some r) : WP X (gC D cI ad) 3 0 0 σ [(0, .int a0), (1, .int a1), (2, va_rf a2)] [] := by
  unfold fJ3_checkIndex_8e157 at h
  refine w_iload_n C dJ3_checkIndex_8e157_0 rfl 0 rfl ?_
  refine jn_w (fun v1 : Unit => WP X (gC D cI ad) 3 0 9 σ [(0, .int a0), (1, .int a1), (2, va_rf a2)] []) h (fun v1 h => ?_) (fun J2 hJ3 h => ?_)
  · cases h
  · refine w_if_lt C (qt := 9) dJ3_checkIndex_8e157_1 (by decide) rfl h (fun _ h => ?_) (fun _ h => ?_)
    · cases h
    · refine w_iload_n C dJ3_checkIndex_8e157_4 rfl 0 rfl ?_
      refine w_iload_n C dJ3_checkIndex_8e157_5 rfl 1 rfl ?_
      refine w_icmp_lt C (qt := 16) dJ3_checkIndex_8e157_6 (by decide) rfl h (fun _ h => ?_) (fun _ h => ?_)
      · refine w_iload_n C dJ3_checkIndex_8e157_16 rfl 0 rfl ?_
        exact w_ri1 hr h (by decide) dJ3_checkIndex_8e157_17
      · cases h
theorem cfJ3_checkIndex_8e157 (D : va_G) (cI : ClassId) (ad : Nat → Nat) {l : Launch} (had : gAp (gC D cI ad)) {F : Nat} {σ : St} {a0 : Int32} {a1 : Int32} {a2 : Option Nat} {r : Int32} (h : fJ3_checkIndex_8e157 F σ a0 a1 = some r) : MI l yJ3_checkIndex_8e157 (wB yJ3_checkIndex_8e157 cJ3_checkIndex_8e157 3 (some .int)) 0 0 (gC D cI ad) [.int a0, .int a1, va_rf a2] σ r σ := by cases a2 <;> exact mk_MI had (by decide +kernel) (Nat.le_of_ble_eq_true rfl) (fun X hX C hr => wfJ3_checkIndex_8e157 C hr h)

def fJ0_checkIndex_df160 (F : Nat) (σ : St) (a0 : Int32) (a1 : Int32) : Option Unit := bd1 (fJ3_checkIndex_8e157 F σ a0 a1) fun r2 => some ()
set_option maxRecDepth 20000 in
theorem wfJ0_checkIndex_df160 {X : XT} {D : va_G} {cI : ClassId} {ad : Nat → Nat} {F : Nat} {σ : St} {a0 : Int32} {a1 : Int32}  (C : Cx X (gC D cI ad) cJ0_checkIndex_df160 2 RJ0 1 22 0) (hr : RetV X (gC D cI ad) cJ0_checkIndex_df160 2 0 σ) (h : fJ0_checkIndex_df160 F σ a0 a1 = some ()) : WP X (gC D cI ad) 2 0 0 σ [(0, .int a0), (1, .int a1)] [] := by
  unfold fJ0_checkIndex_df160 at h
  refine w_iload_n C dJ0_checkIndex_df160_0 rfl 0 rfl ?_
  refine w_iload_n C dJ0_checkIndex_df160_1 rfl 1 rfl ?_
  refine w_getsq C C.2.2.2.1.2.2.2.2.2.2.1.2 tw3_163 dJ0_checkIndex_df160_2 rfl (fun q1 => ?_)
  refine bd1_w h (fun r2 hc h => ?_)
  refine w_callSi C (n := 3) (As := [.int a0, .int a1, va_rf q1]) (st := []) (cfJ3_checkIndex_8e157 D cI ad (l := X.2.1) C.2.2.1 hc) tw3_165 cs_J3_checkIndex_8e157 (by decide +kernel) ⟨Nat.le_of_ble_eq_true rfl, Nat.le_of_ble_eq_true rfl⟩ (by decide) rfl rfl (Nat.le_of_ble_eq_true rfl) dJ0_checkIndex_df160_5 rfl ?_
  refine w_pop C rfl dJ0_checkIndex_df160_8 rfl ?_
  exact hr _ _ _ (by decide) dJ0_checkIndex_df160_9
theorem cfJ0_checkIndex_df160 (D : va_G) (cI : ClassId) (ad : Nat → Nat) {l : Launch} (had : gAp (gC D cI ad)) {F : Nat} {σ : St} {a0 : Int32} {a1 : Int32}  (h : fJ0_checkIndex_df160 F σ a0 a1 = some ()) : MV l yJ0_checkIndex_df160 (wB yJ0_checkIndex_df160 cJ0_checkIndex_df160 2 none) 1 22 (gC D cI ad) [.int a0, .int a1] σ σ := mk_MV had (by decide +kernel) (Nat.le_of_ble_eq_true rfl) (fun X hX C hr => wfJ0_checkIndex_df160 C hr h)

def fJ1_charAt_3b067 (F : Nat) (σ : St) (a0 : Nat) (a1 : Int32) : Option Int32 := ckS a0 (bd1 (fJ0_checkIndex_df160 F σ a1 (slen a0)) fun _ => ckI (a1) (strB.getD a0 []).length (ckC (c16 ((schr a0 a1) &&& 255)) (some (c16 ((schr a0 a1) &&& 255)))))
set_option maxRecDepth 20000 in
theorem wfJ1_charAt_3b067 {X : XT} {D : va_G} {cI : ClassId} {ad : Nat → Nat} {F : Nat} {σ : St} {a0 : Nat} {a1 : Int32} {r : Int32} (C : Cx X (gC D cI ad) cJ1_charAt_3b067 2 RJ1 2 43 0) (hr : RetN X (gC D cI ad) cJ1_charAt_3b067 2 0 .char r σ) (h : fJ1_charAt_3b067 F σ a0 a1 = some r) : WP X (gC D cI ad) 2 0 0 σ [(0, .ref (ad (1300 + a0))), (1, .int a1)] [] := by
  unfold fJ1_charAt_3b067 at h
  obtain ⟨ha0, h⟩ := ckS_w h
  refine w_iload_n C dJ1_charAt_3b067_0 rfl 1 rfl ?_
  refine w_aload_n C dJ1_charAt_3b067_1 rfl 0 rfl ?_
  refine w_slen C a0 ha0 dJ1_charAt_3b067_2 rfl ?_
  refine bd1_w h (fun _ hc h => ?_)
  refine w_callSv C (n := 2) (As := [.int a1, .int (slen a0)]) (st := []) (cfJ0_checkIndex_df160 D cI ad (l := X.2.1) C.2.2.1 hc) tw3_160 cs_J0_checkIndex_df160 (by decide +kernel) ⟨Nat.le_of_ble_eq_true rfl, Nat.le_of_ble_eq_true rfl⟩ (by decide) rfl rfl (Nat.le_of_ble_eq_true rfl) dJ1_charAt_3b067_3 rfl ?_
  refine w_aload_n C dJ1_charAt_3b067_6 rfl 0 rfl ?_
  refine w_iload_n C dJ1_charAt_3b067_7 rfl 1 rfl ?_
  refine w_sbyt C a0 ha0 h dJ1_charAt_3b067_8 rfl (fun h => ?_)
  refine w_sipush C 255 dJ1_charAt_3b067_9 rfl (by decide) ?_
  refine w_iand C dJ1_charAt_3b067_12 rfl ?_
  refine w_i2c C dJ1_charAt_3b067_13 rfl ?_
  obtain ⟨hz, h⟩ := ckC_w h
  exact w_rn1 hr (by show Value.int _ = _; rw [hz]) h (by decide) dJ1_charAt_3b067_14
theorem cfJ1_charAt_3b067 (D : va_G) (cI : ClassId) (ad : Nat → Nat) {l : Launch} (had : gAp (gC D cI ad)) {F : Nat} {σ : St} {a0 : Nat} {a1 : Int32} {r : Int32} (h : fJ1_charAt_3b067 F σ a0 a1 = some r) : MI l yJ1_charAt_3b067 (wB yJ1_charAt_3b067 cJ1_charAt_3b067 2 (some .char)) 2 43 (gC D cI ad) [.ref (ad (1300 + a0)), .int a1] σ r σ := mk_MN had (by decide +kernel) (Nat.le_of_ble_eq_true rfl) (fun X hX C hr => wfJ1_charAt_3b067 C hr h)

def fJ0_charAt_5068e (F : Nat) (σ : St) (i0 : Nat) (a0 : Int32) : Option Int32 := ckS i0 (bd1 (fJ0_isLatin1_aae02 F σ i0) fun r1 => if r1 = 0 then (none) else bd1 (fJ1_charAt_3b067 F σ i0 a0) fun r2 => ckC (r2) (some r2))
set_option maxRecDepth 20000 in
theorem wfJ0_charAt_5068e {X : XT} {D : va_G} {cI : ClassId} {ad : Nat → Nat} {F : Nat} {σ : St} {i0 : Nat} {a0 : Int32} {r : Int32} (C : Cx X (gC D cI ad) cJ0_charAt_5068e 2 RJ0 3 64 0) (hr : RetN X (gC D cI ad) cJ0_charAt_5068e 2 0 .char r σ) (h : fJ0_charAt_5068e F σ i0 a0 = some r) : WP X (gC D cI ad) 2 0 0 σ [(0, .ref (ad (1100 + i0))), (1, .int a0)] [] := by
  unfold fJ0_charAt_5068e at h
  obtain ⟨hi0, h⟩ := ckS_w h
  refine w_aload_n C dJ0_charAt_5068e_0 rfl 0 rfl ?_
  refine bd1_w h (fun r1 hc h => ?_)
  refine w_callWi C (n := 0) (As := []) (st := []) i0 hi0 rfl (cfJ0_isLatin1_aae02 D cI ad (l := X.2.1) C.2.2.1 hc) tw3_153 cy_J0_isLatin1_aae02 (by decide +kernel) ⟨Nat.le_of_ble_eq_true rfl, Nat.le_of_ble_eq_true rfl⟩ (by decide) rfl rfl (Nat.le_of_ble_eq_true rfl) dJ0_charAt_5068e_1 rfl ?_
  refine w_if_eq C (qt := 16) dJ0_charAt_5068e_4 (by decide) rfl h (fun _ h => ?_) (fun _ h => ?_)
  · refine w_aload_n C dJ0_charAt_5068e_16 rfl 0 rfl ?_
    refine w_sval C i0 hi0 tw9_84 dJ0_charAt_5068e_17 rfl ?_
    refine w_iload_n C dJ0_charAt_5068e_20 rfl 1 rfl ?_
    cases h
  · refine w_aload_n C dJ0_charAt_5068e_7 rfl 0 rfl ?_
    refine w_sval C i0 hi0 tw9_84 dJ0_charAt_5068e_8 rfl ?_
    refine w_iload_n C dJ0_charAt_5068e_11 rfl 1 rfl ?_
    refine bd1_w h (fun r2 hc h => ?_)
    refine w_callSi C (n := 2) (As := [.ref (ad (1300 + i0)), .int a0]) (st := []) (cfJ1_charAt_3b067 D cI ad (l := X.2.1) C.2.2.1 hc) tw3_157 cs_J1_charAt_3b067 (by decide +kernel) ⟨Nat.le_of_ble_eq_true rfl, Nat.le_of_ble_eq_true rfl⟩ (by decide) rfl rfl (Nat.le_of_ble_eq_true rfl) dJ0_charAt_5068e_12 rfl ?_
    obtain ⟨hz, h⟩ := ckC_w h
    exact w_rn1 hr (by show Value.int _ = _; rw [hz]) h (by decide) dJ0_charAt_5068e_15
theorem cfJ0_charAt_5068e (D : va_G) (cI : ClassId) (ad : Nat → Nat) {l : Launch} (had : gAp (gC D cI ad)) {F : Nat} {σ : St} {i0 : Nat} {a0 : Int32} {r : Int32} (h : fJ0_charAt_5068e F σ i0 a0 = some r) : MI l yJ0_charAt_5068e (wB yJ0_charAt_5068e cJ0_charAt_5068e 2 (some .char)) 3 64 (gC D cI ad) [.ref (ad (1100 + i0)), .int a0] σ r σ := mk_MN had (by decide +kernel) (Nat.le_of_ble_eq_true rfl) (fun X hX C hr => wfJ0_charAt_5068e C hr h)

def fX7_isWord (F : Nat) (σ : St) (a0 : Nat) : Option Int32 := ckS a0 (if (σ 28 3) = (1 : Int32) then (bd1 (fJ0_length_8abf5 F σ a0) fun r1 => if ((σ 28 5) - (σ 28 4)) = r1 then (lp (fun (K3 : Int32 → Option Int32) (v2 : Int32) => bd1 (fJ0_length_8abf5 F σ a0) fun r5 => if r5 ≤ v2 then (some 1) else bd1 (fX7_byteAt F σ ((σ 28 4) + v2)) fun r6 => bd1 (fJ0_charAt_5068e F σ a0 v2) fun r7 => if r6 = r7 then (K3 (v2 + 1)) else some 0) F 0) else some 0) else some 0)
set_option maxRecDepth 20000 in
theorem wfX7_isWord {X : XT} {D : va_G} {cI : ClassId} {ad : Nat → Nat} {F : Nat} {σ : St} {a0 : Nat} {r : Int32} (C : Cx X (gC D cI ad) cX7_isWord 3 RX7 4 85 0) (hr : RetZ X (gC D cI ad) cX7_isWord 3 0 r σ) (h : fX7_isWord F σ a0 = some r) : WP X (gC D cI ad) 3 0 0 σ [(0, .ref (ad 28)), (1, .ref (ad (1100 + a0)))] [] := by
  unfold fX7_isWord at h
  obtain ⟨ha0, h⟩ := ckS_w h
  refine w_aload_n C dX7_isWord_0 rfl 0 rfl ?_
  refine w_get C 28 3 (Nat.le_of_ble_eq_true rfl) rfl rfl inB_X7 (by decide) tw1_159 rfl dX7_isWord_1 rfl ?_
  refine w_iconst C 1 dX7_isWord_4 rfl (by decide) ?_
  refine w_icmp_ne C (qt := 24) dX7_isWord_5 (by decide) rfl h (fun _ h => ?_) (fun _ h => ?_)
  · refine w_iconst C 0 dX7_isWord_24 rfl (by decide) ?_
    exact w_rz1 hr (by decide) h (by decide) dX7_isWord_25
  · refine w_aload_n C dX7_isWord_8 rfl 0 rfl ?_
    refine w_get C 28 5 (Nat.le_of_ble_eq_true rfl) rfl rfl inB_X7 (by decide) tw1_161 rfl dX7_isWord_9 rfl ?_
    refine w_aload_n C dX7_isWord_12 rfl 0 rfl ?_
    refine w_get C 28 4 (Nat.le_of_ble_eq_true rfl) rfl rfl inB_X7 (by decide) tw1_160 rfl dX7_isWord_13 rfl ?_
    refine w_isub C dX7_isWord_16 rfl ?_
    refine w_aload_n C dX7_isWord_17 rfl 1 rfl ?_
    refine bd1_w h (fun r1 hc h => ?_)
    refine w_callWi C (n := 0) (As := []) (st := [.int ((σ 28 5) - (σ 28 4))]) a0 ha0 rfl (cfJ0_length_8abf5 D cI ad (l := X.2.1) C.2.2.1 hc) tw3_135 cy_J0_length_8abf5 (by decide +kernel) ⟨Nat.le_of_ble_eq_true rfl, Nat.le_of_ble_eq_true rfl⟩ (by decide) rfl rfl (Nat.le_of_ble_eq_true rfl) dX7_isWord_18 rfl ?_
    refine w_icmp_eq C (qt := 26) dX7_isWord_21 (by decide) rfl h (fun _ h => ?_) (fun _ h => ?_)
    · refine w_iconst C 0 dX7_isWord_26 rfl (by decide) ?_
      refine w_istore_n C [(2, .int 0), (0, .ref (ad 28)), (1, .ref (ad (1100 + a0)))] dX7_isWord_27 rfl (by decide) rfl ?_
      refine w_sub (lv' := [(2, .int 0), (0, .ref (ad 28)), (1, .ref (ad (1100 + a0)))]) [0, 1, 2] rfl ?_
      refine lp_w (fun v2 : Int32 => WP X (gC D cI ad) 3 0 28 σ [(2, .int v2), (0, .ref (ad 28)), (1, .ref (ad (1100 + a0)))] []) (fun K3 hK4 v2 h => ?_) F _ h
      refine w_iload_n C dX7_isWord_28 rfl 0 rfl ?_
      refine w_aload_n C dX7_isWord_29 rfl 2 rfl ?_
      refine bd1_w h (fun r5 hc h => ?_)
      refine w_callWi C (n := 0) (As := []) (st := [.int v2]) a0 ha0 rfl (cfJ0_length_8abf5 D cI ad (l := X.2.1) C.2.2.1 hc) tw3_135 cy_J0_length_8abf5 (by decide +kernel) ⟨Nat.le_of_ble_eq_true rfl, Nat.le_of_ble_eq_true rfl⟩ (by decide) rfl rfl (Nat.le_of_ble_eq_true rfl) dX7_isWord_30 rfl ?_
      refine w_icmp_ge C (qt := 62) dX7_isWord_33 (by decide) rfl h (fun _ h => ?_) (fun _ h => ?_)
      · refine w_iconst C 1 dX7_isWord_62 rfl (by decide) ?_
        exact w_rz1 hr (by decide) h (by decide) dX7_isWord_63
      · refine w_aload_n C dX7_isWord_36 rfl 1 rfl ?_
        refine w_aload_n C dX7_isWord_37 rfl 1 rfl ?_
        refine w_get C 28 4 (Nat.le_of_ble_eq_true rfl) rfl rfl inB_X7 (by decide) tw1_160 rfl dX7_isWord_38 rfl ?_
        refine w_iload_n C dX7_isWord_41 rfl 0 rfl ?_
        refine w_iadd C dX7_isWord_42 rfl ?_
        refine bd1_w h (fun r6 hc h => ?_)
        refine w_callVi C (n := 1) (As := [.int ((σ 28 4) + v2)]) (st := []) 28 (Nat.le_of_ble_eq_true rfl) rfl rfl (cfX7_byteAt D cI ad (l := X.2.1) C.2.2.1 hc) tw3_145 cy_X7_byteAt (by decide +kernel) ⟨Nat.le_of_ble_eq_true rfl, Nat.le_of_ble_eq_true rfl⟩ (by decide) rfl rfl (Nat.le_of_ble_eq_true rfl) dX7_isWord_43 rfl ?_
        refine w_aload_n C dX7_isWord_46 rfl 2 rfl ?_
        refine w_iload_n C dX7_isWord_47 rfl 0 rfl ?_
        refine bd1_w h (fun r7 hc h => ?_)
        refine w_callWi C (n := 1) (As := [.int v2]) (st := [.int r6]) a0 ha0 rfl (cfJ0_charAt_5068e D cI ad (l := X.2.1) C.2.2.1 hc) tw3_149 cy_J0_charAt_5068e (by decide +kernel) ⟨Nat.le_of_ble_eq_true rfl, Nat.le_of_ble_eq_true rfl⟩ (by decide) rfl rfl (Nat.le_of_ble_eq_true rfl) dX7_isWord_48 rfl ?_
        refine w_icmp_eq C (qt := 56) dX7_isWord_51 (by decide) rfl h (fun _ h => ?_) (fun _ h => ?_)
        · refine w_iinc (j := 0) C (v2 + 1) [(2, .int (v2 + 1)), (0, .ref (ad 28)), (1, .ref (ad (1100 + a0)))] dX7_isWord_56 rfl rfl rfl (by decide) rfl ?_
          refine w_goto (q := 28) C dX7_isWord_59 (by decide) ?_
          exact w_sub (lv' := [(2, .int (v2 + 1)), (0, .ref (ad 28)), (1, .ref (ad (1100 + a0)))]) [0, 1, 2] rfl (hK4 (v2 + 1) h)
        · refine w_iconst C 0 dX7_isWord_54 rfl (by decide) ?_
          exact w_rz1 hr (by decide) h (by decide) dX7_isWord_55
    · refine w_iconst C 0 dX7_isWord_24 rfl (by decide) ?_
      exact w_rz1 hr (by decide) h (by decide) dX7_isWord_25
theorem cfX7_isWord (D : va_G) (cI : ClassId) (ad : Nat → Nat) {l : Launch} (had : gAp (gC D cI ad)) {F : Nat} {σ : St} {a0 : Nat} {r : Int32} (h : fX7_isWord F σ a0 = some r) : MI l yX7_isWord (wB yX7_isWord cX7_isWord 3 (some .boolean)) 4 85 (gC D cI ad) [.ref (ad 28), .ref (ad (1100 + a0))] σ r σ := mk_MZ had (by decide +kernel) (Nat.le_of_ble_eq_true rfl) (fun X hX C hr => wfX7_isWord C hr h)

def fX7_kindOfWord (F : Nat) (σ : St) : Option Int32 := bd1 (fX7_isWord F σ 0) fun r1 => if r1 = 0 then (bd1 (fX7_isWord F σ 1) fun r2 => if r2 = 0 then (bd1 (fX7_isWord F σ 2) fun r3 => if r3 = 0 then (bd1 (fX7_isWord F σ 3) fun r4 => if r4 = 0 then (bd1 (fX7_isWord F σ 4) fun r5 => if r5 = 0 then (some ((-1))) else some 4) else some 3) else some 2) else some 1) else some 0
set_option maxRecDepth 20000 in
theorem wfX7_kindOfWord {X : XT} {D : va_G} {cI : ClassId} {ad : Nat → Nat} {F : Nat} {σ : St}  {r : Int32} (C : Cx X (gC D cI ad) cX7_kindOfWord 1 RX7 5 107 0) (hr : RetI X (gC D cI ad) cX7_kindOfWord 1 0 r σ) (h : fX7_kindOfWord F σ = some r) : WP X (gC D cI ad) 1 0 0 σ [(0, .ref (ad 28))] [] := by
  unfold fX7_kindOfWord at h
  refine w_aload_n C dX7_kindOfWord_0 rfl 0 rfl ?_
  refine w_ldcS C (tx := "step") 0 (by decide) dX7_kindOfWord_1 rfl ?_
  refine bd1_w h (fun r1 hc h => ?_)
  refine w_callVi C (n := 1) (As := [.ref (ad (1100 + 0))]) (st := []) 28 (Nat.le_of_ble_eq_true rfl) rfl rfl (cfX7_isWord D cI ad (l := X.2.1) C.2.2.1 hc) tw3_131 cy_X7_isWord (by decide +kernel) ⟨Nat.le_of_ble_eq_true rfl, Nat.le_of_ble_eq_true rfl⟩ (by decide) rfl rfl (Nat.le_of_ble_eq_true rfl) dX7_kindOfWord_3 rfl ?_
  refine w_if_eq C (qt := 11) dX7_kindOfWord_6 (by decide) rfl h (fun _ h => ?_) (fun _ h => ?_)
  · refine w_aload_n C dX7_kindOfWord_11 rfl 0 rfl ?_
    refine w_ldcS C (tx := "turn") 1 (by decide) dX7_kindOfWord_12 rfl ?_
    refine bd1_w h (fun r2 hc h => ?_)
    refine w_callVi C (n := 1) (As := [.ref (ad (1100 + 1))]) (st := []) 28 (Nat.le_of_ble_eq_true rfl) rfl rfl (cfX7_isWord D cI ad (l := X.2.1) C.2.2.1 hc) tw3_131 cy_X7_isWord (by decide +kernel) ⟨Nat.le_of_ble_eq_true rfl, Nat.le_of_ble_eq_true rfl⟩ (by decide) rfl rfl (Nat.le_of_ble_eq_true rfl) dX7_kindOfWord_14 rfl ?_
    refine w_if_eq C (qt := 22) dX7_kindOfWord_17 (by decide) rfl h (fun _ h => ?_) (fun _ h => ?_)
    · refine w_aload_n C dX7_kindOfWord_22 rfl 0 rfl ?_
      refine w_ldcS C (tx := "hop") 2 (by decide) dX7_kindOfWord_23 rfl ?_
      refine bd1_w h (fun r3 hc h => ?_)
      refine w_callVi C (n := 1) (As := [.ref (ad (1100 + 2))]) (st := []) 28 (Nat.le_of_ble_eq_true rfl) rfl rfl (cfX7_isWord D cI ad (l := X.2.1) C.2.2.1 hc) tw3_131 cy_X7_isWord (by decide +kernel) ⟨Nat.le_of_ble_eq_true rfl, Nat.le_of_ble_eq_true rfl⟩ (by decide) rfl rfl (Nat.le_of_ble_eq_true rfl) dX7_kindOfWord_25 rfl ?_
      refine w_if_eq C (qt := 33) dX7_kindOfWord_28 (by decide) rfl h (fun _ h => ?_) (fun _ h => ?_)
      · refine w_aload_n C dX7_kindOfWord_33 rfl 0 rfl ?_
        refine w_ldcS C (tx := "glove") 3 (by decide) dX7_kindOfWord_34 rfl ?_
        refine bd1_w h (fun r4 hc h => ?_)
        refine w_callVi C (n := 1) (As := [.ref (ad (1100 + 3))]) (st := []) 28 (Nat.le_of_ble_eq_true rfl) rfl rfl (cfX7_isWord D cI ad (l := X.2.1) C.2.2.1 hc) tw3_131 cy_X7_isWord (by decide +kernel) ⟨Nat.le_of_ble_eq_true rfl, Nat.le_of_ble_eq_true rfl⟩ (by decide) rfl rfl (Nat.le_of_ble_eq_true rfl) dX7_kindOfWord_36 rfl ?_
        refine w_if_eq C (qt := 44) dX7_kindOfWord_39 (by decide) rfl h (fun _ h => ?_) (fun _ h => ?_)
        · refine w_aload_n C dX7_kindOfWord_44 rfl 0 rfl ?_
          refine w_ldcS C (tx := "bow") 4 (by decide) dX7_kindOfWord_45 rfl ?_
          refine bd1_w h (fun r5 hc h => ?_)
          refine w_callVi C (n := 1) (As := [.ref (ad (1100 + 4))]) (st := []) 28 (Nat.le_of_ble_eq_true rfl) rfl rfl (cfX7_isWord D cI ad (l := X.2.1) C.2.2.1 hc) tw3_131 cy_X7_isWord (by decide +kernel) ⟨Nat.le_of_ble_eq_true rfl, Nat.le_of_ble_eq_true rfl⟩ (by decide) rfl rfl (Nat.le_of_ble_eq_true rfl) dX7_kindOfWord_47 rfl ?_
          refine w_if_eq C (qt := 57) dX7_kindOfWord_50 (by decide) rfl h (fun _ h => ?_) (fun _ h => ?_)
          · refine w_iconst C (-1) dX7_kindOfWord_57 rfl (by decide) ?_
            exact w_ri1 hr h (by decide) dX7_kindOfWord_58
          · refine w_iconst C 4 dX7_kindOfWord_53 rfl (by decide) ?_
            refine w_goto (q := 58) C dX7_kindOfWord_54 (by decide) ?_
            exact w_ri1 hr h (by decide) dX7_kindOfWord_58
        · refine w_iconst C 3 dX7_kindOfWord_42 rfl (by decide) ?_
          exact w_ri1 hr h (by decide) dX7_kindOfWord_43
      · refine w_iconst C 2 dX7_kindOfWord_31 rfl (by decide) ?_
        exact w_ri1 hr h (by decide) dX7_kindOfWord_32
    · refine w_iconst C 1 dX7_kindOfWord_20 rfl (by decide) ?_
      exact w_ri1 hr h (by decide) dX7_kindOfWord_21
  · refine w_iconst C 0 dX7_kindOfWord_9 rfl (by decide) ?_
    exact w_ri1 hr h (by decide) dX7_kindOfWord_10
theorem cfX7_kindOfWord (D : va_G) (cI : ClassId) (ad : Nat → Nat) {l : Launch} (had : gAp (gC D cI ad)) {F : Nat} {σ : St}  {r : Int32} (h : fX7_kindOfWord F σ = some r) : MI l yX7_kindOfWord (wB yX7_kindOfWord cX7_kindOfWord 1 (some .int)) 5 107 (gC D cI ad) [.ref (ad 28)] σ r σ := mk_MI had (by decide +kernel) (Nat.le_of_ble_eq_true rfl) (fun X hX C hr => wfX7_kindOfWord C hr h)

def fX7_refuse (F : Nat) (σ : St) (a0 : Int32) : Option (Int32 × St) := nm (up σ 28 6 a0) fun u2 => nm (up u2 28 7 (u2 28 4)) fun u4 => some (0, u4)
set_option maxRecDepth 20000 in
theorem wfX7_refuse {X : XT} {D : va_G} {cI : ClassId} {ad : Nat → Nat} {F : Nat} {σ : St} {a0 : Int32} {r : Int32} {σ' : St} (C : Cx X (gC D cI ad) cX7_refuse 2 RX7 0 0 0) (hr : RetZ X (gC D cI ad) cX7_refuse 2 0 r σ') (h : fX7_refuse F σ a0 = some (r, σ')) : WP X (gC D cI ad) 2 0 0 σ [(0, .ref (ad 28)), (1, .int a0)] [] := by
  unfold fX7_refuse at h
  refine w_aload_n C dX7_refuse_0 rfl 0 rfl ?_
  refine w_iload_n C dX7_refuse_1 rfl 1 rfl ?_
  refine w_put C 28 6 a0 (Nat.le_of_ble_eq_true rfl) rfl rfl inB_X7 tyX7_ok nmX7 (by decide) tw1_162 rfl rfl rfl (Nat.le_of_ble_eq_true rfl) rfl dX7_refuse_2 rfl ?_
  refine w_nst h (fun u2 h => ?_)
  refine w_aload_n C dX7_refuse_5 rfl 0 rfl ?_
  refine w_aload_n C dX7_refuse_6 rfl 0 rfl ?_
  refine w_get C 28 4 (Nat.le_of_ble_eq_true rfl) rfl rfl inB_X7 (by decide) tw1_160 rfl dX7_refuse_7 rfl ?_
  refine w_put C 28 7 (u2 28 4) (Nat.le_of_ble_eq_true rfl) rfl rfl inB_X7 tyX7_ok nmX7 (by decide) tw1_164 rfl rfl rfl (Nat.le_of_ble_eq_true rfl) rfl dX7_refuse_10 rfl ?_
  refine w_nst h (fun u4 h => ?_)
  refine w_iconst C 0 dX7_refuse_13 rfl (by decide) ?_
  exact w_rz2 hr (by decide) h (by decide) dX7_refuse_14
theorem cfX7_refuse (D : va_G) (cI : ClassId) (ad : Nat → Nat) {l : Launch} (had : gAp (gC D cI ad)) {F : Nat} {σ : St} {a0 : Int32} {r : Int32} {σ' : St} (h : fX7_refuse F σ a0 = some (r, σ')) : MI l yX7_refuse (wB yX7_refuse cX7_refuse 2 (some .boolean)) 0 0 (gC D cI ad) [.ref (ad 28), .int a0] σ r σ' := mk_MZ had (by decide +kernel) (Nat.le_of_ble_eq_true rfl) (fun X hX C hr => wfX7_refuse C hr h)

def fX10_placeOf (F : Nat) (σ : St) (a0 : Int32) (a1 : Int32) : Option Int32 := some ((a0 * 10) + a1)
set_option maxRecDepth 20000 in
theorem wfX10_placeOf {X : XT} {D : va_G} {cI : ClassId} {ad : Nat → Nat} {F : Nat} {σ : St} {a0 : Int32} {a1 : Int32} {r : Int32} (C : Cx X (gC D cI ad) cX10_placeOf 2 RX10 0 0 0) (hr : RetI X (gC D cI ad) cX10_placeOf 2 0 r σ) (h : fX10_placeOf F σ a0 a1 = some r) : WP X (gC D cI ad) 2 0 0 σ [(0, .int a0), (1, .int a1)] [] := by
  unfold fX10_placeOf at h
  refine w_iload_n C dX10_placeOf_0 rfl 0 rfl ?_
  refine w_bipush C 10 dX10_placeOf_1 rfl (by decide) ?_
  refine w_imul C dX10_placeOf_3 rfl ?_
  refine w_iload_n C dX10_placeOf_4 rfl 1 rfl ?_
  refine w_iadd C dX10_placeOf_5 rfl ?_
  exact w_ri1 hr h (by decide) dX10_placeOf_6
theorem cfX10_placeOf (D : va_G) (cI : ClassId) (ad : Nat → Nat) {l : Launch} (had : gAp (gC D cI ad)) {F : Nat} {σ : St} {a0 : Int32} {a1 : Int32} {r : Int32} (h : fX10_placeOf F σ a0 a1 = some r) : MI l yX10_placeOf (wB yX10_placeOf cX10_placeOf 2 (some .int)) 0 0 (gC D cI ad) [.int a0, .int a1] σ r σ := mk_MI had (by decide +kernel) (Nat.le_of_ble_eq_true rfl) (fun X hX C hr => wfX10_placeOf C hr h)

def fX7_numberHere (F : Nat) (σ : St) : Option Int32 := if (σ 28 3) = (2 : Int32) then (if ((σ 28 5) - (σ 28 4)) ≤ (4 : Int32) then (nm (σ 28 4) fun x1 => lp (fun (K3 : (Int32 × Int32) → Option Int32) (v2 : Int32 × Int32) => if (σ 28 5) ≤ v2.1 then (some v2.2) else bd1 (fX7_byteAt F σ v2.1) fun r5 => nm (((v2.2 * 10) + r5) - 48) fun x6 => K3 ((v2.1 + 1, x6))) F ((x1, 0))) else some ((-1))) else some ((-1))
set_option maxRecDepth 20000 in
theorem wfX7_numberHere {X : XT} {D : va_G} {cI : ClassId} {ad : Nat → Nat} {F : Nat} {σ : St}  {r : Int32} (C : Cx X (gC D cI ad) cX7_numberHere 3 RX7 1 21 0) (hr : RetI X (gC D cI ad) cX7_numberHere 3 0 r σ) (h : fX7_numberHere F σ = some r) : WP X (gC D cI ad) 3 0 0 σ [(0, .ref (ad 28))] [] := by
  unfold fX7_numberHere at h
  refine w_aload_n C dX7_numberHere_0 rfl 0 rfl ?_
  refine w_get C 28 3 (Nat.le_of_ble_eq_true rfl) rfl rfl inB_X7 (by decide) tw1_159 rfl dX7_numberHere_1 rfl ?_
  refine w_iconst C 2 dX7_numberHere_4 rfl (by decide) ?_
  refine w_icmp_ne C (qt := 21) dX7_numberHere_5 (by decide) rfl h (fun _ h => ?_) (fun _ h => ?_)
  · refine w_iconst C (-1) dX7_numberHere_21 rfl (by decide) ?_
    exact w_ri1 hr h (by decide) dX7_numberHere_22
  · refine w_aload_n C dX7_numberHere_8 rfl 0 rfl ?_
    refine w_get C 28 5 (Nat.le_of_ble_eq_true rfl) rfl rfl inB_X7 (by decide) tw1_161 rfl dX7_numberHere_9 rfl ?_
    refine w_aload_n C dX7_numberHere_12 rfl 0 rfl ?_
    refine w_get C 28 4 (Nat.le_of_ble_eq_true rfl) rfl rfl inB_X7 (by decide) tw1_160 rfl dX7_numberHere_13 rfl ?_
    refine w_isub C dX7_numberHere_16 rfl ?_
    refine w_iconst C 4 dX7_numberHere_17 rfl (by decide) ?_
    refine w_icmp_le C (qt := 23) dX7_numberHere_18 (by decide) rfl h (fun _ h => ?_) (fun _ h => ?_)
    · refine w_iconst C 0 dX7_numberHere_23 rfl (by decide) ?_
      refine w_istore_n C [(1, .int 0), (0, .ref (ad 28))] dX7_numberHere_24 rfl (by decide) rfl ?_
      refine w_aload_n C dX7_numberHere_25 rfl 1 rfl ?_
      refine w_get C 28 4 (Nat.le_of_ble_eq_true rfl) rfl rfl inB_X7 (by decide) tw1_160 rfl dX7_numberHere_26 rfl ?_
      refine w_nm h (fun x1 h => ?_)
      refine w_istore_n C [(2, .int x1), (1, .int 0), (0, .ref (ad 28))] dX7_numberHere_29 rfl (by decide) rfl ?_
      refine w_sub (lv' := [(2, .int x1), (1, .int 0), (0, .ref (ad 28))]) [0, 1, 2] rfl ?_
      refine lp_w (fun v2 : Int32 × Int32 => WP X (gC D cI ad) 3 0 30 σ [(2, .int v2.1), (1, .int v2.2), (0, .ref (ad 28))] []) (fun K3 hK4 v2 h => ?_) F _ h
      refine w_iload_n C dX7_numberHere_30 rfl 0 rfl ?_
      refine w_aload_n C dX7_numberHere_31 rfl 2 rfl ?_
      refine w_get C 28 5 (Nat.le_of_ble_eq_true rfl) rfl rfl inB_X7 (by decide) tw1_161 rfl dX7_numberHere_32 rfl ?_
      refine w_icmp_ge C (qt := 58) dX7_numberHere_35 (by decide) rfl h (fun _ h => ?_) (fun _ h => ?_)
      · refine w_iload_n C dX7_numberHere_58 rfl 1 rfl ?_
        exact w_ri1 hr h (by decide) dX7_numberHere_59
      · refine w_iload_n C dX7_numberHere_38 rfl 1 rfl ?_
        refine w_bipush C 10 dX7_numberHere_39 rfl (by decide) ?_
        refine w_imul C dX7_numberHere_41 rfl ?_
        refine w_aload_n C dX7_numberHere_42 rfl 2 rfl ?_
        refine w_iload_n C dX7_numberHere_43 rfl 0 rfl ?_
        refine bd1_w h (fun r5 hc h => ?_)
        refine w_callVi C (n := 1) (As := [.int v2.1]) (st := [.int (v2.2 * 10)]) 28 (Nat.le_of_ble_eq_true rfl) rfl rfl (cfX7_byteAt D cI ad (l := X.2.1) C.2.2.1 hc) tw3_145 cy_X7_byteAt (by decide +kernel) ⟨Nat.le_of_ble_eq_true rfl, Nat.le_of_ble_eq_true rfl⟩ (by decide) rfl rfl (Nat.le_of_ble_eq_true rfl) dX7_numberHere_44 rfl ?_
        refine w_iadd C dX7_numberHere_47 rfl ?_
        refine w_bipush C 48 dX7_numberHere_48 rfl (by decide) ?_
        refine w_isub C dX7_numberHere_50 rfl ?_
        refine w_nm h (fun x6 h => ?_)
        refine w_istore_n C [(1, .int x6), (2, .int v2.1), (0, .ref (ad 28))] dX7_numberHere_51 rfl (by decide) rfl ?_
        refine w_iinc (j := 1) C (v2.1 + 1) [(2, .int (v2.1 + 1)), (1, .int x6), (0, .ref (ad 28))] dX7_numberHere_52 rfl rfl rfl (by decide) rfl ?_
        refine w_goto (q := 30) C dX7_numberHere_55 (by decide) ?_
        exact w_sub (lv' := [(2, .int (v2.1 + 1)), (1, .int x6), (0, .ref (ad 28))]) [0, 1, 2] rfl (hK4 ((v2.1 + 1, x6)) h)
    · refine w_iconst C (-1) dX7_numberHere_21 rfl (by decide) ?_
      exact w_ri1 hr h (by decide) dX7_numberHere_22
theorem cfX7_numberHere (D : va_G) (cI : ClassId) (ad : Nat → Nat) {l : Launch} (had : gAp (gC D cI ad)) {F : Nat} {σ : St}  {r : Int32} (h : fX7_numberHere F σ = some r) : MI l yX7_numberHere (wB yX7_numberHere cX7_numberHere 3 (some .int)) 1 21 (gC D cI ad) [.ref (ad 28)] σ r σ := mk_MI had (by decide +kernel) (Nat.le_of_ble_eq_true rfl) (fun X hX C hr => wfX7_numberHere C hr h)

def fX7_takeNumber (F : Nat) (σ : St) (a0 : Int32) (a1 : Int32) : Option (Int32 × St) := if (σ 28 3) = (2 : Int32) then (bd1 (fX7_numberHere F σ) fun r1 => jn (fun v2 : Unit => bd2 (fX7_refuse F σ 2) fun r5 u6 => some ((-1), u6)) fun J3 => if r1 < a0 then (J3 (())) else if r1 ≤ a1 then (bd1 (fX7_nextToken F σ) fun u7 => some (r1, u7)) else J3 (())) else bd2 (fX7_refuse F σ 1) fun r8 u9 => some ((-1), u9)
set_option maxRecDepth 20000 in
theorem wfX7_takeNumber {X : XT} {D : va_G} {cI : ClassId} {ad : Nat → Nat} {F : Nat} {σ : St} {a0 : Int32} {a1 : Int32} {r : Int32} {σ' : St} (C : Cx X (gC D cI ad) cX7_takeNumber 4 RX7 2 45 0) (hr : RetI X (gC D cI ad) cX7_takeNumber 4 0 r σ') (h : fX7_takeNumber F σ a0 a1 = some (r, σ')) : WP X (gC D cI ad) 4 0 0 σ [(0, .ref (ad 28)), (1, .int a0), (2, .int a1)] [] := by
  unfold fX7_takeNumber at h
  refine w_aload_n C dX7_takeNumber_0 rfl 0 rfl ?_
  refine w_get C 28 3 (Nat.le_of_ble_eq_true rfl) rfl rfl inB_X7 (by decide) tw1_159 rfl dX7_takeNumber_1 rfl ?_
  refine w_iconst C 2 dX7_takeNumber_4 rfl (by decide) ?_
  refine w_icmp_eq C (qt := 16) dX7_takeNumber_5 (by decide) rfl h (fun _ h => ?_) (fun _ h => ?_)
  · refine w_aload_n C dX7_takeNumber_16 rfl 0 rfl ?_
    refine bd1_w h (fun r1 hc h => ?_)
    refine w_callVi C (n := 0) (As := []) (st := []) 28 (Nat.le_of_ble_eq_true rfl) rfl rfl (cfX7_numberHere D cI ad (l := X.2.1) C.2.2.1 hc) tw3_199 cy_X7_numberHere (by decide +kernel) ⟨Nat.le_of_ble_eq_true rfl, Nat.le_of_ble_eq_true rfl⟩ (by decide) rfl rfl (Nat.le_of_ble_eq_true rfl) dX7_takeNumber_17 rfl ?_
    refine w_istore_n C [(3, .int r1), (0, .ref (ad 28)), (1, .int a0), (2, .int a1)] dX7_takeNumber_20 rfl (by decide) rfl ?_
    refine w_iload_n C dX7_takeNumber_21 rfl 0 rfl ?_
    refine w_iload_n C dX7_takeNumber_22 rfl 2 rfl ?_
    refine jn_w (fun v2 : Unit => WP X (gC D cI ad) 4 0 31 σ [(0, .ref (ad 28))] []) h (fun v2 h => ?_) (fun J3 hJ4 h => ?_)
    · refine w_aload_n C dX7_takeNumber_31 rfl 0 rfl ?_
      refine w_iconst C 2 dX7_takeNumber_32 rfl (by decide) ?_
      refine bd2_w h (fun r5 u6 hc h => ?_)
      refine w_callVi C (n := 1) (As := [.int 2]) (st := []) 28 (Nat.le_of_ble_eq_true rfl) rfl rfl (cfX7_refuse D cI ad (l := X.2.1) C.2.2.1 hc) tw3_191 cy_X7_refuse (by decide +kernel) ⟨Nat.le_of_ble_eq_true rfl, Nat.le_of_ble_eq_true rfl⟩ (by decide) rfl rfl (Nat.le_of_ble_eq_true rfl) dX7_takeNumber_33 rfl ?_
      refine w_pop C rfl dX7_takeNumber_36 rfl ?_
      refine w_iconst C (-1) dX7_takeNumber_37 rfl (by decide) ?_
      exact w_ri2 hr h (by decide) dX7_takeNumber_38
    · refine w_icmp_lt C (qt := 31) dX7_takeNumber_23 (by decide) rfl h (fun _ h => ?_) (fun _ h => ?_)
      · exact w_sub (lv' := [(0, .ref (ad 28))]) [1] rfl (hJ4 (()) h)
      · refine w_iload_n C dX7_takeNumber_26 rfl 0 rfl ?_
        refine w_iload_n C dX7_takeNumber_27 rfl 3 rfl ?_
        refine w_icmp_le C (qt := 39) dX7_takeNumber_28 (by decide) rfl h (fun _ h => ?_) (fun _ h => ?_)
        · refine w_aload_n C dX7_takeNumber_39 rfl 1 rfl ?_
          refine bd1_w h (fun u7 hc h => ?_)
          refine w_callVv C (n := 0) (As := []) (st := []) 28 (Nat.le_of_ble_eq_true rfl) rfl rfl (cfX7_nextToken D cI ad (l := X.2.1) C.2.2.1 hc) tw3_118 cy_X7_nextToken (by decide +kernel) ⟨Nat.le_of_ble_eq_true rfl, Nat.le_of_ble_eq_true rfl⟩ (by decide) rfl rfl (Nat.le_of_ble_eq_true rfl) dX7_takeNumber_40 rfl ?_
          refine w_iload_n C dX7_takeNumber_43 rfl 0 rfl ?_
          exact w_ri2 hr h (by decide) dX7_takeNumber_44
        · exact w_sub (lv' := [(0, .ref (ad 28))]) [1] rfl (hJ4 (()) h)
  · refine w_aload_n C dX7_takeNumber_8 rfl 0 rfl ?_
    refine w_iconst C 1 dX7_takeNumber_9 rfl (by decide) ?_
    refine bd2_w h (fun r8 u9 hc h => ?_)
    refine w_callVi C (n := 1) (As := [.int 1]) (st := []) 28 (Nat.le_of_ble_eq_true rfl) rfl rfl (cfX7_refuse D cI ad (l := X.2.1) C.2.2.1 hc) tw3_191 cy_X7_refuse (by decide +kernel) ⟨Nat.le_of_ble_eq_true rfl, Nat.le_of_ble_eq_true rfl⟩ (by decide) rfl rfl (Nat.le_of_ble_eq_true rfl) dX7_takeNumber_10 rfl ?_
    refine w_pop C rfl dX7_takeNumber_13 rfl ?_
    refine w_iconst C (-1) dX7_takeNumber_14 rfl (by decide) ?_
    exact w_ri2 hr h (by decide) dX7_takeNumber_15
theorem cfX7_takeNumber (D : va_G) (cI : ClassId) (ad : Nat → Nat) {l : Launch} (had : gAp (gC D cI ad)) {F : Nat} {σ : St} {a0 : Int32} {a1 : Int32} {r : Int32} {σ' : St} (h : fX7_takeNumber F σ a0 a1 = some (r, σ')) : MI l yX7_takeNumber (wB yX7_takeNumber cX7_takeNumber 4 (some .int)) 2 45 (gC D cI ad) [.ref (ad 28), .int a0, .int a1] σ r σ' := mk_MI had (by decide +kernel) (Nat.le_of_ble_eq_true rfl) (fun X hX C hr => wfX7_takeNumber C hr h)

def fX7_readStep (F : Nat) (σ : St) : Option (Int32 × St) := bd1 (fX7_kindOfWord F σ) fun r1 => jn (fun v2 : Unit => bd2 (fX7_refuse F σ 1) fun r5 u6 => ckB (r5) (some (r5, u6))) fun J3 => if r1 = (-1 : Int32) then (J3 (())) else if (σ 15 1) = 0 then (J3 (())) else nm ((σ 15 1) - 1) fun x7 => ckI (x7) 8 (nm (σ 20 (Int32.toNatClampNeg x7)) fun x8 => if x8 < (10 : Int32) then (bd1 (fX7_nextToken F σ) fun u9 => jn (fun v10 : St × Int32 => if v10.2 = (-1 : Int32) then (some (0, v10.1)) else jn (fun v13 : St × Int32 => if v13.2 = (-1 : Int32) then (some (0, v13.1)) else jn (fun v16 : St × Int32 => if v16.2 = (-1 : Int32) then (some (0, v16.1)) else bd1 (fX10_placeOf F v16.1 x7 x8) fun r19 => ckI (r19) 80 (nm (up v16.1 21 (Int32.toNatClampNeg r19) r1) fun u20 => ckI (r19) 80 (nm (up u20 22 (Int32.toNatClampNeg r19) v10.2) fun u21 => ckI (r19) 80 (nm (up u21 23 (Int32.toNatClampNeg r19) v13.2) fun u22 => ckI (r19) 80 (nm (up u22 24 (Int32.toNatClampNeg r19) v16.2) fun u23 => ckI (x7) 8 (ckI (x7) 8 (nm (up u23 20 (Int32.toNatClampNeg x7) ((u23 20 (Int32.toNatClampNeg x7)) + 1)) fun u24 => some (1, u24)))))))) fun J17 => jn (fun v25 : Unit => J17 ((v13.1, 0))) fun J26 => if r1 = (4 : Int32) then (J26 (())) else if r1 = (1 : Int32) then (J26 (())) else bd2 (fX7_takeNumber F v13.1 0 7) fun r28 u29 => J17 ((u29, r28))) fun J14 => jn (fun v30 : Unit => J14 ((v10.1, 0))) fun J31 => if r1 = (4 : Int32) then (J31 (())) else if r1 = (3 : Int32) then (J31 (())) else bd2 (fX7_takeNumber F v10.1 0 9) fun r33 u34 => J14 ((u34, r33))) fun J11 => if r1 = (4 : Int32) then (J11 ((u9, 2))) else bd2 (fX7_takeNumber F u9 0 2) fun r35 u36 => J11 ((u36, r35))) else bd2 (fX7_refuse F σ 2) fun r37 u38 => ckB (r37) (some (r37, u38)))
set_option maxRecDepth 20000 in
theorem wfX7_readStep {X : XT} {D : va_G} {cI : ClassId} {ad : Nat → Nat} {F : Nat} {σ : St}  {r : Int32} {σ' : St} (C : Cx X (gC D cI ad) cX7_readStep 8 RX7 6 127 0) (hr : RetZ X (gC D cI ad) cX7_readStep 8 0 r σ') (h : fX7_readStep F σ = some (r, σ')) : WP X (gC D cI ad) 8 0 0 σ [(0, .ref (ad 28))] [] := by
  unfold fX7_readStep at h
  refine w_aload_n C dX7_readStep_0 rfl 0 rfl ?_
  refine bd1_w h (fun r1 hc h => ?_)
  refine w_callVi C (n := 0) (As := []) (st := []) 28 (Nat.le_of_ble_eq_true rfl) rfl rfl (cfX7_kindOfWord D cI ad (l := X.2.1) C.2.2.1 hc) tw4_54 cy_X7_kindOfWord (by decide +kernel) ⟨Nat.le_of_ble_eq_true rfl, Nat.le_of_ble_eq_true rfl⟩ (by decide) rfl rfl (Nat.le_of_ble_eq_true rfl) dX7_readStep_1 rfl ?_
  refine w_istore_n C [(1, .int r1), (0, .ref (ad 28))] dX7_readStep_4 rfl (by decide) rfl ?_
  refine w_iload_n C dX7_readStep_5 rfl 0 rfl ?_
  refine w_iconst C (-1) dX7_readStep_6 rfl (by decide) ?_
  refine jn_w (fun v2 : Unit => WP X (gC D cI ad) 8 0 20 σ [(0, .ref (ad 28))] []) h (fun v2 h => ?_) (fun J3 hJ4 h => ?_)
  · refine w_aload_n C dX7_readStep_20 rfl 0 rfl ?_
    refine w_iconst C 1 dX7_readStep_21 rfl (by decide) ?_
    refine bd2_w h (fun r5 u6 hc h => ?_)
    refine w_callVi C (n := 1) (As := [.int 1]) (st := []) 28 (Nat.le_of_ble_eq_true rfl) rfl rfl (cfX7_refuse D cI ad (l := X.2.1) C.2.2.1 hc) tw3_191 cy_X7_refuse (by decide +kernel) ⟨Nat.le_of_ble_eq_true rfl, Nat.le_of_ble_eq_true rfl⟩ (by decide) rfl rfl (Nat.le_of_ble_eq_true rfl) dX7_readStep_22 rfl ?_
    obtain ⟨hz, h⟩ := ckB_w h
    exact w_rz2 hr hz h (by decide) dX7_readStep_25
  · refine w_icmp_eq C (qt := 20) dX7_readStep_7 (by decide) rfl h (fun _ h => ?_) (fun _ h => ?_)
    · exact w_sub (lv' := [(0, .ref (ad 28))]) [1] rfl (hJ4 (()) h)
    · refine w_aload_n C dX7_readStep_10 rfl 1 rfl ?_
      refine w_get C 28 0 (Nat.le_of_ble_eq_true rfl) rfl rfl inB_X7 (by decide) tw1_156 rfl dX7_readStep_11 rfl ?_
      refine w_get C 15 1 (Nat.le_of_ble_eq_true rfl) rfl rfl inB_X0 (by decide) tw1_66 rfl dX7_readStep_14 rfl ?_
      refine w_if_ne C (qt := 26) dX7_readStep_17 (by decide) rfl h (fun _ h => ?_) (fun _ h => ?_)
      · refine w_aload_n C dX7_readStep_26 rfl 1 rfl ?_
        refine w_get C 28 0 (Nat.le_of_ble_eq_true rfl) rfl rfl inB_X7 (by decide) tw1_156 rfl dX7_readStep_27 rfl ?_
        refine w_get C 15 1 (Nat.le_of_ble_eq_true rfl) rfl rfl inB_X0 (by decide) tw1_66 rfl dX7_readStep_30 rfl ?_
        refine w_iconst C 1 dX7_readStep_33 rfl (by decide) ?_
        refine w_isub C dX7_readStep_34 rfl ?_
        refine w_nm h (fun x7 h => ?_)
        refine w_istore_n C [(2, .int x7), (1, .int r1), (0, .ref (ad 28))] dX7_readStep_35 rfl (by decide) rfl ?_
        refine w_aload_n C dX7_readStep_36 rfl 2 rfl ?_
        refine w_get C 28 0 (Nat.le_of_ble_eq_true rfl) rfl rfl inB_X7 (by decide) tw1_156 rfl dX7_readStep_37 rfl ?_
        refine w_get C 15 9 (Nat.le_of_ble_eq_true rfl) rfl rfl inB_X0 (by decide) tw1_98 rfl dX7_readStep_40 rfl ?_
        refine w_iload_n C dX7_readStep_43 rfl 0 rfl ?_
        refine w_iald C 20 8 0 (Nat.le_of_ble_eq_true rfl) (fun _ => rfl) rfl h dX7_readStep_44 rfl (fun h => ?_)
        refine w_nm h (fun x8 h => ?_)
        refine w_istore_n C [(3, .int x8), (2, .int x7), (1, .int r1), (0, .ref (ad 28))] dX7_readStep_45 rfl (by decide) rfl ?_
        refine w_iload_n C dX7_readStep_46 rfl 0 rfl ?_
        refine w_bipush C 10 dX7_readStep_47 rfl (by decide) ?_
        refine w_icmp_lt C (qt := 58) dX7_readStep_49 (by decide) rfl h (fun _ h => ?_) (fun _ h => ?_)
        · refine w_aload_n C dX7_readStep_58 rfl 3 rfl ?_
          refine bd1_w h (fun u9 hc h => ?_)
          refine w_callVv C (n := 0) (As := []) (st := []) 28 (Nat.le_of_ble_eq_true rfl) rfl rfl (cfX7_nextToken D cI ad (l := X.2.1) C.2.2.1 hc) tw3_118 cy_X7_nextToken (by decide +kernel) ⟨Nat.le_of_ble_eq_true rfl, Nat.le_of_ble_eq_true rfl⟩ (by decide) rfl rfl (Nat.le_of_ble_eq_true rfl) dX7_readStep_59 rfl ?_
          refine w_iload_n C dX7_readStep_62 rfl 2 rfl ?_
          refine w_iconst C 4 dX7_readStep_63 rfl (by decide) ?_
          refine jn_w (fun v10 : St × Int32 => WP X (gC D cI ad) 8 0 77 v10.1 [(3, .int x8), (2, .int x7), (1, .int r1), (0, .ref (ad 28))] [.int v10.2]) h (fun v10 h => ?_) (fun J11 hJ12 h => ?_)
          · refine w_istore C [(4, .int v10.2), (3, .int x8), (2, .int x7), (1, .int r1), (0, .ref (ad 28))] dX7_readStep_77 rfl (by decide) rfl ?_
            refine w_iload C dX7_readStep_79 rfl 0 rfl ?_
            refine w_iconst C (-1) dX7_readStep_81 rfl (by decide) ?_
            refine w_icmp_ne C (qt := 87) dX7_readStep_82 (by decide) rfl h (fun _ h => ?_) (fun _ h => ?_)
            · refine w_iload_n C dX7_readStep_87 rfl 3 rfl ?_
              refine w_iconst C 4 dX7_readStep_88 rfl (by decide) ?_
              refine jn_w (fun v13 : St × Int32 => WP X (gC D cI ad) 8 0 108 v13.1 [(4, .int v10.2), (3, .int x8), (2, .int x7), (1, .int r1), (0, .ref (ad 28))] [.int v13.2]) h (fun v13 h => ?_) (fun J14 hJ15 h => ?_)
              · refine w_istore C [(5, .int v13.2), (4, .int v10.2), (3, .int x8), (2, .int x7), (1, .int r1), (0, .ref (ad 28))] dX7_readStep_108 rfl (by decide) rfl ?_
                refine w_iload C dX7_readStep_110 rfl 0 rfl ?_
                refine w_iconst C (-1) dX7_readStep_112 rfl (by decide) ?_
                refine w_icmp_ne C (qt := 118) dX7_readStep_113 (by decide) rfl h (fun _ h => ?_) (fun _ h => ?_)
                · refine w_iload_n C dX7_readStep_118 rfl 4 rfl ?_
                  refine w_iconst C 4 dX7_readStep_119 rfl (by decide) ?_
                  refine jn_w (fun v16 : St × Int32 => WP X (gC D cI ad) 8 0 139 v16.1 [(5, .int v13.2), (4, .int v10.2), (3, .int x8), (2, .int x7), (1, .int r1), (0, .ref (ad 28))] [.int v16.2]) h (fun v16 h => ?_) (fun J17 hJ18 h => ?_)
                  · refine w_istore C [(6, .int v16.2), (5, .int v13.2), (4, .int v10.2), (3, .int x8), (2, .int x7), (1, .int r1), (0, .ref (ad 28))] dX7_readStep_139 rfl (by decide) rfl ?_
                    refine w_iload C dX7_readStep_141 rfl 0 rfl ?_
                    refine w_iconst C (-1) dX7_readStep_143 rfl (by decide) ?_
                    refine w_icmp_ne C (qt := 149) dX7_readStep_144 (by decide) rfl h (fun _ h => ?_) (fun _ h => ?_)
                    · refine w_iload_n C dX7_readStep_149 rfl 4 rfl ?_
                      refine w_iload_n C dX7_readStep_150 rfl 3 rfl ?_
                      refine bd1_w h (fun r19 hc h => ?_)
                      refine w_callNi C (n := 2) (As := [.int x7, .int x8]) (st := []) (host := RX10) (cfX10_placeOf D cI ad (l := X.2.1) C.2.2.1 hc) (by decide +kernel) cs_X10_placeOf (by decide +kernel) ⟨Nat.le_of_ble_eq_true rfl, Nat.le_of_ble_eq_true rfl⟩ (by decide) rfl rfl (Nat.le_of_ble_eq_true rfl) dX7_readStep_151 rfl ?_
                      refine w_istore C [(7, .int r19), (6, .int v16.2), (5, .int v13.2), (4, .int v10.2), (3, .int x8), (2, .int x7), (1, .int r1), (0, .ref (ad 28))] dX7_readStep_154 rfl (by decide) rfl ?_
                      refine w_aload_n C dX7_readStep_156 rfl 7 rfl ?_
                      refine w_get C 28 0 (Nat.le_of_ble_eq_true rfl) rfl rfl inB_X7 (by decide) tw1_156 rfl dX7_readStep_157 rfl ?_
                      refine w_get C 15 10 (Nat.le_of_ble_eq_true rfl) rfl rfl inB_X0 (by decide) tw1_104 rfl dX7_readStep_160 rfl ?_
                      refine w_iload C dX7_readStep_163 rfl 0 rfl ?_
                      refine w_iload_n C dX7_readStep_165 rfl 6 rfl ?_
                      refine w_iast C 21 80 0 (Nat.le_of_ble_eq_true rfl) (fun _ => rfl) rfl h dX7_readStep_166 rfl (fun h => ?_)
                      refine w_nst h (fun u20 h => ?_)
                      refine w_aload_n C dX7_readStep_167 rfl 7 rfl ?_
                      refine w_get C 28 0 (Nat.le_of_ble_eq_true rfl) rfl rfl inB_X7 (by decide) tw1_156 rfl dX7_readStep_168 rfl ?_
                      refine w_get C 15 11 (Nat.le_of_ble_eq_true rfl) rfl rfl inB_X0 (by decide) tw1_108 rfl dX7_readStep_171 rfl ?_
                      refine w_iload C dX7_readStep_174 rfl 0 rfl ?_
                      refine w_iload C dX7_readStep_176 rfl 3 rfl ?_
                      refine w_iast C 22 80 0 (Nat.le_of_ble_eq_true rfl) (fun _ => rfl) rfl h dX7_readStep_178 rfl (fun h => ?_)
                      refine w_nst h (fun u21 h => ?_)
                      refine w_aload_n C dX7_readStep_179 rfl 7 rfl ?_
                      refine w_get C 28 0 (Nat.le_of_ble_eq_true rfl) rfl rfl inB_X7 (by decide) tw1_156 rfl dX7_readStep_180 rfl ?_
                      refine w_get C 15 12 (Nat.le_of_ble_eq_true rfl) rfl rfl inB_X0 (by decide) tw1_111 rfl dX7_readStep_183 rfl ?_
                      refine w_iload C dX7_readStep_186 rfl 0 rfl ?_
                      refine w_iload C dX7_readStep_188 rfl 2 rfl ?_
                      refine w_iast C 23 80 0 (Nat.le_of_ble_eq_true rfl) (fun _ => rfl) rfl h dX7_readStep_190 rfl (fun h => ?_)
                      refine w_nst h (fun u22 h => ?_)
                      refine w_aload_n C dX7_readStep_191 rfl 7 rfl ?_
                      refine w_get C 28 0 (Nat.le_of_ble_eq_true rfl) rfl rfl inB_X7 (by decide) tw1_156 rfl dX7_readStep_192 rfl ?_
                      refine w_get C 15 13 (Nat.le_of_ble_eq_true rfl) rfl rfl inB_X0 (by decide) tw1_115 rfl dX7_readStep_195 rfl ?_
                      refine w_iload C dX7_readStep_198 rfl 0 rfl ?_
                      refine w_iload C dX7_readStep_200 rfl 1 rfl ?_
                      refine w_iast C 24 80 0 (Nat.le_of_ble_eq_true rfl) (fun _ => rfl) rfl h dX7_readStep_202 rfl (fun h => ?_)
                      refine w_nst h (fun u23 h => ?_)
                      refine w_aload_n C dX7_readStep_203 rfl 7 rfl ?_
                      refine w_get C 28 0 (Nat.le_of_ble_eq_true rfl) rfl rfl inB_X7 (by decide) tw1_156 rfl dX7_readStep_204 rfl ?_
                      refine w_get C 15 9 (Nat.le_of_ble_eq_true rfl) rfl rfl inB_X0 (by decide) tw1_98 rfl dX7_readStep_207 rfl ?_
                      refine w_iload_n C dX7_readStep_210 rfl 5 rfl ?_
                      refine w_dup2 C rfl rfl dX7_readStep_211 rfl ?_
                      refine w_iald C 20 8 0 (Nat.le_of_ble_eq_true rfl) (fun _ => rfl) rfl h dX7_readStep_212 rfl (fun h => ?_)
                      refine w_iconst C 1 dX7_readStep_213 rfl (by decide) ?_
                      refine w_iadd C dX7_readStep_214 rfl ?_
                      refine w_iast C 20 8 0 (Nat.le_of_ble_eq_true rfl) (fun _ => rfl) rfl h dX7_readStep_215 rfl (fun h => ?_)
                      refine w_nst h (fun u24 h => ?_)
                      refine w_iconst C 1 dX7_readStep_216 rfl (by decide) ?_
                      exact w_rz2 hr (by decide) h (by decide) dX7_readStep_217
                    · refine w_iconst C 0 dX7_readStep_147 rfl (by decide) ?_
                      exact w_rz2 hr (by decide) h (by decide) dX7_readStep_148
                  · refine jn_w (fun v25 : Unit => WP X (gC D cI ad) 8 0 128 v13.1 [(5, .int v13.2), (4, .int v10.2), (3, .int x8), (2, .int x7), (1, .int r1), (0, .ref (ad 28))] []) h (fun v25 h => ?_) (fun J26 hJ27 h => ?_)
                    · refine w_iconst C 0 dX7_readStep_128 rfl (by decide) ?_
                      refine w_goto (q := 139) C dX7_readStep_129 (by decide) ?_
                      exact w_sub (lv' := [(5, .int v13.2), (4, .int v10.2), (3, .int x8), (2, .int x7), (1, .int r1), (0, .ref (ad 28))]) [0, 1, 2, 3, 4, 5] rfl (hJ18 ((v13.1, 0)) h)
                    · refine w_icmp_eq C (qt := 128) dX7_readStep_120 (by decide) rfl h (fun _ h => ?_) (fun _ h => ?_)
                      · exact w_sub (lv' := [(5, .int v13.2), (4, .int v10.2), (3, .int x8), (2, .int x7), (1, .int r1), (0, .ref (ad 28))]) [0, 1, 2, 3, 4, 5] rfl (hJ27 (()) h)
                      · refine w_iload_n C dX7_readStep_123 rfl 4 rfl ?_
                        refine w_iconst C 1 dX7_readStep_124 rfl (by decide) ?_
                        refine w_icmp_ne C (qt := 132) dX7_readStep_125 (by decide) rfl h (fun _ h => ?_) (fun _ h => ?_)
                        · refine w_aload_n C dX7_readStep_132 rfl 5 rfl ?_
                          refine w_iconst C 0 dX7_readStep_133 rfl (by decide) ?_
                          refine w_bipush C 7 dX7_readStep_134 rfl (by decide) ?_
                          refine bd2_w h (fun r28 u29 hc h => ?_)
                          refine w_callVi C (n := 2) (As := [.int 0, .int 7]) (st := []) 28 (Nat.le_of_ble_eq_true rfl) rfl rfl (cfX7_takeNumber D cI ad (l := X.2.1) C.2.2.1 hc) tw3_195 cy_X7_takeNumber (by decide +kernel) ⟨Nat.le_of_ble_eq_true rfl, Nat.le_of_ble_eq_true rfl⟩ (by decide) rfl rfl (Nat.le_of_ble_eq_true rfl) dX7_readStep_136 rfl ?_
                          exact w_sub (lv' := [(5, .int v13.2), (4, .int v10.2), (3, .int x8), (2, .int x7), (1, .int r1), (0, .ref (ad 28))]) [0, 1, 2, 3, 4, 5] rfl (hJ18 ((u29, r28)) h)
                        · exact w_sub (lv' := [(5, .int v13.2), (4, .int v10.2), (3, .int x8), (2, .int x7), (1, .int r1), (0, .ref (ad 28))]) [0, 1, 2, 3, 4, 5] rfl (hJ27 (()) h)
                · refine w_iconst C 0 dX7_readStep_116 rfl (by decide) ?_
                  exact w_rz2 hr (by decide) h (by decide) dX7_readStep_117
              · refine jn_w (fun v30 : Unit => WP X (gC D cI ad) 8 0 97 v10.1 [(4, .int v10.2), (3, .int x8), (2, .int x7), (1, .int r1), (0, .ref (ad 28))] []) h (fun v30 h => ?_) (fun J31 hJ32 h => ?_)
                · refine w_iconst C 0 dX7_readStep_97 rfl (by decide) ?_
                  refine w_goto (q := 108) C dX7_readStep_98 (by decide) ?_
                  exact w_sub (lv' := [(4, .int v10.2), (3, .int x8), (2, .int x7), (1, .int r1), (0, .ref (ad 28))]) [0, 1, 2, 3, 4] rfl (hJ15 ((v10.1, 0)) h)
                · refine w_icmp_eq C (qt := 97) dX7_readStep_89 (by decide) rfl h (fun _ h => ?_) (fun _ h => ?_)
                  · exact w_sub (lv' := [(4, .int v10.2), (3, .int x8), (2, .int x7), (1, .int r1), (0, .ref (ad 28))]) [0, 1, 2, 3, 4] rfl (hJ32 (()) h)
                  · refine w_iload_n C dX7_readStep_92 rfl 3 rfl ?_
                    refine w_iconst C 3 dX7_readStep_93 rfl (by decide) ?_
                    refine w_icmp_ne C (qt := 101) dX7_readStep_94 (by decide) rfl h (fun _ h => ?_) (fun _ h => ?_)
                    · refine w_aload_n C dX7_readStep_101 rfl 4 rfl ?_
                      refine w_iconst C 0 dX7_readStep_102 rfl (by decide) ?_
                      refine w_bipush C 9 dX7_readStep_103 rfl (by decide) ?_
                      refine bd2_w h (fun r33 u34 hc h => ?_)
                      refine w_callVi C (n := 2) (As := [.int 0, .int 9]) (st := []) 28 (Nat.le_of_ble_eq_true rfl) rfl rfl (cfX7_takeNumber D cI ad (l := X.2.1) C.2.2.1 hc) tw3_195 cy_X7_takeNumber (by decide +kernel) ⟨Nat.le_of_ble_eq_true rfl, Nat.le_of_ble_eq_true rfl⟩ (by decide) rfl rfl (Nat.le_of_ble_eq_true rfl) dX7_readStep_105 rfl ?_
                      exact w_sub (lv' := [(4, .int v10.2), (3, .int x8), (2, .int x7), (1, .int r1), (0, .ref (ad 28))]) [0, 1, 2, 3, 4] rfl (hJ15 ((u34, r33)) h)
                    · exact w_sub (lv' := [(4, .int v10.2), (3, .int x8), (2, .int x7), (1, .int r1), (0, .ref (ad 28))]) [0, 1, 2, 3, 4] rfl (hJ32 (()) h)
            · refine w_iconst C 0 dX7_readStep_85 rfl (by decide) ?_
              exact w_rz2 hr (by decide) h (by decide) dX7_readStep_86
          · refine w_icmp_ne C (qt := 71) dX7_readStep_64 (by decide) rfl h (fun _ h => ?_) (fun _ h => ?_)
            · refine w_aload_n C dX7_readStep_71 rfl 3 rfl ?_
              refine w_iconst C 0 dX7_readStep_72 rfl (by decide) ?_
              refine w_iconst C 2 dX7_readStep_73 rfl (by decide) ?_
              refine bd2_w h (fun r35 u36 hc h => ?_)
              refine w_callVi C (n := 2) (As := [.int 0, .int 2]) (st := []) 28 (Nat.le_of_ble_eq_true rfl) rfl rfl (cfX7_takeNumber D cI ad (l := X.2.1) C.2.2.1 hc) tw3_195 cy_X7_takeNumber (by decide +kernel) ⟨Nat.le_of_ble_eq_true rfl, Nat.le_of_ble_eq_true rfl⟩ (by decide) rfl rfl (Nat.le_of_ble_eq_true rfl) dX7_readStep_74 rfl ?_
              exact w_sub (lv' := [(3, .int x8), (2, .int x7), (1, .int r1), (0, .ref (ad 28))]) [0, 1, 2, 3] rfl (hJ12 ((u36, r35)) h)
            · refine w_iconst C 2 dX7_readStep_67 rfl (by decide) ?_
              refine w_goto (q := 77) C dX7_readStep_68 (by decide) ?_
              exact w_sub (lv' := [(3, .int x8), (2, .int x7), (1, .int r1), (0, .ref (ad 28))]) [0, 1, 2, 3] rfl (hJ12 ((u9, 2)) h)
        · refine w_aload_n C dX7_readStep_52 rfl 3 rfl ?_
          refine w_iconst C 2 dX7_readStep_53 rfl (by decide) ?_
          refine bd2_w h (fun r37 u38 hc h => ?_)
          refine w_callVi C (n := 1) (As := [.int 2]) (st := []) 28 (Nat.le_of_ble_eq_true rfl) rfl rfl (cfX7_refuse D cI ad (l := X.2.1) C.2.2.1 hc) tw3_191 cy_X7_refuse (by decide +kernel) ⟨Nat.le_of_ble_eq_true rfl, Nat.le_of_ble_eq_true rfl⟩ (by decide) rfl rfl (Nat.le_of_ble_eq_true rfl) dX7_readStep_54 rfl ?_
          obtain ⟨hz, h⟩ := ckB_w h
          exact w_rz2 hr hz h (by decide) dX7_readStep_57
      · exact w_sub (lv' := [(0, .ref (ad 28))]) [1] rfl (hJ4 (()) h)
theorem cfX7_readStep (D : va_G) (cI : ClassId) (ad : Nat → Nat) {l : Launch} (had : gAp (gC D cI ad)) {F : Nat} {σ : St}  {r : Int32} {σ' : St} (h : fX7_readStep F σ = some (r, σ')) : MI l yX7_readStep (wB yX7_readStep cX7_readStep 8 (some .boolean)) 6 127 (gC D cI ad) [.ref (ad 28)] σ r σ' := mk_MZ had (by decide +kernel) (Nat.le_of_ble_eq_true rfl) (fun X hX C hr => wfX7_readStep C hr h)

def fX7_isSign (F : Nat) (σ : St) (a0 : Int32) : Option Int32 := if (σ 28 3) = (3 : Int32) then (bd1 (fX7_byteAt F σ (σ 28 4)) fun r1 => if r1 = a0 then (some 1) else some 0) else some 0
set_option maxRecDepth 20000 in
theorem wfX7_isSign {X : XT} {D : va_G} {cI : ClassId} {ad : Nat → Nat} {F : Nat} {σ : St} {a0 : Int32} {r : Int32} (C : Cx X (gC D cI ad) cX7_isSign 2 RX7 1 21 0) (hr : RetZ X (gC D cI ad) cX7_isSign 2 0 r σ) (h : fX7_isSign F σ a0 = some r) : WP X (gC D cI ad) 2 0 0 σ [(0, .ref (ad 28)), (1, .int a0)] [] := by
  unfold fX7_isSign at h
  refine w_aload_n C dX7_isSign_0 rfl 0 rfl ?_
  refine w_get C 28 3 (Nat.le_of_ble_eq_true rfl) rfl rfl inB_X7 (by decide) tw1_159 rfl dX7_isSign_1 rfl ?_
  refine w_iconst C 3 dX7_isSign_4 rfl (by decide) ?_
  refine w_icmp_ne C (qt := 24) dX7_isSign_5 (by decide) rfl h (fun _ h => ?_) (fun _ h => ?_)
  · refine w_iconst C 0 dX7_isSign_24 rfl (by decide) ?_
    exact w_rz1 hr (by decide) h (by decide) dX7_isSign_25
  · refine w_aload_n C dX7_isSign_8 rfl 0 rfl ?_
    refine w_aload_n C dX7_isSign_9 rfl 0 rfl ?_
    refine w_get C 28 4 (Nat.le_of_ble_eq_true rfl) rfl rfl inB_X7 (by decide) tw1_160 rfl dX7_isSign_10 rfl ?_
    refine bd1_w h (fun r1 hc h => ?_)
    refine w_callVi C (n := 1) (As := [.int (σ 28 4)]) (st := []) 28 (Nat.le_of_ble_eq_true rfl) rfl rfl (cfX7_byteAt D cI ad (l := X.2.1) C.2.2.1 hc) tw3_145 cy_X7_byteAt (by decide +kernel) ⟨Nat.le_of_ble_eq_true rfl, Nat.le_of_ble_eq_true rfl⟩ (by decide) rfl rfl (Nat.le_of_ble_eq_true rfl) dX7_isSign_13 rfl ?_
    refine w_iload_n C dX7_isSign_16 rfl 1 rfl ?_
    refine w_icmp_ne C (qt := 24) dX7_isSign_17 (by decide) rfl h (fun _ h => ?_) (fun _ h => ?_)
    · refine w_iconst C 0 dX7_isSign_24 rfl (by decide) ?_
      exact w_rz1 hr (by decide) h (by decide) dX7_isSign_25
    · refine w_iconst C 1 dX7_isSign_20 rfl (by decide) ?_
      refine w_goto (q := 25) C dX7_isSign_21 (by decide) ?_
      exact w_rz1 hr (by decide) h (by decide) dX7_isSign_25
theorem cfX7_isSign (D : va_G) (cI : ClassId) (ad : Nat → Nat) {l : Launch} (had : gAp (gC D cI ad)) {F : Nat} {σ : St} {a0 : Int32} {r : Int32} (h : fX7_isSign F σ a0 = some r) : MI l yX7_isSign (wB yX7_isSign cX7_isSign 2 (some .boolean)) 1 21 (gC D cI ad) [.ref (ad 28), .int a0] σ r σ := mk_MZ had (by decide +kernel) (Nat.le_of_ble_eq_true rfl) (fun X hX C hr => wfX7_isSign C hr h)

def fX8_add (F : Nat) (σ : St) (a0 : Int32) : Option St := if (700 : Int32) ≤ (σ 25 0) then (some σ) else ckI (σ 25 0) 700 (nm (up σ 26 (Int32.toNatClampNeg (σ 25 0)) a0) fun u1 => nm (up u1 25 0 ((u1 25 0) + 1)) fun u3 => some u3)
set_option maxRecDepth 20000 in
theorem wfX8_add {X : XT} {D : va_G} {cI : ClassId} {ad : Nat → Nat} {F : Nat} {σ : St} {a0 : Int32} {σ' : St} (C : Cx X (gC D cI ad) cX8_add 2 RX8 0 0 0) (hr : RetV X (gC D cI ad) cX8_add 2 0 σ') (h : fX8_add F σ a0 = some σ') : WP X (gC D cI ad) 2 0 0 σ [(0, .ref (ad 25)), (1, .int a0)] [] := by
  unfold fX8_add at h
  refine w_aload_n C dX8_add_0 rfl 0 rfl ?_
  refine w_get C 25 0 (Nat.le_of_ble_eq_true rfl) rfl rfl inB_X8 (by decide) tw1_46 rfl dX8_add_1 rfl ?_
  refine w_sipush C 700 dX8_add_4 rfl (by decide) ?_
  refine w_icmp_ge C (qt := 30) dX8_add_7 (by decide) rfl h (fun _ h => ?_) (fun _ h => ?_)
  · exact w_rv hr h (by decide) dX8_add_30
  · refine w_aload_n C dX8_add_10 rfl 0 rfl ?_
    refine w_get C 25 1 (Nat.le_of_ble_eq_true rfl) rfl rfl inB_X8 (by decide) tw1_48 rfl dX8_add_11 rfl ?_
    refine w_aload_n C dX8_add_14 rfl 0 rfl ?_
    refine w_get C 25 0 (Nat.le_of_ble_eq_true rfl) rfl rfl inB_X8 (by decide) tw1_46 rfl dX8_add_15 rfl ?_
    refine w_iload_n C dX8_add_18 rfl 1 rfl ?_
    refine w_iast C 26 700 0 (Nat.le_of_ble_eq_true rfl) (fun _ => rfl) rfl h dX8_add_19 rfl (fun h => ?_)
    refine w_nst h (fun u1 h => ?_)
    refine w_aload_n C dX8_add_20 rfl 0 rfl ?_
    refine w_dup C rfl dX8_add_21 rfl ?_
    refine w_get C 25 0 (Nat.le_of_ble_eq_true rfl) rfl rfl inB_X8 (by decide) tw1_46 rfl dX8_add_22 rfl ?_
    refine w_iconst C 1 dX8_add_25 rfl (by decide) ?_
    refine w_iadd C dX8_add_26 rfl ?_
    refine w_put C 25 0 ((u1 25 0) + 1) (Nat.le_of_ble_eq_true rfl) rfl rfl inB_X8 tyX8_ok nmX8 (by decide) tw1_46 rfl rfl rfl (Nat.le_of_ble_eq_true rfl) rfl dX8_add_27 rfl ?_
    refine w_nst h (fun u3 h => ?_)
    exact w_rv hr h (by decide) dX8_add_30
theorem cfX8_add (D : va_G) (cI : ClassId) (ad : Nat → Nat) {l : Launch} (had : gAp (gC D cI ad)) {F : Nat} {σ : St} {a0 : Int32} {σ' : St} (h : fX8_add F σ a0 = some σ') : MV l yX8_add (wB yX8_add cX8_add 2 none) 0 0 (gC D cI ad) [.ref (ad 25), .int a0] σ σ' := mk_MV had (by decide +kernel) (Nat.le_of_ble_eq_true rfl) (fun X hX C hr => wfX8_add C hr h)

def fX7_valueOfWord (F : Nat) (σ : St) : Option Int32 := bd1 (fX7_isWord F σ 8) fun r1 => if r1 = 0 then (bd1 (fX7_isWord F σ 9) fun r2 => if r2 = 0 then (bd1 (fX7_isWord F σ 10) fun r3 => if r3 = 0 then (bd1 (fX7_isWord F σ 2) fun r4 => if r4 = 0 then (bd1 (fX7_isWord F σ 11) fun r5 => if r5 = 0 then (bd1 (fX7_isWord F σ 12) fun r6 => if r6 = 0 then (some ((-1))) else some 5) else some 4) else some 3) else some 2) else some 1) else some 0
set_option maxRecDepth 20000 in
theorem wfX7_valueOfWord {X : XT} {D : va_G} {cI : ClassId} {ad : Nat → Nat} {F : Nat} {σ : St}  {r : Int32} (C : Cx X (gC D cI ad) cX7_valueOfWord 1 RX7 5 107 0) (hr : RetI X (gC D cI ad) cX7_valueOfWord 1 0 r σ) (h : fX7_valueOfWord F σ = some r) : WP X (gC D cI ad) 1 0 0 σ [(0, .ref (ad 28))] [] := by
  unfold fX7_valueOfWord at h
  refine w_aload_n C dX7_valueOfWord_0 rfl 0 rfl ?_
  refine w_ldcS C (tx := "n") 8 (by decide) dX7_valueOfWord_1 rfl ?_
  refine bd1_w h (fun r1 hc h => ?_)
  refine w_callVi C (n := 1) (As := [.ref (ad (1100 + 8))]) (st := []) 28 (Nat.le_of_ble_eq_true rfl) rfl rfl (cfX7_isWord D cI ad (l := X.2.1) C.2.2.1 hc) tw3_131 cy_X7_isWord (by decide +kernel) ⟨Nat.le_of_ble_eq_true rfl, Nat.le_of_ble_eq_true rfl⟩ (by decide) rfl rfl (Nat.le_of_ble_eq_true rfl) dX7_valueOfWord_3 rfl ?_
  refine w_if_eq C (qt := 11) dX7_valueOfWord_6 (by decide) rfl h (fun _ h => ?_) (fun _ h => ?_)
  · refine w_aload_n C dX7_valueOfWord_11 rfl 0 rfl ?_
    refine w_ldcS C (tx := "about") 9 (by decide) dX7_valueOfWord_12 rfl ?_
    refine bd1_w h (fun r2 hc h => ?_)
    refine w_callVi C (n := 1) (As := [.ref (ad (1100 + 9))]) (st := []) 28 (Nat.le_of_ble_eq_true rfl) rfl rfl (cfX7_isWord D cI ad (l := X.2.1) C.2.2.1 hc) tw3_131 cy_X7_isWord (by decide +kernel) ⟨Nat.le_of_ble_eq_true rfl, Nat.le_of_ble_eq_true rfl⟩ (by decide) rfl rfl (Nat.le_of_ble_eq_true rfl) dX7_valueOfWord_14 rfl ?_
    refine w_if_eq C (qt := 22) dX7_valueOfWord_17 (by decide) rfl h (fun _ h => ?_) (fun _ h => ?_)
    · refine w_aload_n C dX7_valueOfWord_22 rfl 0 rfl ?_
      refine w_ldcS C (tx := "time") 10 (by decide) dX7_valueOfWord_23 rfl ?_
      refine bd1_w h (fun r3 hc h => ?_)
      refine w_callVi C (n := 1) (As := [.ref (ad (1100 + 10))]) (st := []) 28 (Nat.le_of_ble_eq_true rfl) rfl rfl (cfX7_isWord D cI ad (l := X.2.1) C.2.2.1 hc) tw3_131 cy_X7_isWord (by decide +kernel) ⟨Nat.le_of_ble_eq_true rfl, Nat.le_of_ble_eq_true rfl⟩ (by decide) rfl rfl (Nat.le_of_ble_eq_true rfl) dX7_valueOfWord_25 rfl ?_
      refine w_if_eq C (qt := 33) dX7_valueOfWord_28 (by decide) rfl h (fun _ h => ?_) (fun _ h => ?_)
      · refine w_aload_n C dX7_valueOfWord_33 rfl 0 rfl ?_
        refine w_ldcS C (tx := "hop") 2 (by decide) dX7_valueOfWord_34 rfl ?_
        refine bd1_w h (fun r4 hc h => ?_)
        refine w_callVi C (n := 1) (As := [.ref (ad (1100 + 2))]) (st := []) 28 (Nat.le_of_ble_eq_true rfl) rfl rfl (cfX7_isWord D cI ad (l := X.2.1) C.2.2.1 hc) tw3_131 cy_X7_isWord (by decide +kernel) ⟨Nat.le_of_ble_eq_true rfl, Nat.le_of_ble_eq_true rfl⟩ (by decide) rfl rfl (Nat.le_of_ble_eq_true rfl) dX7_valueOfWord_36 rfl ?_
        refine w_if_eq C (qt := 44) dX7_valueOfWord_39 (by decide) rfl h (fun _ h => ?_) (fun _ h => ?_)
        · refine w_aload_n C dX7_valueOfWord_44 rfl 0 rfl ?_
          refine w_ldcS C (tx := "place") 11 (by decide) dX7_valueOfWord_45 rfl ?_
          refine bd1_w h (fun r5 hc h => ?_)
          refine w_callVi C (n := 1) (As := [.ref (ad (1100 + 11))]) (st := []) 28 (Nat.le_of_ble_eq_true rfl) rfl rfl (cfX7_isWord D cI ad (l := X.2.1) C.2.2.1 hc) tw3_131 cy_X7_isWord (by decide +kernel) ⟨Nat.le_of_ble_eq_true rfl, Nat.le_of_ble_eq_true rfl⟩ (by decide) rfl rfl (Nat.le_of_ble_eq_true rfl) dX7_valueOfWord_47 rfl ?_
          refine w_if_eq C (qt := 55) dX7_valueOfWord_50 (by decide) rfl h (fun _ h => ?_) (fun _ h => ?_)
          · refine w_aload_n C dX7_valueOfWord_55 rfl 0 rfl ?_
            refine w_ldcS C (tx := "lead") 12 (by decide) dX7_valueOfWord_56 rfl ?_
            refine bd1_w h (fun r6 hc h => ?_)
            refine w_callVi C (n := 1) (As := [.ref (ad (1100 + 12))]) (st := []) 28 (Nat.le_of_ble_eq_true rfl) rfl rfl (cfX7_isWord D cI ad (l := X.2.1) C.2.2.1 hc) tw3_131 cy_X7_isWord (by decide +kernel) ⟨Nat.le_of_ble_eq_true rfl, Nat.le_of_ble_eq_true rfl⟩ (by decide) rfl rfl (Nat.le_of_ble_eq_true rfl) dX7_valueOfWord_58 rfl ?_
            refine w_if_eq C (qt := 68) dX7_valueOfWord_61 (by decide) rfl h (fun _ h => ?_) (fun _ h => ?_)
            · refine w_iconst C (-1) dX7_valueOfWord_68 rfl (by decide) ?_
              exact w_ri1 hr h (by decide) dX7_valueOfWord_69
            · refine w_iconst C 5 dX7_valueOfWord_64 rfl (by decide) ?_
              refine w_goto (q := 69) C dX7_valueOfWord_65 (by decide) ?_
              exact w_ri1 hr h (by decide) dX7_valueOfWord_69
          · refine w_iconst C 4 dX7_valueOfWord_53 rfl (by decide) ?_
            exact w_ri1 hr h (by decide) dX7_valueOfWord_54
        · refine w_iconst C 3 dX7_valueOfWord_42 rfl (by decide) ?_
          exact w_ri1 hr h (by decide) dX7_valueOfWord_43
      · refine w_iconst C 2 dX7_valueOfWord_31 rfl (by decide) ?_
        exact w_ri1 hr h (by decide) dX7_valueOfWord_32
    · refine w_iconst C 1 dX7_valueOfWord_20 rfl (by decide) ?_
      exact w_ri1 hr h (by decide) dX7_valueOfWord_21
  · refine w_iconst C 0 dX7_valueOfWord_9 rfl (by decide) ?_
    exact w_ri1 hr h (by decide) dX7_valueOfWord_10
theorem cfX7_valueOfWord (D : va_G) (cI : ClassId) (ad : Nat → Nat) {l : Launch} (had : gAp (gC D cI ad)) {F : Nat} {σ : St}  {r : Int32} (h : fX7_valueOfWord F σ = some r) : MI l yX7_valueOfWord (wB yX7_valueOfWord cX7_valueOfWord 1 (some .int)) 5 107 (gC D cI ad) [.ref (ad 28)] σ r σ := mk_MI had (by decide +kernel) (Nat.le_of_ble_eq_true rfl) (fun X hX C hr => wfX7_valueOfWord C hr h)

def fX8_codeOfValue (F : Nat) (σ : St) (a0 : Int32) : Option Int32 := some (((-1)) - a0)
set_option maxRecDepth 20000 in
theorem wfX8_codeOfValue {X : XT} {D : va_G} {cI : ClassId} {ad : Nat → Nat} {F : Nat} {σ : St} {a0 : Int32} {r : Int32} (C : Cx X (gC D cI ad) cX8_codeOfValue 1 RX8 0 0 0) (hr : RetI X (gC D cI ad) cX8_codeOfValue 1 0 r σ) (h : fX8_codeOfValue F σ a0 = some r) : WP X (gC D cI ad) 1 0 0 σ [(0, .int a0)] [] := by
  unfold fX8_codeOfValue at h
  refine w_iconst C (-1) dX8_codeOfValue_0 rfl (by decide) ?_
  refine w_iload_n C dX8_codeOfValue_1 rfl 0 rfl ?_
  refine w_isub C dX8_codeOfValue_2 rfl ?_
  exact w_ri1 hr h (by decide) dX8_codeOfValue_3
theorem cfX8_codeOfValue (D : va_G) (cI : ClassId) (ad : Nat → Nat) {l : Launch} (had : gAp (gC D cI ad)) {F : Nat} {σ : St} {a0 : Int32} {r : Int32} (h : fX8_codeOfValue F σ a0 = some r) : MI l yX8_codeOfValue (wB yX8_codeOfValue cX8_codeOfValue 1 (some .int)) 0 0 (gC D cI ad) [.int a0] σ r σ := mk_MI had (by decide +kernel) (Nat.le_of_ble_eq_true rfl) (fun X hX C hr => wfX8_codeOfValue C hr h)

def fX7_takeSign (F : Nat) (σ : St) (a0 : Int32) : Option (Int32 × St) := bd1 (fX7_isSign F σ a0) fun r1 => if r1 = 0 then (bd2 (fX7_refuse F σ 1) fun r3 u4 => ckB (r3) (some (r3, u4))) else bd1 (fX7_nextToken F σ) fun u2 => some (1, u2)
set_option maxRecDepth 20000 in
theorem wfX7_takeSign {X : XT} {D : va_G} {cI : ClassId} {ad : Nat → Nat} {F : Nat} {σ : St} {a0 : Int32} {r : Int32} {σ' : St} (C : Cx X (gC D cI ad) cX7_takeSign 2 RX7 2 45 0) (hr : RetZ X (gC D cI ad) cX7_takeSign 2 0 r σ') (h : fX7_takeSign F σ a0 = some (r, σ')) : WP X (gC D cI ad) 2 0 0 σ [(0, .ref (ad 28)), (1, .int a0)] [] := by
  unfold fX7_takeSign at h
  refine w_aload_n C dX7_takeSign_0 rfl 0 rfl ?_
  refine w_iload_n C dX7_takeSign_1 rfl 1 rfl ?_
  refine bd1_w h (fun r1 hc h => ?_)
  refine w_callVi C (n := 1) (As := [.int a0]) (st := []) 28 (Nat.le_of_ble_eq_true rfl) rfl rfl (cfX7_isSign D cI ad (l := X.2.1) C.2.2.1 hc) tw3_238 cy_X7_isSign (by decide +kernel) ⟨Nat.le_of_ble_eq_true rfl, Nat.le_of_ble_eq_true rfl⟩ (by decide) rfl rfl (Nat.le_of_ble_eq_true rfl) dX7_takeSign_2 rfl ?_
  refine w_if_ne C (qt := 14) dX7_takeSign_5 (by decide) rfl h (fun _ h => ?_) (fun _ h => ?_)
  · refine w_aload_n C dX7_takeSign_14 rfl 0 rfl ?_
    refine bd1_w h (fun u2 hc h => ?_)
    refine w_callVv C (n := 0) (As := []) (st := []) 28 (Nat.le_of_ble_eq_true rfl) rfl rfl (cfX7_nextToken D cI ad (l := X.2.1) C.2.2.1 hc) tw3_118 cy_X7_nextToken (by decide +kernel) ⟨Nat.le_of_ble_eq_true rfl, Nat.le_of_ble_eq_true rfl⟩ (by decide) rfl rfl (Nat.le_of_ble_eq_true rfl) dX7_takeSign_15 rfl ?_
    refine w_iconst C 1 dX7_takeSign_18 rfl (by decide) ?_
    exact w_rz2 hr (by decide) h (by decide) dX7_takeSign_19
  · refine w_aload_n C dX7_takeSign_8 rfl 0 rfl ?_
    refine w_iconst C 1 dX7_takeSign_9 rfl (by decide) ?_
    refine bd2_w h (fun r3 u4 hc h => ?_)
    refine w_callVi C (n := 1) (As := [.int 1]) (st := []) 28 (Nat.le_of_ble_eq_true rfl) rfl rfl (cfX7_refuse D cI ad (l := X.2.1) C.2.2.1 hc) tw3_191 cy_X7_refuse (by decide +kernel) ⟨Nat.le_of_ble_eq_true rfl, Nat.le_of_ble_eq_true rfl⟩ (by decide) rfl rfl (Nat.le_of_ble_eq_true rfl) dX7_takeSign_10 rfl ?_
    obtain ⟨hz, h⟩ := ckB_w h
    exact w_rz2 hr hz h (by decide) dX7_takeSign_13
theorem cfX7_takeSign (D : va_G) (cI : ClassId) (ad : Nat → Nat) {l : Launch} (had : gAp (gC D cI ad)) {F : Nat} {σ : St} {a0 : Int32} {r : Int32} {σ' : St} (h : fX7_takeSign F σ a0 = some (r, σ')) : MI l yX7_takeSign (wB yX7_takeSign cX7_takeSign 2 (some .boolean)) 2 45 (gC D cI ad) [.ref (ad 28), .int a0] σ r σ' := mk_MZ had (by decide +kernel) (Nat.le_of_ble_eq_true rfl) (fun X hX C hr => wfX7_takeSign C hr h)

def fX7_readPart (rx : St → Int32 →  Option (Int32 × St)) (F : Nat) (σ : St) (a0 : Int32) : Option (Int32 × St) := bd1 (fX7_isSign F σ 40) fun r1 => if r1 = 0 then (if (σ 28 3) = (1 : Int32) then (bd1 (fX7_valueOfWord F σ) fun r5 => if r5 = (-1 : Int32) then (bd2 (fX7_refuse F σ 3) fun r9 u10 => ckB (r9) (some (r9, u10))) else bd1 (fX8_codeOfValue F σ r5) fun r6 => bd1 (fX8_add F σ r6) fun u7 => bd1 (fX7_nextToken F u7) fun u8 => some (1, u8)) else bd2 (fX7_takeNumber F σ 0 9999) fun r2 u3 => if r2 = (-1 : Int32) then (some (0, u3)) else bd1 (fX8_add F u3 r2) fun u4 => some (1, u4)) else bd1 (fX7_nextToken F σ) fun u11 => bd2 (rx u11 (a0 + 1)) fun r12 u13 => if r12 = 0 then (some (0, u13)) else bd2 (fX7_takeSign F u13 41) fun r14 u15 => if r14 = 0 then (some (0, u15)) else some (1, u15)
set_option maxRecDepth 20000 in
theorem wfX7_readPart {X : XT} {D : va_G} {cI : ClassId} {ad : Nat → Nat} {F : Nat} {σ : St} {a0 : Int32} {r : Int32} {σ' : St} {rx : St → Int32 →  Option (Int32 × St)} {f0 l0 : Nat} (C : Cx X (gC D cI ad) cX7_readPart 3 RX7 (f0 + 6) (l0 + 127) 0) (hrx : ∀ (τ : St) (b0 : Int32) (r : Int32) (τ' : St), rx τ b0 = some (r, τ') → MI X.2.1 yX7_readExpr (wB yX7_readExpr cX7_readExpr 3 (some .boolean)) f0 l0 (gC D cI ad) [.ref (ad 28), .int b0] τ r τ') (hr : RetZ X (gC D cI ad) cX7_readPart 3 0 r σ') (h : fX7_readPart rx F σ a0 = some (r, σ')) : WP X (gC D cI ad) 3 0 0 σ [(0, .ref (ad 28)), (1, .int a0)] [] := by
  unfold fX7_readPart at h
  refine w_aload_n C dX7_readPart_0 rfl 0 rfl ?_
  refine w_bipush C 40 dX7_readPart_1 rfl (by decide) ?_
  refine bd1_w h (fun r1 hc h => ?_)
  refine w_callVi C (n := 1) (As := [.int 40]) (st := []) 28 (Nat.le_of_ble_eq_true rfl) rfl rfl (cfX7_isSign D cI ad (l := X.2.1) C.2.2.1 hc) tw3_238 cy_X7_isSign (by decide +kernel) ⟨by omega, by omega⟩ (by decide) rfl rfl (Nat.le_of_ble_eq_true rfl) dX7_readPart_3 rfl ?_
  refine w_if_eq C (qt := 38) dX7_readPart_6 (by decide) rfl h (fun _ h => ?_) (fun _ h => ?_)
  · refine w_aload_n C dX7_readPart_38 rfl 0 rfl ?_
    refine w_get C 28 3 (Nat.le_of_ble_eq_true rfl) rfl rfl inB_X7 (by decide) tw1_159 rfl dX7_readPart_39 rfl ?_
    refine w_iconst C 1 dX7_readPart_42 rfl (by decide) ?_
    refine w_icmp_ne C (qt := 82) dX7_readPart_43 (by decide) rfl h (fun _ h => ?_) (fun _ h => ?_)
    · refine w_aload_n C dX7_readPart_82 rfl 0 rfl ?_
      refine w_iconst C 0 dX7_readPart_83 rfl (by decide) ?_
      refine w_sipush C 9999 dX7_readPart_84 rfl (by decide) ?_
      refine bd2_w h (fun r2 u3 hc h => ?_)
      refine w_callVi C (n := 2) (As := [.int 0, .int 9999]) (st := []) 28 (Nat.le_of_ble_eq_true rfl) rfl rfl (cfX7_takeNumber D cI ad (l := X.2.1) C.2.2.1 hc) tw3_195 cy_X7_takeNumber (by decide +kernel) ⟨by omega, by omega⟩ (by decide) rfl rfl (Nat.le_of_ble_eq_true rfl) dX7_readPart_87 rfl ?_
      refine w_istore_n C [(2, .int r2), (0, .ref (ad 28)), (1, .int a0)] dX7_readPart_90 rfl (by decide) rfl ?_
      refine w_iload_n C dX7_readPart_91 rfl 0 rfl ?_
      refine w_iconst C (-1) dX7_readPart_92 rfl (by decide) ?_
      refine w_icmp_ne C (qt := 98) dX7_readPart_93 (by decide) rfl h (fun _ h => ?_) (fun _ h => ?_)
      · refine w_aload_n C dX7_readPart_98 rfl 1 rfl ?_
        refine w_get C 28 0 (Nat.le_of_ble_eq_true rfl) rfl rfl inB_X7 (by decide) tw1_156 rfl dX7_readPart_99 rfl ?_
        refine w_get C 15 14 (Nat.le_of_ble_eq_true rfl) rfl rfl inB_X0 (by decide) tw1_118 rfl dX7_readPart_102 rfl ?_
        refine w_iload_n C dX7_readPart_105 rfl 0 rfl ?_
        refine bd1_w h (fun u4 hc h => ?_)
        refine w_callVv C (n := 1) (As := [.int r2]) (st := []) 25 (Nat.le_of_ble_eq_true rfl) rfl rfl (cfX8_add D cI ad (l := X.2.1) C.2.2.1 hc) tw4_44 cy_X8_add (by decide +kernel) ⟨by omega, by omega⟩ (by decide) rfl rfl (Nat.le_of_ble_eq_true rfl) dX7_readPart_106 rfl ?_
        refine w_iconst C 1 dX7_readPart_109 rfl (by decide) ?_
        exact w_rz2 hr (by decide) h (by decide) dX7_readPart_110
      · refine w_iconst C 0 dX7_readPart_96 rfl (by decide) ?_
        exact w_rz2 hr (by decide) h (by decide) dX7_readPart_97
    · refine w_aload_n C dX7_readPart_46 rfl 0 rfl ?_
      refine bd1_w h (fun r5 hc h => ?_)
      refine w_callVi C (n := 0) (As := []) (st := []) 28 (Nat.le_of_ble_eq_true rfl) rfl rfl (cfX7_valueOfWord D cI ad (l := X.2.1) C.2.2.1 hc) tw4_31 cy_X7_valueOfWord (by decide +kernel) ⟨by omega, by omega⟩ (by decide) rfl rfl (Nat.le_of_ble_eq_true rfl) dX7_readPart_47 rfl ?_
      refine w_istore_n C [(2, .int r5), (0, .ref (ad 28)), (1, .int a0)] dX7_readPart_50 rfl (by decide) rfl ?_
      refine w_iload_n C dX7_readPart_51 rfl 0 rfl ?_
      refine w_iconst C (-1) dX7_readPart_52 rfl (by decide) ?_
      refine w_icmp_ne C (qt := 62) dX7_readPart_53 (by decide) rfl h (fun _ h => ?_) (fun _ h => ?_)
      · refine w_aload_n C dX7_readPart_62 rfl 1 rfl ?_
        refine w_get C 28 0 (Nat.le_of_ble_eq_true rfl) rfl rfl inB_X7 (by decide) tw1_156 rfl dX7_readPart_63 rfl ?_
        refine w_get C 15 14 (Nat.le_of_ble_eq_true rfl) rfl rfl inB_X0 (by decide) tw1_118 rfl dX7_readPart_66 rfl ?_
        refine w_iload_n C dX7_readPart_69 rfl 0 rfl ?_
        refine bd1_w h (fun r6 hc h => ?_)
        refine w_callSi C (n := 1) (As := [.int r5]) (st := [.ref (ad 25)]) (cfX8_codeOfValue D cI ad (l := X.2.1) C.2.2.1 hc) tw4_41 cs_X8_codeOfValue (by decide +kernel) ⟨by omega, by omega⟩ (by decide) rfl rfl (Nat.le_of_ble_eq_true rfl) dX7_readPart_70 rfl ?_
        refine bd1_w h (fun u7 hc h => ?_)
        refine w_callVv C (n := 1) (As := [.int r6]) (st := []) 25 (Nat.le_of_ble_eq_true rfl) rfl rfl (cfX8_add D cI ad (l := X.2.1) C.2.2.1 hc) tw4_44 cy_X8_add (by decide +kernel) ⟨by omega, by omega⟩ (by decide) rfl rfl (Nat.le_of_ble_eq_true rfl) dX7_readPart_73 rfl ?_
        refine w_aload_n C dX7_readPart_76 rfl 1 rfl ?_
        refine bd1_w h (fun u8 hc h => ?_)
        refine w_callVv C (n := 0) (As := []) (st := []) 28 (Nat.le_of_ble_eq_true rfl) rfl rfl (cfX7_nextToken D cI ad (l := X.2.1) C.2.2.1 hc) tw3_118 cy_X7_nextToken (by decide +kernel) ⟨by omega, by omega⟩ (by decide) rfl rfl (Nat.le_of_ble_eq_true rfl) dX7_readPart_77 rfl ?_
        refine w_iconst C 1 dX7_readPart_80 rfl (by decide) ?_
        exact w_rz2 hr (by decide) h (by decide) dX7_readPart_81
      · refine w_aload_n C dX7_readPart_56 rfl 1 rfl ?_
        refine w_iconst C 3 dX7_readPart_57 rfl (by decide) ?_
        refine bd2_w h (fun r9 u10 hc h => ?_)
        refine w_callVi C (n := 1) (As := [.int 3]) (st := []) 28 (Nat.le_of_ble_eq_true rfl) rfl rfl (cfX7_refuse D cI ad (l := X.2.1) C.2.2.1 hc) tw3_191 cy_X7_refuse (by decide +kernel) ⟨by omega, by omega⟩ (by decide) rfl rfl (Nat.le_of_ble_eq_true rfl) dX7_readPart_58 rfl ?_
        obtain ⟨hz, h⟩ := ckB_w h
        exact w_rz2 hr hz h (by decide) dX7_readPart_61
  · refine w_aload_n C dX7_readPart_9 rfl 0 rfl ?_
    refine bd1_w h (fun u11 hc h => ?_)
    refine w_callVv C (n := 0) (As := []) (st := []) 28 (Nat.le_of_ble_eq_true rfl) rfl rfl (cfX7_nextToken D cI ad (l := X.2.1) C.2.2.1 hc) tw3_118 cy_X7_nextToken (by decide +kernel) ⟨by omega, by omega⟩ (by decide) rfl rfl (Nat.le_of_ble_eq_true rfl) dX7_readPart_10 rfl ?_
    refine w_aload_n C dX7_readPart_13 rfl 0 rfl ?_
    refine w_iload_n C dX7_readPart_14 rfl 1 rfl ?_
    refine w_iconst C 1 dX7_readPart_15 rfl (by decide) ?_
    refine w_iadd C dX7_readPart_16 rfl ?_
    refine bd2_w h (fun r12 u13 hc h => ?_)
    refine w_callVi C (n := 1) (As := [.int (a0 + 1)]) (st := []) 28 (Nat.le_of_ble_eq_true rfl) rfl rfl (hrx _ _ _ _ hc) tw3_230 cy_X7_readExpr (by decide +kernel) ⟨by omega, by omega⟩ (by decide) rfl rfl (Nat.le_of_ble_eq_true rfl) dX7_readPart_17 rfl ?_
    refine w_if_eq C (qt := 36) dX7_readPart_20 (by decide) rfl h (fun _ h => ?_) (fun _ h => ?_)
    · refine w_iconst C 0 dX7_readPart_36 rfl (by decide) ?_
      exact w_rz2 hr (by decide) h (by decide) dX7_readPart_37
    · refine w_aload_n C dX7_readPart_23 rfl 0 rfl ?_
      refine w_bipush C 41 dX7_readPart_24 rfl (by decide) ?_
      refine bd2_w h (fun r14 u15 hc h => ?_)
      refine w_callVi C (n := 1) (As := [.int 41]) (st := []) 28 (Nat.le_of_ble_eq_true rfl) rfl rfl (cfX7_takeSign D cI ad (l := X.2.1) C.2.2.1 hc) tw4_27 cy_X7_takeSign (by decide +kernel) ⟨by omega, by omega⟩ (by decide) rfl rfl (Nat.le_of_ble_eq_true rfl) dX7_readPart_26 rfl ?_
      refine w_if_eq C (qt := 36) dX7_readPart_29 (by decide) rfl h (fun _ h => ?_) (fun _ h => ?_)
      · refine w_iconst C 0 dX7_readPart_36 rfl (by decide) ?_
        exact w_rz2 hr (by decide) h (by decide) dX7_readPart_37
      · refine w_iconst C 1 dX7_readPart_32 rfl (by decide) ?_
        refine w_goto (q := 37) C dX7_readPart_33 (by decide) ?_
        exact w_rz2 hr (by decide) h (by decide) dX7_readPart_37
theorem cfX7_readPart (D : va_G) (cI : ClassId) (ad : Nat → Nat) {l : Launch} (had : gAp (gC D cI ad)) {rx : St → Int32 →  Option (Int32 × St)} {f0 l0 : Nat} (hrx : ∀ (τ : St) (b0 : Int32) (r : Int32) (τ' : St), rx τ b0 = some (r, τ') → MI l yX7_readExpr (wB yX7_readExpr cX7_readExpr 3 (some .boolean)) f0 l0 (gC D cI ad) [.ref (ad 28), .int b0] τ r τ') {F : Nat} {σ : St} {a0 : Int32} {r : Int32} {σ' : St} (h : fX7_readPart rx F σ a0 = some (r, σ')) : MI l yX7_readPart (wB yX7_readPart cX7_readPart 3 (some .boolean)) (f0 + 6) (l0 + 127) (gC D cI ad) [.ref (ad 28), .int a0] σ r σ' := mk_MZ had (by decide +kernel) (Nat.le_of_ble_eq_true rfl) (fun X hX C hr => wfX7_readPart C (by rw [hX]; exact hrx) hr h)

def fX7_readProduct (rx : St → Int32 →  Option (Int32 × St)) (F : Nat) (σ : St) (a0 : Int32) : Option (Int32 × St) := bd2 (fX7_readPart rx F σ a0) fun r1 u2 => if r1 = 0 then (some (0, u2)) else lp (fun (K4 : (St × Int32) → Option (Int32 × St)) (v3 : St × Int32) => if (700 : Int32) ≤ v3.2 then (some (1, v3.1)) else bd1 (fX7_isSign F v3.1 42) fun r6 => jn (fun v7 : Unit => bd1 (fX7_isSign F v3.1 42) fun r10 => jn (fun v11 : Int32 => bd1 (fX7_nextToken F v3.1) fun u14 => bd2 (fX7_readPart rx F u14 a0) fun r15 u16 => if r15 = 0 then (some (0, u16)) else bd1 (fX8_add F u16 v11) fun u17 => K4 ((u17, v3.2 + 1))) fun J12 => if r10 = 0 then (J12 ((-19))) else J12 ((-18))) fun J8 => if r6 = 0 then (bd1 (fX7_isSign F v3.1 47) fun r18 => if r18 = 0 then (some (1, v3.1)) else J8 (())) else J8 (())) F ((u2, 0))
set_option maxRecDepth 20000 in
theorem wfX7_readProduct {X : XT} {D : va_G} {cI : ClassId} {ad : Nat → Nat} {F : Nat} {σ : St} {a0 : Int32} {r : Int32} {σ' : St} {rx : St → Int32 →  Option (Int32 × St)} {f0 l0 : Nat} (C : Cx X (gC D cI ad) cX7_readProduct 4 RX7 (f0 + 7) (l0 + 149) 0) (hrx : ∀ (τ : St) (b0 : Int32) (r : Int32) (τ' : St), rx τ b0 = some (r, τ') → MI X.2.1 yX7_readExpr (wB yX7_readExpr cX7_readExpr 3 (some .boolean)) f0 l0 (gC D cI ad) [.ref (ad 28), .int b0] τ r τ') (hr : RetZ X (gC D cI ad) cX7_readProduct 4 0 r σ') (h : fX7_readProduct rx F σ a0 = some (r, σ')) : WP X (gC D cI ad) 4 0 0 σ [(0, .ref (ad 28)), (1, .int a0)] [] := by
  unfold fX7_readProduct at h
  refine w_aload_n C dX7_readProduct_0 rfl 0 rfl ?_
  refine w_iload_n C dX7_readProduct_1 rfl 1 rfl ?_
  refine bd2_w h (fun r1 u2 hc h => ?_)
  refine w_callVi C (n := 1) (As := [.int a0]) (st := []) 28 (Nat.le_of_ble_eq_true rfl) rfl rfl (cfX7_readPart D cI ad (l := X.2.1) C.2.2.1 hrx hc) tw4_23 cy_X7_readPart (by decide +kernel) ⟨by omega, by omega⟩ (by decide) rfl rfl (Nat.le_of_ble_eq_true rfl) dX7_readProduct_2 rfl ?_
  refine w_if_ne C (qt := 10) dX7_readProduct_5 (by decide) rfl h (fun _ h => ?_) (fun _ h => ?_)
  · refine w_iconst C 0 dX7_readProduct_10 rfl (by decide) ?_
    refine w_istore_n C [(2, .int 0), (0, .ref (ad 28)), (1, .int a0)] dX7_readProduct_11 rfl (by decide) rfl ?_
    refine w_sub (lv' := [(2, .int 0), (0, .ref (ad 28)), (1, .int a0)]) [0, 1, 2] rfl ?_
    refine lp_w (fun v3 : St × Int32 => WP X (gC D cI ad) 4 0 12 v3.1 [(2, .int v3.2), (0, .ref (ad 28)), (1, .int a0)] []) (fun K4 hK5 v3 h => ?_) F _ h
    refine w_iload_n C dX7_readProduct_12 rfl 0 rfl ?_
    refine w_sipush C 700 dX7_readProduct_13 rfl (by decide) ?_
    refine w_icmp_ge C (qt := 85) dX7_readProduct_16 (by decide) rfl h (fun _ h => ?_) (fun _ h => ?_)
    · refine w_iconst C 1 dX7_readProduct_85 rfl (by decide) ?_
      exact w_rz2 hr (by decide) h (by decide) dX7_readProduct_86
    · refine w_aload_n C dX7_readProduct_19 rfl 1 rfl ?_
      refine w_bipush C 42 dX7_readProduct_20 rfl (by decide) ?_
      refine bd1_w h (fun r6 hc h => ?_)
      refine w_callVi C (n := 1) (As := [.int 42]) (st := []) 28 (Nat.le_of_ble_eq_true rfl) rfl rfl (cfX7_isSign D cI ad (l := X.2.1) C.2.2.1 hc) tw3_238 cy_X7_isSign (by decide +kernel) ⟨by omega, by omega⟩ (by decide) rfl rfl (Nat.le_of_ble_eq_true rfl) dX7_readProduct_22 rfl ?_
      refine jn_w (fun v7 : Unit => WP X (gC D cI ad) 4 0 37 v3.1 [(2, .int v3.2), (0, .ref (ad 28)), (1, .int a0)] []) h (fun v7 h => ?_) (fun J8 hJ9 h => ?_)
      · refine w_aload_n C dX7_readProduct_37 rfl 1 rfl ?_
        refine w_bipush C 42 dX7_readProduct_38 rfl (by decide) ?_
        refine bd1_w h (fun r10 hc h => ?_)
        refine w_callVi C (n := 1) (As := [.int 42]) (st := []) 28 (Nat.le_of_ble_eq_true rfl) rfl rfl (cfX7_isSign D cI ad (l := X.2.1) C.2.2.1 hc) tw3_238 cy_X7_isSign (by decide +kernel) ⟨by omega, by omega⟩ (by decide) rfl rfl (Nat.le_of_ble_eq_true rfl) dX7_readProduct_40 rfl ?_
        refine jn_w (fun v11 : Int32 => WP X (gC D cI ad) 4 0 53 v3.1 [(2, .int v3.2), (0, .ref (ad 28)), (1, .int a0)] [.int v11]) h (fun v11 h => ?_) (fun J12 hJ13 h => ?_)
        · refine w_istore_n C [(3, .int v11), (2, .int v3.2), (0, .ref (ad 28)), (1, .int a0)] dX7_readProduct_53 rfl (by decide) rfl ?_
          refine w_aload_n C dX7_readProduct_54 rfl 2 rfl ?_
          refine bd1_w h (fun u14 hc h => ?_)
          refine w_callVv C (n := 0) (As := []) (st := []) 28 (Nat.le_of_ble_eq_true rfl) rfl rfl (cfX7_nextToken D cI ad (l := X.2.1) C.2.2.1 hc) tw3_118 cy_X7_nextToken (by decide +kernel) ⟨by omega, by omega⟩ (by decide) rfl rfl (Nat.le_of_ble_eq_true rfl) dX7_readProduct_55 rfl ?_
          refine w_aload_n C dX7_readProduct_58 rfl 2 rfl ?_
          refine w_iload_n C dX7_readProduct_59 rfl 3 rfl ?_
          refine bd2_w h (fun r15 u16 hc h => ?_)
          refine w_callVi C (n := 1) (As := [.int a0]) (st := []) 28 (Nat.le_of_ble_eq_true rfl) rfl rfl (cfX7_readPart D cI ad (l := X.2.1) C.2.2.1 hrx hc) tw4_23 cy_X7_readPart (by decide +kernel) ⟨by omega, by omega⟩ (by decide) rfl rfl (Nat.le_of_ble_eq_true rfl) dX7_readProduct_60 rfl ?_
          refine w_if_ne C (qt := 68) dX7_readProduct_63 (by decide) rfl h (fun _ h => ?_) (fun _ h => ?_)
          · refine w_aload_n C dX7_readProduct_68 rfl 2 rfl ?_
            refine w_get C 28 0 (Nat.le_of_ble_eq_true rfl) rfl rfl inB_X7 (by decide) tw1_156 rfl dX7_readProduct_69 rfl ?_
            refine w_get C 15 14 (Nat.le_of_ble_eq_true rfl) rfl rfl inB_X0 (by decide) tw1_118 rfl dX7_readProduct_72 rfl ?_
            refine w_iload_n C dX7_readProduct_75 rfl 0 rfl ?_
            refine bd1_w h (fun u17 hc h => ?_)
            refine w_callVv C (n := 1) (As := [.int v11]) (st := []) 25 (Nat.le_of_ble_eq_true rfl) rfl rfl (cfX8_add D cI ad (l := X.2.1) C.2.2.1 hc) tw4_44 cy_X8_add (by decide +kernel) ⟨by omega, by omega⟩ (by decide) rfl rfl (Nat.le_of_ble_eq_true rfl) dX7_readProduct_76 rfl ?_
            refine w_iinc (j := 1) C (v3.2 + 1) [(2, .int (v3.2 + 1)), (3, .int v11), (0, .ref (ad 28)), (1, .int a0)] dX7_readProduct_79 rfl rfl rfl (by decide) rfl ?_
            refine w_goto (q := 12) C dX7_readProduct_82 (by decide) ?_
            exact w_sub (lv' := [(2, .int (v3.2 + 1)), (0, .ref (ad 28)), (1, .int a0)]) [0, 2, 3] rfl (hK5 ((u17, v3.2 + 1)) h)
          · refine w_iconst C 0 dX7_readProduct_66 rfl (by decide) ?_
            exact w_rz2 hr (by decide) h (by decide) dX7_readProduct_67
        · refine w_if_eq C (qt := 51) dX7_readProduct_43 (by decide) rfl h (fun _ h => ?_) (fun _ h => ?_)
          · refine w_bipush C (-19) dX7_readProduct_51 rfl (by decide) ?_
            exact w_sub (lv' := [(2, .int v3.2), (0, .ref (ad 28)), (1, .int a0)]) [0, 1, 2] rfl (hJ13 ((-19)) h)
          · refine w_bipush C (-18) dX7_readProduct_46 rfl (by decide) ?_
            refine w_goto (q := 53) C dX7_readProduct_48 (by decide) ?_
            exact w_sub (lv' := [(2, .int v3.2), (0, .ref (ad 28)), (1, .int a0)]) [0, 1, 2] rfl (hJ13 ((-18)) h)
      · refine w_if_ne C (qt := 37) dX7_readProduct_25 (by decide) rfl h (fun _ h => ?_) (fun _ h => ?_)
        · exact w_sub (lv' := [(2, .int v3.2), (0, .ref (ad 28)), (1, .int a0)]) [0, 1, 2] rfl (hJ9 (()) h)
        · refine w_aload_n C dX7_readProduct_28 rfl 1 rfl ?_
          refine w_bipush C 47 dX7_readProduct_29 rfl (by decide) ?_
          refine bd1_w h (fun r18 hc h => ?_)
          refine w_callVi C (n := 1) (As := [.int 47]) (st := []) 28 (Nat.le_of_ble_eq_true rfl) rfl rfl (cfX7_isSign D cI ad (l := X.2.1) C.2.2.1 hc) tw3_238 cy_X7_isSign (by decide +kernel) ⟨by omega, by omega⟩ (by decide) rfl rfl (Nat.le_of_ble_eq_true rfl) dX7_readProduct_31 rfl ?_
          refine w_if_eq C (qt := 85) dX7_readProduct_34 (by decide) rfl h (fun _ h => ?_) (fun _ h => ?_)
          · refine w_iconst C 1 dX7_readProduct_85 rfl (by decide) ?_
            exact w_rz2 hr (by decide) h (by decide) dX7_readProduct_86
          · exact w_sub (lv' := [(2, .int v3.2), (0, .ref (ad 28)), (1, .int a0)]) [0, 1, 2] rfl (hJ9 (()) h)
  · refine w_iconst C 0 dX7_readProduct_8 rfl (by decide) ?_
    exact w_rz2 hr (by decide) h (by decide) dX7_readProduct_9
theorem cfX7_readProduct (D : va_G) (cI : ClassId) (ad : Nat → Nat) {l : Launch} (had : gAp (gC D cI ad)) {rx : St → Int32 →  Option (Int32 × St)} {f0 l0 : Nat} (hrx : ∀ (τ : St) (b0 : Int32) (r : Int32) (τ' : St), rx τ b0 = some (r, τ') → MI l yX7_readExpr (wB yX7_readExpr cX7_readExpr 3 (some .boolean)) f0 l0 (gC D cI ad) [.ref (ad 28), .int b0] τ r τ') {F : Nat} {σ : St} {a0 : Int32} {r : Int32} {σ' : St} (h : fX7_readProduct rx F σ a0 = some (r, σ')) : MI l yX7_readProduct (wB yX7_readProduct cX7_readProduct 4 (some .boolean)) (f0 + 7) (l0 + 149) (gC D cI ad) [.ref (ad 28), .int a0] σ r σ' := mk_MZ had (by decide +kernel) (Nat.le_of_ble_eq_true rfl) (fun X hX C hr => wfX7_readProduct C (by rw [hX]; exact hrx) hr h)

def fX7_readSum (rx : St → Int32 →  Option (Int32 × St)) (F : Nat) (σ : St) (a0 : Int32) : Option (Int32 × St) := bd2 (fX7_readProduct rx F σ a0) fun r1 u2 => if r1 = 0 then (some (0, u2)) else lp (fun (K4 : (St × Int32) → Option (Int32 × St)) (v3 : St × Int32) => if (700 : Int32) ≤ v3.2 then (some (1, v3.1)) else bd1 (fX7_isSign F v3.1 43) fun r6 => jn (fun v7 : Unit => bd1 (fX7_isSign F v3.1 43) fun r10 => jn (fun v11 : Int32 => bd1 (fX7_nextToken F v3.1) fun u14 => bd2 (fX7_readProduct rx F u14 a0) fun r15 u16 => if r15 = 0 then (some (0, u16)) else bd1 (fX8_add F u16 v11) fun u17 => K4 ((u17, v3.2 + 1))) fun J12 => if r10 = 0 then (J12 ((-17))) else J12 ((-16))) fun J8 => if r6 = 0 then (bd1 (fX7_isSign F v3.1 45) fun r18 => if r18 = 0 then (some (1, v3.1)) else J8 (())) else J8 (())) F ((u2, 0))
set_option maxRecDepth 20000 in
theorem wfX7_readSum {X : XT} {D : va_G} {cI : ClassId} {ad : Nat → Nat} {F : Nat} {σ : St} {a0 : Int32} {r : Int32} {σ' : St} {rx : St → Int32 →  Option (Int32 × St)} {f0 l0 : Nat} (C : Cx X (gC D cI ad) cX7_readSum 4 RX7 (f0 + 8) (l0 + 172) 0) (hrx : ∀ (τ : St) (b0 : Int32) (r : Int32) (τ' : St), rx τ b0 = some (r, τ') → MI X.2.1 yX7_readExpr (wB yX7_readExpr cX7_readExpr 3 (some .boolean)) f0 l0 (gC D cI ad) [.ref (ad 28), .int b0] τ r τ') (hr : RetZ X (gC D cI ad) cX7_readSum 4 0 r σ') (h : fX7_readSum rx F σ a0 = some (r, σ')) : WP X (gC D cI ad) 4 0 0 σ [(0, .ref (ad 28)), (1, .int a0)] [] := by
  unfold fX7_readSum at h
  refine w_aload_n C dX7_readSum_0 rfl 0 rfl ?_
  refine w_iload_n C dX7_readSum_1 rfl 1 rfl ?_
  refine bd2_w h (fun r1 u2 hc h => ?_)
  refine w_callVi C (n := 1) (As := [.int a0]) (st := []) 28 (Nat.le_of_ble_eq_true rfl) rfl rfl (cfX7_readProduct D cI ad (l := X.2.1) C.2.2.1 hrx hc) tw4_19 cy_X7_readProduct (by decide +kernel) ⟨by omega, by omega⟩ (by decide) rfl rfl (Nat.le_of_ble_eq_true rfl) dX7_readSum_2 rfl ?_
  refine w_if_ne C (qt := 10) dX7_readSum_5 (by decide) rfl h (fun _ h => ?_) (fun _ h => ?_)
  · refine w_iconst C 0 dX7_readSum_10 rfl (by decide) ?_
    refine w_istore_n C [(2, .int 0), (0, .ref (ad 28)), (1, .int a0)] dX7_readSum_11 rfl (by decide) rfl ?_
    refine w_sub (lv' := [(2, .int 0), (0, .ref (ad 28)), (1, .int a0)]) [0, 1, 2] rfl ?_
    refine lp_w (fun v3 : St × Int32 => WP X (gC D cI ad) 4 0 12 v3.1 [(2, .int v3.2), (0, .ref (ad 28)), (1, .int a0)] []) (fun K4 hK5 v3 h => ?_) F _ h
    refine w_iload_n C dX7_readSum_12 rfl 0 rfl ?_
    refine w_sipush C 700 dX7_readSum_13 rfl (by decide) ?_
    refine w_icmp_ge C (qt := 85) dX7_readSum_16 (by decide) rfl h (fun _ h => ?_) (fun _ h => ?_)
    · refine w_iconst C 1 dX7_readSum_85 rfl (by decide) ?_
      exact w_rz2 hr (by decide) h (by decide) dX7_readSum_86
    · refine w_aload_n C dX7_readSum_19 rfl 1 rfl ?_
      refine w_bipush C 43 dX7_readSum_20 rfl (by decide) ?_
      refine bd1_w h (fun r6 hc h => ?_)
      refine w_callVi C (n := 1) (As := [.int 43]) (st := []) 28 (Nat.le_of_ble_eq_true rfl) rfl rfl (cfX7_isSign D cI ad (l := X.2.1) C.2.2.1 hc) tw3_238 cy_X7_isSign (by decide +kernel) ⟨by omega, by omega⟩ (by decide) rfl rfl (Nat.le_of_ble_eq_true rfl) dX7_readSum_22 rfl ?_
      refine jn_w (fun v7 : Unit => WP X (gC D cI ad) 4 0 37 v3.1 [(2, .int v3.2), (0, .ref (ad 28)), (1, .int a0)] []) h (fun v7 h => ?_) (fun J8 hJ9 h => ?_)
      · refine w_aload_n C dX7_readSum_37 rfl 1 rfl ?_
        refine w_bipush C 43 dX7_readSum_38 rfl (by decide) ?_
        refine bd1_w h (fun r10 hc h => ?_)
        refine w_callVi C (n := 1) (As := [.int 43]) (st := []) 28 (Nat.le_of_ble_eq_true rfl) rfl rfl (cfX7_isSign D cI ad (l := X.2.1) C.2.2.1 hc) tw3_238 cy_X7_isSign (by decide +kernel) ⟨by omega, by omega⟩ (by decide) rfl rfl (Nat.le_of_ble_eq_true rfl) dX7_readSum_40 rfl ?_
        refine jn_w (fun v11 : Int32 => WP X (gC D cI ad) 4 0 53 v3.1 [(2, .int v3.2), (0, .ref (ad 28)), (1, .int a0)] [.int v11]) h (fun v11 h => ?_) (fun J12 hJ13 h => ?_)
        · refine w_istore_n C [(3, .int v11), (2, .int v3.2), (0, .ref (ad 28)), (1, .int a0)] dX7_readSum_53 rfl (by decide) rfl ?_
          refine w_aload_n C dX7_readSum_54 rfl 2 rfl ?_
          refine bd1_w h (fun u14 hc h => ?_)
          refine w_callVv C (n := 0) (As := []) (st := []) 28 (Nat.le_of_ble_eq_true rfl) rfl rfl (cfX7_nextToken D cI ad (l := X.2.1) C.2.2.1 hc) tw3_118 cy_X7_nextToken (by decide +kernel) ⟨by omega, by omega⟩ (by decide) rfl rfl (Nat.le_of_ble_eq_true rfl) dX7_readSum_55 rfl ?_
          refine w_aload_n C dX7_readSum_58 rfl 2 rfl ?_
          refine w_iload_n C dX7_readSum_59 rfl 3 rfl ?_
          refine bd2_w h (fun r15 u16 hc h => ?_)
          refine w_callVi C (n := 1) (As := [.int a0]) (st := []) 28 (Nat.le_of_ble_eq_true rfl) rfl rfl (cfX7_readProduct D cI ad (l := X.2.1) C.2.2.1 hrx hc) tw4_19 cy_X7_readProduct (by decide +kernel) ⟨by omega, by omega⟩ (by decide) rfl rfl (Nat.le_of_ble_eq_true rfl) dX7_readSum_60 rfl ?_
          refine w_if_ne C (qt := 68) dX7_readSum_63 (by decide) rfl h (fun _ h => ?_) (fun _ h => ?_)
          · refine w_aload_n C dX7_readSum_68 rfl 2 rfl ?_
            refine w_get C 28 0 (Nat.le_of_ble_eq_true rfl) rfl rfl inB_X7 (by decide) tw1_156 rfl dX7_readSum_69 rfl ?_
            refine w_get C 15 14 (Nat.le_of_ble_eq_true rfl) rfl rfl inB_X0 (by decide) tw1_118 rfl dX7_readSum_72 rfl ?_
            refine w_iload_n C dX7_readSum_75 rfl 0 rfl ?_
            refine bd1_w h (fun u17 hc h => ?_)
            refine w_callVv C (n := 1) (As := [.int v11]) (st := []) 25 (Nat.le_of_ble_eq_true rfl) rfl rfl (cfX8_add D cI ad (l := X.2.1) C.2.2.1 hc) tw4_44 cy_X8_add (by decide +kernel) ⟨by omega, by omega⟩ (by decide) rfl rfl (Nat.le_of_ble_eq_true rfl) dX7_readSum_76 rfl ?_
            refine w_iinc (j := 1) C (v3.2 + 1) [(2, .int (v3.2 + 1)), (3, .int v11), (0, .ref (ad 28)), (1, .int a0)] dX7_readSum_79 rfl rfl rfl (by decide) rfl ?_
            refine w_goto (q := 12) C dX7_readSum_82 (by decide) ?_
            exact w_sub (lv' := [(2, .int (v3.2 + 1)), (0, .ref (ad 28)), (1, .int a0)]) [0, 2, 3] rfl (hK5 ((u17, v3.2 + 1)) h)
          · refine w_iconst C 0 dX7_readSum_66 rfl (by decide) ?_
            exact w_rz2 hr (by decide) h (by decide) dX7_readSum_67
        · refine w_if_eq C (qt := 51) dX7_readSum_43 (by decide) rfl h (fun _ h => ?_) (fun _ h => ?_)
          · refine w_bipush C (-17) dX7_readSum_51 rfl (by decide) ?_
            exact w_sub (lv' := [(2, .int v3.2), (0, .ref (ad 28)), (1, .int a0)]) [0, 1, 2] rfl (hJ13 ((-17)) h)
          · refine w_bipush C (-16) dX7_readSum_46 rfl (by decide) ?_
            refine w_goto (q := 53) C dX7_readSum_48 (by decide) ?_
            exact w_sub (lv' := [(2, .int v3.2), (0, .ref (ad 28)), (1, .int a0)]) [0, 1, 2] rfl (hJ13 ((-16)) h)
      · refine w_if_ne C (qt := 37) dX7_readSum_25 (by decide) rfl h (fun _ h => ?_) (fun _ h => ?_)
        · exact w_sub (lv' := [(2, .int v3.2), (0, .ref (ad 28)), (1, .int a0)]) [0, 1, 2] rfl (hJ9 (()) h)
        · refine w_aload_n C dX7_readSum_28 rfl 1 rfl ?_
          refine w_bipush C 45 dX7_readSum_29 rfl (by decide) ?_
          refine bd1_w h (fun r18 hc h => ?_)
          refine w_callVi C (n := 1) (As := [.int 45]) (st := []) 28 (Nat.le_of_ble_eq_true rfl) rfl rfl (cfX7_isSign D cI ad (l := X.2.1) C.2.2.1 hc) tw3_238 cy_X7_isSign (by decide +kernel) ⟨by omega, by omega⟩ (by decide) rfl rfl (Nat.le_of_ble_eq_true rfl) dX7_readSum_31 rfl ?_
          refine w_if_eq C (qt := 85) dX7_readSum_34 (by decide) rfl h (fun _ h => ?_) (fun _ h => ?_)
          · refine w_iconst C 1 dX7_readSum_85 rfl (by decide) ?_
            exact w_rz2 hr (by decide) h (by decide) dX7_readSum_86
          · exact w_sub (lv' := [(2, .int v3.2), (0, .ref (ad 28)), (1, .int a0)]) [0, 1, 2] rfl (hJ9 (()) h)
  · refine w_iconst C 0 dX7_readSum_8 rfl (by decide) ?_
    exact w_rz2 hr (by decide) h (by decide) dX7_readSum_9
theorem cfX7_readSum (D : va_G) (cI : ClassId) (ad : Nat → Nat) {l : Launch} (had : gAp (gC D cI ad)) {rx : St → Int32 →  Option (Int32 × St)} {f0 l0 : Nat} (hrx : ∀ (τ : St) (b0 : Int32) (r : Int32) (τ' : St), rx τ b0 = some (r, τ') → MI l yX7_readExpr (wB yX7_readExpr cX7_readExpr 3 (some .boolean)) f0 l0 (gC D cI ad) [.ref (ad 28), .int b0] τ r τ') {F : Nat} {σ : St} {a0 : Int32} {r : Int32} {σ' : St} (h : fX7_readSum rx F σ a0 = some (r, σ')) : MI l yX7_readSum (wB yX7_readSum cX7_readSum 4 (some .boolean)) (f0 + 8) (l0 + 172) (gC D cI ad) [.ref (ad 28), .int a0] σ r σ' := mk_MZ had (by decide +kernel) (Nat.le_of_ble_eq_true rfl) (fun X hX C hr => wfX7_readSum C (by rw [hX]; exact hrx) hr h)

def fX7_readTest (rx : St → Int32 →  Option (Int32 × St)) (F : Nat) (σ : St) (a0 : Int32) : Option (Int32 × St) := bd2 (fX7_readSum rx F σ a0) fun r1 u2 => if r1 = 0 then (some (0, u2)) else bd1 (fX7_isSign F u2 60) fun r3 => jn (fun v4 : Int32 => bd1 (fX7_isSign F u2 60) fun r7 => jn (fun v8 : Unit => bd1 (fX7_nextToken F u2) fun u11 => bd2 (fX7_readSum rx F u11 a0) fun r12 u13 => if r12 = 0 then (some (0, u13)) else bd1 (fX8_add F u13 v4) fun u14 => some (1, u14)) fun J9 => if r7 = 0 then (bd1 (fX7_isSign F u2 61) fun r15 => if r15 = 0 then (some (1, u2)) else J9 (())) else J9 (())) fun J5 => if r3 = 0 then (J5 ((-15))) else J5 ((-14))
set_option maxRecDepth 20000 in
theorem wfX7_readTest {X : XT} {D : va_G} {cI : ClassId} {ad : Nat → Nat} {F : Nat} {σ : St} {a0 : Int32} {r : Int32} {σ' : St} {rx : St → Int32 →  Option (Int32 × St)} {f0 l0 : Nat} (C : Cx X (gC D cI ad) cX7_readTest 3 RX7 (f0 + 9) (l0 + 195) 0) (hrx : ∀ (τ : St) (b0 : Int32) (r : Int32) (τ' : St), rx τ b0 = some (r, τ') → MI X.2.1 yX7_readExpr (wB yX7_readExpr cX7_readExpr 3 (some .boolean)) f0 l0 (gC D cI ad) [.ref (ad 28), .int b0] τ r τ') (hr : RetZ X (gC D cI ad) cX7_readTest 3 0 r σ') (h : fX7_readTest rx F σ a0 = some (r, σ')) : WP X (gC D cI ad) 3 0 0 σ [(0, .ref (ad 28)), (1, .int a0)] [] := by
  unfold fX7_readTest at h
  refine w_aload_n C dX7_readTest_0 rfl 0 rfl ?_
  refine w_iload_n C dX7_readTest_1 rfl 1 rfl ?_
  refine bd2_w h (fun r1 u2 hc h => ?_)
  refine w_callVi C (n := 1) (As := [.int a0]) (st := []) 28 (Nat.le_of_ble_eq_true rfl) rfl rfl (cfX7_readSum D cI ad (l := X.2.1) C.2.2.1 hrx hc) tw4_15 cy_X7_readSum (by decide +kernel) ⟨by omega, by omega⟩ (by decide) rfl rfl (Nat.le_of_ble_eq_true rfl) dX7_readTest_2 rfl ?_
  refine w_if_ne C (qt := 10) dX7_readTest_5 (by decide) rfl h (fun _ h => ?_) (fun _ h => ?_)
  · refine w_aload_n C dX7_readTest_10 rfl 0 rfl ?_
    refine w_bipush C 60 dX7_readTest_11 rfl (by decide) ?_
    refine bd1_w h (fun r3 hc h => ?_)
    refine w_callVi C (n := 1) (As := [.int 60]) (st := []) 28 (Nat.le_of_ble_eq_true rfl) rfl rfl (cfX7_isSign D cI ad (l := X.2.1) C.2.2.1 hc) tw3_238 cy_X7_isSign (by decide +kernel) ⟨by omega, by omega⟩ (by decide) rfl rfl (Nat.le_of_ble_eq_true rfl) dX7_readTest_13 rfl ?_
    refine jn_w (fun v4 : Int32 => WP X (gC D cI ad) 3 0 26 u2 [(0, .ref (ad 28)), (1, .int a0)] [.int v4]) h (fun v4 h => ?_) (fun J5 hJ6 h => ?_)
    · refine w_istore_n C [(2, .int v4), (0, .ref (ad 28)), (1, .int a0)] dX7_readTest_26 rfl (by decide) rfl ?_
      refine w_aload_n C dX7_readTest_27 rfl 1 rfl ?_
      refine w_bipush C 60 dX7_readTest_28 rfl (by decide) ?_
      refine bd1_w h (fun r7 hc h => ?_)
      refine w_callVi C (n := 1) (As := [.int 60]) (st := []) 28 (Nat.le_of_ble_eq_true rfl) rfl rfl (cfX7_isSign D cI ad (l := X.2.1) C.2.2.1 hc) tw3_238 cy_X7_isSign (by decide +kernel) ⟨by omega, by omega⟩ (by decide) rfl rfl (Nat.le_of_ble_eq_true rfl) dX7_readTest_30 rfl ?_
      refine jn_w (fun v8 : Unit => WP X (gC D cI ad) 3 0 47 u2 [(2, .int v4), (0, .ref (ad 28)), (1, .int a0)] []) h (fun v8 h => ?_) (fun J9 hJ10 h => ?_)
      · refine w_aload_n C dX7_readTest_47 rfl 1 rfl ?_
        refine bd1_w h (fun u11 hc h => ?_)
        refine w_callVv C (n := 0) (As := []) (st := []) 28 (Nat.le_of_ble_eq_true rfl) rfl rfl (cfX7_nextToken D cI ad (l := X.2.1) C.2.2.1 hc) tw3_118 cy_X7_nextToken (by decide +kernel) ⟨by omega, by omega⟩ (by decide) rfl rfl (Nat.le_of_ble_eq_true rfl) dX7_readTest_48 rfl ?_
        refine w_aload_n C dX7_readTest_51 rfl 1 rfl ?_
        refine w_iload_n C dX7_readTest_52 rfl 2 rfl ?_
        refine bd2_w h (fun r12 u13 hc h => ?_)
        refine w_callVi C (n := 1) (As := [.int a0]) (st := []) 28 (Nat.le_of_ble_eq_true rfl) rfl rfl (cfX7_readSum D cI ad (l := X.2.1) C.2.2.1 hrx hc) tw4_15 cy_X7_readSum (by decide +kernel) ⟨by omega, by omega⟩ (by decide) rfl rfl (Nat.le_of_ble_eq_true rfl) dX7_readTest_53 rfl ?_
        refine w_if_ne C (qt := 61) dX7_readTest_56 (by decide) rfl h (fun _ h => ?_) (fun _ h => ?_)
        · refine w_aload_n C dX7_readTest_61 rfl 1 rfl ?_
          refine w_get C 28 0 (Nat.le_of_ble_eq_true rfl) rfl rfl inB_X7 (by decide) tw1_156 rfl dX7_readTest_62 rfl ?_
          refine w_get C 15 14 (Nat.le_of_ble_eq_true rfl) rfl rfl inB_X0 (by decide) tw1_118 rfl dX7_readTest_65 rfl ?_
          refine w_iload_n C dX7_readTest_68 rfl 0 rfl ?_
          refine bd1_w h (fun u14 hc h => ?_)
          refine w_callVv C (n := 1) (As := [.int v4]) (st := []) 25 (Nat.le_of_ble_eq_true rfl) rfl rfl (cfX8_add D cI ad (l := X.2.1) C.2.2.1 hc) tw4_44 cy_X8_add (by decide +kernel) ⟨by omega, by omega⟩ (by decide) rfl rfl (Nat.le_of_ble_eq_true rfl) dX7_readTest_69 rfl ?_
          refine w_iconst C 1 dX7_readTest_72 rfl (by decide) ?_
          exact w_rz2 hr (by decide) h (by decide) dX7_readTest_73
        · refine w_iconst C 0 dX7_readTest_59 rfl (by decide) ?_
          exact w_rz2 hr (by decide) h (by decide) dX7_readTest_60
      · refine w_if_ne C (qt := 47) dX7_readTest_33 (by decide) rfl h (fun _ h => ?_) (fun _ h => ?_)
        · exact w_sub (lv' := [(2, .int v4), (0, .ref (ad 28)), (1, .int a0)]) [0, 1, 2] rfl (hJ10 (()) h)
        · refine w_aload_n C dX7_readTest_36 rfl 1 rfl ?_
          refine w_bipush C 61 dX7_readTest_37 rfl (by decide) ?_
          refine bd1_w h (fun r15 hc h => ?_)
          refine w_callVi C (n := 1) (As := [.int 61]) (st := []) 28 (Nat.le_of_ble_eq_true rfl) rfl rfl (cfX7_isSign D cI ad (l := X.2.1) C.2.2.1 hc) tw3_238 cy_X7_isSign (by decide +kernel) ⟨by omega, by omega⟩ (by decide) rfl rfl (Nat.le_of_ble_eq_true rfl) dX7_readTest_39 rfl ?_
          refine w_if_ne C (qt := 47) dX7_readTest_42 (by decide) rfl h (fun _ h => ?_) (fun _ h => ?_)
          · exact w_sub (lv' := [(2, .int v4), (0, .ref (ad 28)), (1, .int a0)]) [0, 1, 2] rfl (hJ10 (()) h)
          · refine w_iconst C 1 dX7_readTest_45 rfl (by decide) ?_
            exact w_rz2 hr (by decide) h (by decide) dX7_readTest_46
    · refine w_if_eq C (qt := 24) dX7_readTest_16 (by decide) rfl h (fun _ h => ?_) (fun _ h => ?_)
      · refine w_bipush C (-15) dX7_readTest_24 rfl (by decide) ?_
        exact w_sub (lv' := [(0, .ref (ad 28)), (1, .int a0)]) [0, 1] rfl (hJ6 ((-15)) h)
      · refine w_bipush C (-14) dX7_readTest_19 rfl (by decide) ?_
        refine w_goto (q := 26) C dX7_readTest_21 (by decide) ?_
        exact w_sub (lv' := [(0, .ref (ad 28)), (1, .int a0)]) [0, 1] rfl (hJ6 ((-14)) h)
  · refine w_iconst C 0 dX7_readTest_8 rfl (by decide) ?_
    exact w_rz2 hr (by decide) h (by decide) dX7_readTest_9
theorem cfX7_readTest (D : va_G) (cI : ClassId) (ad : Nat → Nat) {l : Launch} (had : gAp (gC D cI ad)) {rx : St → Int32 →  Option (Int32 × St)} {f0 l0 : Nat} (hrx : ∀ (τ : St) (b0 : Int32) (r : Int32) (τ' : St), rx τ b0 = some (r, τ') → MI l yX7_readExpr (wB yX7_readExpr cX7_readExpr 3 (some .boolean)) f0 l0 (gC D cI ad) [.ref (ad 28), .int b0] τ r τ') {F : Nat} {σ : St} {a0 : Int32} {r : Int32} {σ' : St} (h : fX7_readTest rx F σ a0 = some (r, σ')) : MI l yX7_readTest (wB yX7_readTest cX7_readTest 3 (some .boolean)) (f0 + 9) (l0 + 195) (gC D cI ad) [.ref (ad 28), .int a0] σ r σ' := mk_MZ had (by decide +kernel) (Nat.le_of_ble_eq_true rfl) (fun X hX C hr => wfX7_readTest C (by rw [hX]; exact hrx) hr h)

def fX7_readNot (rx : St → Int32 →  Option (Int32 × St)) (F : Nat) (σ : St) (a0 : Int32) : Option (Int32 × St) := lp (fun (K2 : (St × Int32 × Int32) → Option (Int32 × St)) (v1 : St × Int32 × Int32) => jn (fun v4 : Unit => bd2 (fX7_readTest rx F v1.1 a0) fun r7 u8 => if r7 = 0 then (some (0, u8)) else lp (fun (K10 : (St × Int32) → Option (Int32 × St)) (v9 : St × Int32) => if v1.2.2 ≤ v9.2 then (some (1, v9.1)) else bd1 (fX8_add F v9.1 ((-11))) fun u12 => K10 ((u12, v9.2 + 1))) F ((u8, 0))) fun J5 => if (6 : Int32) < v1.2.1 then (J5 (())) else bd1 (fX7_isWord F v1.1 7) fun r13 => if r13 = 0 then (J5 (())) else if v1.2.2 = (6 : Int32) then (bd2 (fX7_refuse F v1.1 2) fun r15 u16 => ckB (r15) (some (r15, u16))) else bd1 (fX7_nextToken F v1.1) fun u14 => K2 ((u14, v1.2.1 + 1, v1.2.2 + 1))) F ((σ, 0, 0))
set_option maxRecDepth 20000 in
theorem wfX7_readNot {X : XT} {D : va_G} {cI : ClassId} {ad : Nat → Nat} {F : Nat} {σ : St} {a0 : Int32} {r : Int32} {σ' : St} {rx : St → Int32 →  Option (Int32 × St)} {f0 l0 : Nat} (C : Cx X (gC D cI ad) cX7_readNot 4 RX7 (f0 + 10) (l0 + 217) 0) (hrx : ∀ (τ : St) (b0 : Int32) (r : Int32) (τ' : St), rx τ b0 = some (r, τ') → MI X.2.1 yX7_readExpr (wB yX7_readExpr cX7_readExpr 3 (some .boolean)) f0 l0 (gC D cI ad) [.ref (ad 28), .int b0] τ r τ') (hr : RetZ X (gC D cI ad) cX7_readNot 4 0 r σ') (h : fX7_readNot rx F σ a0 = some (r, σ')) : WP X (gC D cI ad) 4 0 0 σ [(0, .ref (ad 28)), (1, .int a0)] [] := by
  unfold fX7_readNot at h
  refine w_iconst C 0 dX7_readNot_0 rfl (by decide) ?_
  refine w_istore_n C [(2, .int 0), (0, .ref (ad 28)), (1, .int a0)] dX7_readNot_1 rfl (by decide) rfl ?_
  refine w_iconst C 0 dX7_readNot_2 rfl (by decide) ?_
  refine w_istore_n C [(3, .int 0), (2, .int 0), (0, .ref (ad 28)), (1, .int a0)] dX7_readNot_3 rfl (by decide) rfl ?_
  refine w_sub (lv' := [(3, .int 0), (2, .int 0), (0, .ref (ad 28)), (1, .int a0)]) [0, 1, 2, 3] rfl ?_
  refine lp_w (fun v1 : St × Int32 × Int32 => WP X (gC D cI ad) 4 0 4 v1.1 [(3, .int v1.2.1), (2, .int v1.2.2), (0, .ref (ad 28)), (1, .int a0)] []) (fun K2 hK3 v1 h => ?_) F _ h
  refine w_iload_n C dX7_readNot_4 rfl 0 rfl ?_
  refine w_bipush C 6 dX7_readNot_5 rfl (by decide) ?_
  refine jn_w (fun v4 : Unit => WP X (gC D cI ad) 4 0 44 v1.1 [(2, .int v1.2.2), (0, .ref (ad 28)), (1, .int a0)] []) h (fun v4 h => ?_) (fun J5 hJ6 h => ?_)
  · refine w_aload_n C dX7_readNot_44 rfl 1 rfl ?_
    refine w_iload_n C dX7_readNot_45 rfl 2 rfl ?_
    refine bd2_w h (fun r7 u8 hc h => ?_)
    refine w_callVi C (n := 1) (As := [.int a0]) (st := []) 28 (Nat.le_of_ble_eq_true rfl) rfl rfl (cfX7_readTest D cI ad (l := X.2.1) C.2.2.1 hrx hc) tw4_11 cy_X7_readTest (by decide +kernel) ⟨by omega, by omega⟩ (by decide) rfl rfl (Nat.le_of_ble_eq_true rfl) dX7_readNot_46 rfl ?_
    refine w_if_ne C (qt := 54) dX7_readNot_49 (by decide) rfl h (fun _ h => ?_) (fun _ h => ?_)
    · refine w_iconst C 0 dX7_readNot_54 rfl (by decide) ?_
      refine w_istore_n C [(3, .int 0), (2, .int v1.2.2), (0, .ref (ad 28)), (1, .int a0)] dX7_readNot_55 rfl (by decide) rfl ?_
      refine w_sub (lv' := [(3, .int 0), (2, .int v1.2.2), (0, .ref (ad 28))]) [0, 1, 2] rfl ?_
      refine lp_w (fun v9 : St × Int32 => WP X (gC D cI ad) 4 0 56 v9.1 [(3, .int v9.2), (2, .int v1.2.2), (0, .ref (ad 28))] []) (fun K10 hK11 v9 h => ?_) F _ h
      refine w_iload_n C dX7_readNot_56 rfl 0 rfl ?_
      refine w_iload_n C dX7_readNot_57 rfl 1 rfl ?_
      refine w_icmp_ge C (qt := 79) dX7_readNot_58 (by decide) rfl h (fun _ h => ?_) (fun _ h => ?_)
      · refine w_iconst C 1 dX7_readNot_79 rfl (by decide) ?_
        exact w_rz2 hr (by decide) h (by decide) dX7_readNot_80
      · refine w_aload_n C dX7_readNot_61 rfl 2 rfl ?_
        refine w_get C 28 0 (Nat.le_of_ble_eq_true rfl) rfl rfl inB_X7 (by decide) tw1_156 rfl dX7_readNot_62 rfl ?_
        refine w_get C 15 14 (Nat.le_of_ble_eq_true rfl) rfl rfl inB_X0 (by decide) tw1_118 rfl dX7_readNot_65 rfl ?_
        refine w_bipush C (-11) dX7_readNot_68 rfl (by decide) ?_
        refine bd1_w h (fun u12 hc h => ?_)
        refine w_callVv C (n := 1) (As := [.int ((-11))]) (st := []) 25 (Nat.le_of_ble_eq_true rfl) rfl rfl (cfX8_add D cI ad (l := X.2.1) C.2.2.1 hc) tw4_44 cy_X8_add (by decide +kernel) ⟨by omega, by omega⟩ (by decide) rfl rfl (Nat.le_of_ble_eq_true rfl) dX7_readNot_70 rfl ?_
        refine w_iinc (j := 0) C (v9.2 + 1) [(3, .int (v9.2 + 1)), (2, .int v1.2.2), (0, .ref (ad 28))] dX7_readNot_73 rfl rfl rfl (by decide) rfl ?_
        refine w_goto (q := 56) C dX7_readNot_76 (by decide) ?_
        exact w_sub (lv' := [(3, .int (v9.2 + 1)), (2, .int v1.2.2), (0, .ref (ad 28))]) [0, 1, 2] rfl (hK11 ((u12, v9.2 + 1)) h)
    · refine w_iconst C 0 dX7_readNot_52 rfl (by decide) ?_
      exact w_rz2 hr (by decide) h (by decide) dX7_readNot_53
  · refine w_icmp_gt C (qt := 44) dX7_readNot_7 (by decide) rfl h (fun _ h => ?_) (fun _ h => ?_)
    · exact w_sub (lv' := [(2, .int v1.2.2), (0, .ref (ad 28)), (1, .int a0)]) [1, 2, 3] rfl (hJ6 (()) h)
    · refine w_aload_n C dX7_readNot_10 rfl 2 rfl ?_
      refine w_ldcS C (tx := "not") 7 (by decide) dX7_readNot_11 rfl ?_
      refine bd1_w h (fun r13 hc h => ?_)
      refine w_callVi C (n := 1) (As := [.ref (ad (1100 + 7))]) (st := []) 28 (Nat.le_of_ble_eq_true rfl) rfl rfl (cfX7_isWord D cI ad (l := X.2.1) C.2.2.1 hc) tw3_131 cy_X7_isWord (by decide +kernel) ⟨by omega, by omega⟩ (by decide) rfl rfl (Nat.le_of_ble_eq_true rfl) dX7_readNot_13 rfl ?_
      refine w_if_eq C (qt := 44) dX7_readNot_16 (by decide) rfl h (fun _ h => ?_) (fun _ h => ?_)
      · exact w_sub (lv' := [(2, .int v1.2.2), (0, .ref (ad 28)), (1, .int a0)]) [1, 2, 3] rfl (hJ6 (()) h)
      · refine w_iload_n C dX7_readNot_19 rfl 1 rfl ?_
        refine w_bipush C 6 dX7_readNot_20 rfl (by decide) ?_
        refine w_icmp_ne C (qt := 31) dX7_readNot_22 (by decide) rfl h (fun _ h => ?_) (fun _ h => ?_)
        · refine w_iinc (j := 1) C (v1.2.2 + 1) [(2, .int (v1.2.2 + 1)), (3, .int v1.2.1), (0, .ref (ad 28)), (1, .int a0)] dX7_readNot_31 rfl rfl rfl (by decide) rfl ?_
          refine w_aload_n C dX7_readNot_34 rfl 2 rfl ?_
          refine bd1_w h (fun u14 hc h => ?_)
          refine w_callVv C (n := 0) (As := []) (st := []) 28 (Nat.le_of_ble_eq_true rfl) rfl rfl (cfX7_nextToken D cI ad (l := X.2.1) C.2.2.1 hc) tw3_118 cy_X7_nextToken (by decide +kernel) ⟨by omega, by omega⟩ (by decide) rfl rfl (Nat.le_of_ble_eq_true rfl) dX7_readNot_35 rfl ?_
          refine w_iinc (j := 1) C (v1.2.1 + 1) [(3, .int (v1.2.1 + 1)), (2, .int (v1.2.2 + 1)), (0, .ref (ad 28)), (1, .int a0)] dX7_readNot_38 rfl rfl rfl (by decide) rfl ?_
          refine w_goto (q := 4) C dX7_readNot_41 (by decide) ?_
          exact w_sub (lv' := [(3, .int (v1.2.1 + 1)), (2, .int (v1.2.2 + 1)), (0, .ref (ad 28)), (1, .int a0)]) [0, 1, 2, 3] rfl (hK3 ((u14, v1.2.1 + 1, v1.2.2 + 1)) h)
        · refine w_aload_n C dX7_readNot_25 rfl 2 rfl ?_
          refine w_iconst C 2 dX7_readNot_26 rfl (by decide) ?_
          refine bd2_w h (fun r15 u16 hc h => ?_)
          refine w_callVi C (n := 1) (As := [.int 2]) (st := []) 28 (Nat.le_of_ble_eq_true rfl) rfl rfl (cfX7_refuse D cI ad (l := X.2.1) C.2.2.1 hc) tw3_191 cy_X7_refuse (by decide +kernel) ⟨by omega, by omega⟩ (by decide) rfl rfl (Nat.le_of_ble_eq_true rfl) dX7_readNot_27 rfl ?_
          obtain ⟨hz, h⟩ := ckB_w h
          exact w_rz2 hr hz h (by decide) dX7_readNot_30
theorem cfX7_readNot (D : va_G) (cI : ClassId) (ad : Nat → Nat) {l : Launch} (had : gAp (gC D cI ad)) {rx : St → Int32 →  Option (Int32 × St)} {f0 l0 : Nat} (hrx : ∀ (τ : St) (b0 : Int32) (r : Int32) (τ' : St), rx τ b0 = some (r, τ') → MI l yX7_readExpr (wB yX7_readExpr cX7_readExpr 3 (some .boolean)) f0 l0 (gC D cI ad) [.ref (ad 28), .int b0] τ r τ') {F : Nat} {σ : St} {a0 : Int32} {r : Int32} {σ' : St} (h : fX7_readNot rx F σ a0 = some (r, σ')) : MI l yX7_readNot (wB yX7_readNot cX7_readNot 4 (some .boolean)) (f0 + 10) (l0 + 217) (gC D cI ad) [.ref (ad 28), .int a0] σ r σ' := mk_MZ had (by decide +kernel) (Nat.le_of_ble_eq_true rfl) (fun X hX C hr => wfX7_readNot C (by rw [hX]; exact hrx) hr h)

def fX7_readAnd (rx : St → Int32 →  Option (Int32 × St)) (F : Nat) (σ : St) (a0 : Int32) : Option (Int32 × St) := bd2 (fX7_readNot rx F σ a0) fun r1 u2 => if r1 = 0 then (some (0, u2)) else lp (fun (K4 : (St × Int32) → Option (Int32 × St)) (v3 : St × Int32) => if (700 : Int32) ≤ v3.2 then (some (1, v3.1)) else bd1 (fX7_isWord F v3.1 6) fun r6 => if r6 = 0 then (some (1, v3.1)) else bd1 (fX7_nextToken F v3.1) fun u7 => bd2 (fX7_readNot rx F u7 a0) fun r8 u9 => if r8 = 0 then (some (0, u9)) else bd1 (fX8_add F u9 ((-13))) fun u10 => K4 ((u10, v3.2 + 1))) F ((u2, 0))
set_option maxRecDepth 20000 in
theorem wfX7_readAnd {X : XT} {D : va_G} {cI : ClassId} {ad : Nat → Nat} {F : Nat} {σ : St} {a0 : Int32} {r : Int32} {σ' : St} {rx : St → Int32 →  Option (Int32 × St)} {f0 l0 : Nat} (C : Cx X (gC D cI ad) cX7_readAnd 3 RX7 (f0 + 11) (l0 + 240) 0) (hrx : ∀ (τ : St) (b0 : Int32) (r : Int32) (τ' : St), rx τ b0 = some (r, τ') → MI X.2.1 yX7_readExpr (wB yX7_readExpr cX7_readExpr 3 (some .boolean)) f0 l0 (gC D cI ad) [.ref (ad 28), .int b0] τ r τ') (hr : RetZ X (gC D cI ad) cX7_readAnd 3 0 r σ') (h : fX7_readAnd rx F σ a0 = some (r, σ')) : WP X (gC D cI ad) 3 0 0 σ [(0, .ref (ad 28)), (1, .int a0)] [] := by
  unfold fX7_readAnd at h
  refine w_aload_n C dX7_readAnd_0 rfl 0 rfl ?_
  refine w_iload_n C dX7_readAnd_1 rfl 1 rfl ?_
  refine bd2_w h (fun r1 u2 hc h => ?_)
  refine w_callVi C (n := 1) (As := [.int a0]) (st := []) 28 (Nat.le_of_ble_eq_true rfl) rfl rfl (cfX7_readNot D cI ad (l := X.2.1) C.2.2.1 hrx hc) tw4_6 cy_X7_readNot (by decide +kernel) ⟨by omega, by omega⟩ (by decide) rfl rfl (Nat.le_of_ble_eq_true rfl) dX7_readAnd_2 rfl ?_
  refine w_if_ne C (qt := 10) dX7_readAnd_5 (by decide) rfl h (fun _ h => ?_) (fun _ h => ?_)
  · refine w_iconst C 0 dX7_readAnd_10 rfl (by decide) ?_
    refine w_istore_n C [(2, .int 0), (0, .ref (ad 28)), (1, .int a0)] dX7_readAnd_11 rfl (by decide) rfl ?_
    refine w_sub (lv' := [(2, .int 0), (0, .ref (ad 28)), (1, .int a0)]) [0, 1, 2] rfl ?_
    refine lp_w (fun v3 : St × Int32 => WP X (gC D cI ad) 3 0 12 v3.1 [(2, .int v3.2), (0, .ref (ad 28)), (1, .int a0)] []) (fun K4 hK5 v3 h => ?_) F _ h
    refine w_iload_n C dX7_readAnd_12 rfl 0 rfl ?_
    refine w_sipush C 700 dX7_readAnd_13 rfl (by decide) ?_
    refine w_icmp_ge C (qt := 60) dX7_readAnd_16 (by decide) rfl h (fun _ h => ?_) (fun _ h => ?_)
    · refine w_iconst C 1 dX7_readAnd_60 rfl (by decide) ?_
      exact w_rz2 hr (by decide) h (by decide) dX7_readAnd_61
    · refine w_aload_n C dX7_readAnd_19 rfl 1 rfl ?_
      refine w_ldcS C (tx := "and") 6 (by decide) dX7_readAnd_20 rfl ?_
      refine bd1_w h (fun r6 hc h => ?_)
      refine w_callVi C (n := 1) (As := [.ref (ad (1100 + 6))]) (st := []) 28 (Nat.le_of_ble_eq_true rfl) rfl rfl (cfX7_isWord D cI ad (l := X.2.1) C.2.2.1 hc) tw3_131 cy_X7_isWord (by decide +kernel) ⟨by omega, by omega⟩ (by decide) rfl rfl (Nat.le_of_ble_eq_true rfl) dX7_readAnd_22 rfl ?_
      refine w_if_eq C (qt := 60) dX7_readAnd_25 (by decide) rfl h (fun _ h => ?_) (fun _ h => ?_)
      · refine w_iconst C 1 dX7_readAnd_60 rfl (by decide) ?_
        exact w_rz2 hr (by decide) h (by decide) dX7_readAnd_61
      · refine w_aload_n C dX7_readAnd_28 rfl 1 rfl ?_
        refine bd1_w h (fun u7 hc h => ?_)
        refine w_callVv C (n := 0) (As := []) (st := []) 28 (Nat.le_of_ble_eq_true rfl) rfl rfl (cfX7_nextToken D cI ad (l := X.2.1) C.2.2.1 hc) tw3_118 cy_X7_nextToken (by decide +kernel) ⟨by omega, by omega⟩ (by decide) rfl rfl (Nat.le_of_ble_eq_true rfl) dX7_readAnd_29 rfl ?_
        refine w_aload_n C dX7_readAnd_32 rfl 1 rfl ?_
        refine w_iload_n C dX7_readAnd_33 rfl 2 rfl ?_
        refine bd2_w h (fun r8 u9 hc h => ?_)
        refine w_callVi C (n := 1) (As := [.int a0]) (st := []) 28 (Nat.le_of_ble_eq_true rfl) rfl rfl (cfX7_readNot D cI ad (l := X.2.1) C.2.2.1 hrx hc) tw4_6 cy_X7_readNot (by decide +kernel) ⟨by omega, by omega⟩ (by decide) rfl rfl (Nat.le_of_ble_eq_true rfl) dX7_readAnd_34 rfl ?_
        refine w_if_ne C (qt := 42) dX7_readAnd_37 (by decide) rfl h (fun _ h => ?_) (fun _ h => ?_)
        · refine w_aload_n C dX7_readAnd_42 rfl 1 rfl ?_
          refine w_get C 28 0 (Nat.le_of_ble_eq_true rfl) rfl rfl inB_X7 (by decide) tw1_156 rfl dX7_readAnd_43 rfl ?_
          refine w_get C 15 14 (Nat.le_of_ble_eq_true rfl) rfl rfl inB_X0 (by decide) tw1_118 rfl dX7_readAnd_46 rfl ?_
          refine w_bipush C (-13) dX7_readAnd_49 rfl (by decide) ?_
          refine bd1_w h (fun u10 hc h => ?_)
          refine w_callVv C (n := 1) (As := [.int ((-13))]) (st := []) 25 (Nat.le_of_ble_eq_true rfl) rfl rfl (cfX8_add D cI ad (l := X.2.1) C.2.2.1 hc) tw4_44 cy_X8_add (by decide +kernel) ⟨by omega, by omega⟩ (by decide) rfl rfl (Nat.le_of_ble_eq_true rfl) dX7_readAnd_51 rfl ?_
          refine w_iinc (j := 0) C (v3.2 + 1) [(2, .int (v3.2 + 1)), (0, .ref (ad 28)), (1, .int a0)] dX7_readAnd_54 rfl rfl rfl (by decide) rfl ?_
          refine w_goto (q := 12) C dX7_readAnd_57 (by decide) ?_
          exact w_sub (lv' := [(2, .int (v3.2 + 1)), (0, .ref (ad 28)), (1, .int a0)]) [0, 1, 2] rfl (hK5 ((u10, v3.2 + 1)) h)
        · refine w_iconst C 0 dX7_readAnd_40 rfl (by decide) ?_
          exact w_rz2 hr (by decide) h (by decide) dX7_readAnd_41
  · refine w_iconst C 0 dX7_readAnd_8 rfl (by decide) ?_
    exact w_rz2 hr (by decide) h (by decide) dX7_readAnd_9
theorem cfX7_readAnd (D : va_G) (cI : ClassId) (ad : Nat → Nat) {l : Launch} (had : gAp (gC D cI ad)) {rx : St → Int32 →  Option (Int32 × St)} {f0 l0 : Nat} (hrx : ∀ (τ : St) (b0 : Int32) (r : Int32) (τ' : St), rx τ b0 = some (r, τ') → MI l yX7_readExpr (wB yX7_readExpr cX7_readExpr 3 (some .boolean)) f0 l0 (gC D cI ad) [.ref (ad 28), .int b0] τ r τ') {F : Nat} {σ : St} {a0 : Int32} {r : Int32} {σ' : St} (h : fX7_readAnd rx F σ a0 = some (r, σ')) : MI l yX7_readAnd (wB yX7_readAnd cX7_readAnd 3 (some .boolean)) (f0 + 11) (l0 + 240) (gC D cI ad) [.ref (ad 28), .int a0] σ r σ' := mk_MZ had (by decide +kernel) (Nat.le_of_ble_eq_true rfl) (fun X hX C hr => wfX7_readAnd C (by rw [hX]; exact hrx) hr h)

def fX7_mayBeginPart (F : Nat) (σ : St) : Option Int32 := if (σ 28 3) = (2 : Int32) then (some 1) else if (σ 28 3) = (1 : Int32) then (some 1) else bd1 (fX7_isSign F σ 40) fun r1 => if r1 = 0 then (some 0) else some 1
set_option maxRecDepth 20000 in
theorem wfX7_mayBeginPart {X : XT} {D : va_G} {cI : ClassId} {ad : Nat → Nat} {F : Nat} {σ : St}  {r : Int32} (C : Cx X (gC D cI ad) cX7_mayBeginPart 1 RX7 2 42 0) (hr : RetZ X (gC D cI ad) cX7_mayBeginPart 1 0 r σ) (h : fX7_mayBeginPart F σ = some r) : WP X (gC D cI ad) 1 0 0 σ [(0, .ref (ad 28))] [] := by
  unfold fX7_mayBeginPart at h
  refine w_aload_n C dX7_mayBeginPart_0 rfl 0 rfl ?_
  refine w_get C 28 3 (Nat.le_of_ble_eq_true rfl) rfl rfl inB_X7 (by decide) tw1_159 rfl dX7_mayBeginPart_1 rfl ?_
  refine w_iconst C 2 dX7_mayBeginPart_4 rfl (by decide) ?_
  refine w_icmp_eq C (qt := 25) dX7_mayBeginPart_5 (by decide) rfl h (fun _ h => ?_) (fun _ h => ?_)
  · refine w_iconst C 1 dX7_mayBeginPart_25 rfl (by decide) ?_
    refine w_goto (q := 30) C dX7_mayBeginPart_26 (by decide) ?_
    exact w_rz1 hr (by decide) h (by decide) dX7_mayBeginPart_30
  · refine w_aload_n C dX7_mayBeginPart_8 rfl 0 rfl ?_
    refine w_get C 28 3 (Nat.le_of_ble_eq_true rfl) rfl rfl inB_X7 (by decide) tw1_159 rfl dX7_mayBeginPart_9 rfl ?_
    refine w_iconst C 1 dX7_mayBeginPart_12 rfl (by decide) ?_
    refine w_icmp_eq C (qt := 25) dX7_mayBeginPart_13 (by decide) rfl h (fun _ h => ?_) (fun _ h => ?_)
    · refine w_iconst C 1 dX7_mayBeginPart_25 rfl (by decide) ?_
      refine w_goto (q := 30) C dX7_mayBeginPart_26 (by decide) ?_
      exact w_rz1 hr (by decide) h (by decide) dX7_mayBeginPart_30
    · refine w_aload_n C dX7_mayBeginPart_16 rfl 0 rfl ?_
      refine w_bipush C 40 dX7_mayBeginPart_17 rfl (by decide) ?_
      refine bd1_w h (fun r1 hc h => ?_)
      refine w_callVi C (n := 1) (As := [.int 40]) (st := []) 28 (Nat.le_of_ble_eq_true rfl) rfl rfl (cfX7_isSign D cI ad (l := X.2.1) C.2.2.1 hc) tw3_238 cy_X7_isSign (by decide +kernel) ⟨Nat.le_of_ble_eq_true rfl, Nat.le_of_ble_eq_true rfl⟩ (by decide) rfl rfl (Nat.le_of_ble_eq_true rfl) dX7_mayBeginPart_19 rfl ?_
      refine w_if_eq C (qt := 29) dX7_mayBeginPart_22 (by decide) rfl h (fun _ h => ?_) (fun _ h => ?_)
      · refine w_iconst C 0 dX7_mayBeginPart_29 rfl (by decide) ?_
        exact w_rz1 hr (by decide) h (by decide) dX7_mayBeginPart_30
      · refine w_iconst C 1 dX7_mayBeginPart_25 rfl (by decide) ?_
        refine w_goto (q := 30) C dX7_mayBeginPart_26 (by decide) ?_
        exact w_rz1 hr (by decide) h (by decide) dX7_mayBeginPart_30
theorem cfX7_mayBeginPart (D : va_G) (cI : ClassId) (ad : Nat → Nat) {l : Launch} (had : gAp (gC D cI ad)) {F : Nat} {σ : St}  {r : Int32} (h : fX7_mayBeginPart F σ = some r) : MI l yX7_mayBeginPart (wB yX7_mayBeginPart cX7_mayBeginPart 1 (some .boolean)) 2 42 (gC D cI ad) [.ref (ad 28)] σ r σ := mk_MZ had (by decide +kernel) (Nat.le_of_ble_eq_true rfl) (fun X hX C hr => wfX7_mayBeginPart C hr h)

def fX7_readExpr_b (rx : St → Int32 →  Option (Int32 × St)) (F : Nat) (σ : St) (a0 : Int32) : Option (Int32 × St) := if a0 ≤ (5 : Int32) then (bd2 (fX7_readAnd rx F σ a0) fun r1 u2 => if r1 = 0 then (some (0, u2)) else lp (fun (K4 : (St × Int32) → Option (Int32 × St)) (v3 : St × Int32) => if (700 : Int32) ≤ v3.2 then (some (1, v3.1)) else bd1 (fX7_isWord F v3.1 5) fun r6 => if r6 = 0 then (some (1, v3.1)) else bd1 (fX7_nextToken F v3.1) fun u7 => bd2 (fX7_readAnd rx F u7 a0) fun r8 u9 => if r8 = 0 then (some (0, u9)) else bd1 (fX8_add F u9 ((-12))) fun u10 => K4 ((u10, v3.2 + 1))) F ((u2, 0))) else bd1 (fX7_mayBeginPart F σ) fun r11 => if r11 = 0 then (bd2 (fX7_refuse F σ 1) fun r12 u13 => ckB (r12) (some (r12, u13))) else bd2 (fX7_refuse F σ 2) fun r14 u15 => ckB (r14) (some (r14, u15))
set_option maxRecDepth 20000 in
theorem wfX7_readExpr_b {X : XT} {D : va_G} {cI : ClassId} {ad : Nat → Nat} {F : Nat} {σ : St} {a0 : Int32} {r : Int32} {σ' : St} {rx : St → Int32 →  Option (Int32 × St)} {f0 l0 : Nat} (C : Cx X (gC D cI ad) cX7_readExpr 3 RX7 (f0 + 12) (l0 + 262) 0) (hrx : ∀ (τ : St) (b0 : Int32) (r : Int32) (τ' : St), rx τ b0 = some (r, τ') → MI X.2.1 yX7_readExpr (wB yX7_readExpr cX7_readExpr 3 (some .boolean)) f0 l0 (gC D cI ad) [.ref (ad 28), .int b0] τ r τ') (hr : RetZ X (gC D cI ad) cX7_readExpr 3 0 r σ') (h : fX7_readExpr_b rx F σ a0 = some (r, σ')) : WP X (gC D cI ad) 3 0 0 σ [(0, .ref (ad 28)), (1, .int a0)] [] := by
  unfold fX7_readExpr_b at h
  refine w_iload_n C dX7_readExpr_0 rfl 1 rfl ?_
  refine w_iconst C 5 dX7_readExpr_1 rfl (by decide) ?_
  refine w_icmp_le C (qt := 22) dX7_readExpr_2 (by decide) rfl h (fun _ h => ?_) (fun _ h => ?_)
  · refine w_aload_n C dX7_readExpr_22 rfl 0 rfl ?_
    refine w_iload_n C dX7_readExpr_23 rfl 1 rfl ?_
    refine bd2_w h (fun r1 u2 hc h => ?_)
    refine w_callVi C (n := 1) (As := [.int a0]) (st := []) 28 (Nat.le_of_ble_eq_true rfl) rfl rfl (cfX7_readAnd D cI ad (l := X.2.1) C.2.2.1 hrx hc) tw4_2 cy_X7_readAnd (by decide +kernel) ⟨by omega, by omega⟩ (by decide) rfl rfl (Nat.le_of_ble_eq_true rfl) dX7_readExpr_24 rfl ?_
    refine w_if_ne C (qt := 32) dX7_readExpr_27 (by decide) rfl h (fun _ h => ?_) (fun _ h => ?_)
    · refine w_iconst C 0 dX7_readExpr_32 rfl (by decide) ?_
      refine w_istore_n C [(2, .int 0), (0, .ref (ad 28)), (1, .int a0)] dX7_readExpr_33 rfl (by decide) rfl ?_
      refine w_sub (lv' := [(2, .int 0), (0, .ref (ad 28)), (1, .int a0)]) [0, 1, 2] rfl ?_
      refine lp_w (fun v3 : St × Int32 => WP X (gC D cI ad) 3 0 34 v3.1 [(2, .int v3.2), (0, .ref (ad 28)), (1, .int a0)] []) (fun K4 hK5 v3 h => ?_) F _ h
      refine w_iload_n C dX7_readExpr_34 rfl 0 rfl ?_
      refine w_sipush C 700 dX7_readExpr_35 rfl (by decide) ?_
      refine w_icmp_ge C (qt := 82) dX7_readExpr_38 (by decide) rfl h (fun _ h => ?_) (fun _ h => ?_)
      · refine w_iconst C 1 dX7_readExpr_82 rfl (by decide) ?_
        exact w_rz2 hr (by decide) h (by decide) dX7_readExpr_83
      · refine w_aload_n C dX7_readExpr_41 rfl 1 rfl ?_
        refine w_ldcS C (tx := "or") 5 (by decide) dX7_readExpr_42 rfl ?_
        refine bd1_w h (fun r6 hc h => ?_)
        refine w_callVi C (n := 1) (As := [.ref (ad (1100 + 5))]) (st := []) 28 (Nat.le_of_ble_eq_true rfl) rfl rfl (cfX7_isWord D cI ad (l := X.2.1) C.2.2.1 hc) tw3_131 cy_X7_isWord (by decide +kernel) ⟨by omega, by omega⟩ (by decide) rfl rfl (Nat.le_of_ble_eq_true rfl) dX7_readExpr_44 rfl ?_
        refine w_if_eq C (qt := 82) dX7_readExpr_47 (by decide) rfl h (fun _ h => ?_) (fun _ h => ?_)
        · refine w_iconst C 1 dX7_readExpr_82 rfl (by decide) ?_
          exact w_rz2 hr (by decide) h (by decide) dX7_readExpr_83
        · refine w_aload_n C dX7_readExpr_50 rfl 1 rfl ?_
          refine bd1_w h (fun u7 hc h => ?_)
          refine w_callVv C (n := 0) (As := []) (st := []) 28 (Nat.le_of_ble_eq_true rfl) rfl rfl (cfX7_nextToken D cI ad (l := X.2.1) C.2.2.1 hc) tw3_118 cy_X7_nextToken (by decide +kernel) ⟨by omega, by omega⟩ (by decide) rfl rfl (Nat.le_of_ble_eq_true rfl) dX7_readExpr_51 rfl ?_
          refine w_aload_n C dX7_readExpr_54 rfl 1 rfl ?_
          refine w_iload_n C dX7_readExpr_55 rfl 2 rfl ?_
          refine bd2_w h (fun r8 u9 hc h => ?_)
          refine w_callVi C (n := 1) (As := [.int a0]) (st := []) 28 (Nat.le_of_ble_eq_true rfl) rfl rfl (cfX7_readAnd D cI ad (l := X.2.1) C.2.2.1 hrx hc) tw4_2 cy_X7_readAnd (by decide +kernel) ⟨by omega, by omega⟩ (by decide) rfl rfl (Nat.le_of_ble_eq_true rfl) dX7_readExpr_56 rfl ?_
          refine w_if_ne C (qt := 64) dX7_readExpr_59 (by decide) rfl h (fun _ h => ?_) (fun _ h => ?_)
          · refine w_aload_n C dX7_readExpr_64 rfl 1 rfl ?_
            refine w_get C 28 0 (Nat.le_of_ble_eq_true rfl) rfl rfl inB_X7 (by decide) tw1_156 rfl dX7_readExpr_65 rfl ?_
            refine w_get C 15 14 (Nat.le_of_ble_eq_true rfl) rfl rfl inB_X0 (by decide) tw1_118 rfl dX7_readExpr_68 rfl ?_
            refine w_bipush C (-12) dX7_readExpr_71 rfl (by decide) ?_
            refine bd1_w h (fun u10 hc h => ?_)
            refine w_callVv C (n := 1) (As := [.int ((-12))]) (st := []) 25 (Nat.le_of_ble_eq_true rfl) rfl rfl (cfX8_add D cI ad (l := X.2.1) C.2.2.1 hc) tw4_44 cy_X8_add (by decide +kernel) ⟨by omega, by omega⟩ (by decide) rfl rfl (Nat.le_of_ble_eq_true rfl) dX7_readExpr_73 rfl ?_
            refine w_iinc (j := 0) C (v3.2 + 1) [(2, .int (v3.2 + 1)), (0, .ref (ad 28)), (1, .int a0)] dX7_readExpr_76 rfl rfl rfl (by decide) rfl ?_
            refine w_goto (q := 34) C dX7_readExpr_79 (by decide) ?_
            exact w_sub (lv' := [(2, .int (v3.2 + 1)), (0, .ref (ad 28)), (1, .int a0)]) [0, 1, 2] rfl (hK5 ((u10, v3.2 + 1)) h)
          · refine w_iconst C 0 dX7_readExpr_62 rfl (by decide) ?_
            exact w_rz2 hr (by decide) h (by decide) dX7_readExpr_63
    · refine w_iconst C 0 dX7_readExpr_30 rfl (by decide) ?_
      exact w_rz2 hr (by decide) h (by decide) dX7_readExpr_31
  · refine w_aload_n C dX7_readExpr_5 rfl 0 rfl ?_
    refine w_aload_n C dX7_readExpr_6 rfl 0 rfl ?_
    refine bd1_w h (fun r11 hc h => ?_)
    refine w_callVi C (n := 0) (As := []) (st := [.ref (ad 28)]) 28 (Nat.le_of_ble_eq_true rfl) rfl rfl (cfX7_mayBeginPart D cI ad (l := X.2.1) C.2.2.1 hc) tw3_234 cy_X7_mayBeginPart (by decide +kernel) ⟨by omega, by omega⟩ (by decide) rfl rfl (Nat.le_of_ble_eq_true rfl) dX7_readExpr_7 rfl ?_
    refine w_if_eq C (qt := 17) dX7_readExpr_10 (by decide) rfl h (fun _ h => ?_) (fun _ h => ?_)
    · refine w_iconst C 1 dX7_readExpr_17 rfl (by decide) ?_
      refine bd2_w h (fun r12 u13 hc h => ?_)
      refine w_callVi C (n := 1) (As := [.int 1]) (st := []) 28 (Nat.le_of_ble_eq_true rfl) rfl rfl (cfX7_refuse D cI ad (l := X.2.1) C.2.2.1 hc) tw3_191 cy_X7_refuse (by decide +kernel) ⟨by omega, by omega⟩ (by decide) rfl rfl (Nat.le_of_ble_eq_true rfl) dX7_readExpr_18 rfl ?_
      obtain ⟨hz, h⟩ := ckB_w h
      exact w_rz2 hr hz h (by decide) dX7_readExpr_21
    · refine w_iconst C 2 dX7_readExpr_13 rfl (by decide) ?_
      refine w_goto (q := 18) C dX7_readExpr_14 (by decide) ?_
      refine bd2_w h (fun r14 u15 hc h => ?_)
      refine w_callVi C (n := 1) (As := [.int 2]) (st := []) 28 (Nat.le_of_ble_eq_true rfl) rfl rfl (cfX7_refuse D cI ad (l := X.2.1) C.2.2.1 hc) tw3_191 cy_X7_refuse (by decide +kernel) ⟨by omega, by omega⟩ (by decide) rfl rfl (Nat.le_of_ble_eq_true rfl) dX7_readExpr_18 rfl ?_
      obtain ⟨hz, h⟩ := ckB_w h
      exact w_rz2 hr hz h (by decide) dX7_readExpr_21
theorem cfX7_readExpr_b (D : va_G) (cI : ClassId) (ad : Nat → Nat) {l : Launch} (had : gAp (gC D cI ad)) {rx : St → Int32 →  Option (Int32 × St)} {f0 l0 : Nat} (hrx : ∀ (τ : St) (b0 : Int32) (r : Int32) (τ' : St), rx τ b0 = some (r, τ') → MI l yX7_readExpr (wB yX7_readExpr cX7_readExpr 3 (some .boolean)) f0 l0 (gC D cI ad) [.ref (ad 28), .int b0] τ r τ') {F : Nat} {σ : St} {a0 : Int32} {r : Int32} {σ' : St} (h : fX7_readExpr_b rx F σ a0 = some (r, σ')) : MI l yX7_readExpr (wB yX7_readExpr cX7_readExpr 3 (some .boolean)) (f0 + 12) (l0 + 262) (gC D cI ad) [.ref (ad 28), .int a0] σ r σ' := mk_MZ had (by decide +kernel) (Nat.le_of_ble_eq_true rfl) (fun X hX C hr => wfX7_readExpr_b C (by rw [hX]; exact hrx) hr h)
def fX7_readExpr (F : Nat) : Nat → St → Int32 →  Option (Int32 × St)
  | 0, _, _ => none
  | d + 1, σ, a0 => fX7_readExpr_b (fX7_readExpr F d) F σ a0
theorem cfX7_readExpr (D : va_G) (cI : ClassId) (ad : Nat → Nat) {l : Launch} (had : gAp (gC D cI ad)) {F : Nat} : ∀ (d : Nat) {σ : St} {a0 : Int32} {r : Int32} {σ' : St} (h : fX7_readExpr F d σ a0 = some (r, σ')), MI l yX7_readExpr (wB yX7_readExpr cX7_readExpr 3 (some .boolean)) (12 * d) (262 * d) (gC D cI ad) [.ref (ad 28), .int a0] σ r σ'
  | 0, _, _, _, _, h => nomatch h
  | d + 1, _, _, _, _, h => cfX7_readExpr_b D cI ad had (f0 := 12 * d) (l0 := 262 * d) (rx := fX7_readExpr F d) (fun _ _ _ _ hh => cfX7_readExpr D cI ad had d hh) h

def fX7_readLimit (F : Nat) (σ : St) : Option (Int32 × St) := if (σ 15 4) = 0 then (bd1 (fX7_nextToken F σ) fun u1 => nm (up u1 15 4 1) fun u3 => bd2 (fX7_readExpr F 10 u3 0) fun r4 u5 => ckB (r4) (some (r4, u5))) else bd2 (fX7_refuse F σ 5) fun r6 u7 => ckB (r6) (some (r6, u7))
set_option maxRecDepth 20000 in
theorem wfX7_readLimit {X : XT} {D : va_G} {cI : ClassId} {ad : Nat → Nat} {F : Nat} {σ : St}  {r : Int32} {σ' : St} (C : Cx X (gC D cI ad) cX7_readLimit 1 RX7 121 2642 0) (hr : RetZ X (gC D cI ad) cX7_readLimit 1 0 r σ') (h : fX7_readLimit F σ = some (r, σ')) : WP X (gC D cI ad) 1 0 0 σ [(0, .ref (ad 28))] [] := by
  unfold fX7_readLimit at h
  refine w_aload_n C dX7_readLimit_0 rfl 0 rfl ?_
  refine w_get C 28 0 (Nat.le_of_ble_eq_true rfl) rfl rfl inB_X7 (by decide) tw1_156 rfl dX7_readLimit_1 rfl ?_
  refine w_get C 15 4 (Nat.le_of_ble_eq_true rfl) rfl rfl inB_X0 (by decide) tw1_77 rfl dX7_readLimit_4 rfl ?_
  refine w_if_eq C (qt := 16) dX7_readLimit_7 (by decide) rfl h (fun _ h => ?_) (fun _ h => ?_)
  · refine w_aload_n C dX7_readLimit_16 rfl 0 rfl ?_
    refine bd1_w h (fun u1 hc h => ?_)
    refine w_callVv C (n := 0) (As := []) (st := []) 28 (Nat.le_of_ble_eq_true rfl) rfl rfl (cfX7_nextToken D cI ad (l := X.2.1) C.2.2.1 hc) tw3_118 cy_X7_nextToken (by decide +kernel) ⟨Nat.le_of_ble_eq_true rfl, Nat.le_of_ble_eq_true rfl⟩ (by decide) rfl rfl (Nat.le_of_ble_eq_true rfl) dX7_readLimit_17 rfl ?_
    refine w_aload_n C dX7_readLimit_20 rfl 0 rfl ?_
    refine w_get C 28 0 (Nat.le_of_ble_eq_true rfl) rfl rfl inB_X7 (by decide) tw1_156 rfl dX7_readLimit_21 rfl ?_
    refine w_iconst C 1 dX7_readLimit_24 rfl (by decide) ?_
    refine w_put C 15 4 1 (Nat.le_of_ble_eq_true rfl) rfl rfl inB_X0 tyX0_ok nmX0 (by decide) tw1_77 rfl rfl rfl (Nat.le_of_ble_eq_true rfl) rfl dX7_readLimit_25 rfl ?_
    refine w_nst h (fun u3 h => ?_)
    refine w_aload_n C dX7_readLimit_28 rfl 0 rfl ?_
    refine w_iconst C 0 dX7_readLimit_29 rfl (by decide) ?_
    refine bd2_w h (fun r4 u5 hc h => ?_)
    refine w_callVi C (n := 1) (As := [.int 0]) (st := []) 28 (Nat.le_of_ble_eq_true rfl) rfl rfl (cfX7_readExpr D cI ad (l := X.2.1) C.2.2.1 10 hc) tw3_230 cy_X7_readExpr (by decide +kernel) ⟨Nat.le_of_ble_eq_true rfl, Nat.le_of_ble_eq_true rfl⟩ (by decide) rfl rfl (Nat.le_of_ble_eq_true rfl) dX7_readLimit_30 rfl ?_
    obtain ⟨hz, h⟩ := ckB_w h
    exact w_rz2 hr hz h (by decide) dX7_readLimit_33
  · refine w_aload_n C dX7_readLimit_10 rfl 0 rfl ?_
    refine w_iconst C 5 dX7_readLimit_11 rfl (by decide) ?_
    refine bd2_w h (fun r6 u7 hc h => ?_)
    refine w_callVi C (n := 1) (As := [.int 5]) (st := []) 28 (Nat.le_of_ble_eq_true rfl) rfl rfl (cfX7_refuse D cI ad (l := X.2.1) C.2.2.1 hc) tw3_191 cy_X7_refuse (by decide +kernel) ⟨Nat.le_of_ble_eq_true rfl, Nat.le_of_ble_eq_true rfl⟩ (by decide) rfl rfl (Nat.le_of_ble_eq_true rfl) dX7_readLimit_12 rfl ?_
    obtain ⟨hz, h⟩ := ckB_w h
    exact w_rz2 hr hz h (by decide) dX7_readLimit_15
theorem cfX7_readLimit (D : va_G) (cI : ClassId) (ad : Nat → Nat) {l : Launch} (had : gAp (gC D cI ad)) {F : Nat} {σ : St}  {r : Int32} {σ' : St} (h : fX7_readLimit F σ = some (r, σ')) : MI l yX7_readLimit (wB yX7_readLimit cX7_readLimit 1 (some .boolean)) 121 2642 (gC D cI ad) [.ref (ad 28)] σ r σ' := mk_MZ had (by decide +kernel) (Nat.le_of_ble_eq_true rfl) (fun X hX C hr => wfX7_readLimit C hr h)

def fX7_readFloor (F : Nat) (σ : St) : Option (Int32 × St) := if (σ 15 3) = 0 then (bd1 (fX7_nextToken F σ) fun u1 => bd2 (fX7_takeNumber F u1 4 20) fun r2 u3 => if r2 = (-1 : Int32) then (some (0, u3)) else nm (up u3 15 2 r2) fun u5 => nm (up u5 15 3 1) fun u7 => some (1, u7)) else bd2 (fX7_refuse F σ 5) fun r8 u9 => ckB (r8) (some (r8, u9))
set_option maxRecDepth 20000 in
theorem wfX7_readFloor {X : XT} {D : va_G} {cI : ClassId} {ad : Nat → Nat} {F : Nat} {σ : St}  {r : Int32} {σ' : St} (C : Cx X (gC D cI ad) cX7_readFloor 2 RX7 3 68 0) (hr : RetZ X (gC D cI ad) cX7_readFloor 2 0 r σ') (h : fX7_readFloor F σ = some (r, σ')) : WP X (gC D cI ad) 2 0 0 σ [(0, .ref (ad 28))] [] := by
  unfold fX7_readFloor at h
  refine w_aload_n C dX7_readFloor_0 rfl 0 rfl ?_
  refine w_get C 28 0 (Nat.le_of_ble_eq_true rfl) rfl rfl inB_X7 (by decide) tw1_156 rfl dX7_readFloor_1 rfl ?_
  refine w_get C 15 3 (Nat.le_of_ble_eq_true rfl) rfl rfl inB_X0 (by decide) tw1_75 rfl dX7_readFloor_4 rfl ?_
  refine w_if_eq C (qt := 16) dX7_readFloor_7 (by decide) rfl h (fun _ h => ?_) (fun _ h => ?_)
  · refine w_aload_n C dX7_readFloor_16 rfl 0 rfl ?_
    refine bd1_w h (fun u1 hc h => ?_)
    refine w_callVv C (n := 0) (As := []) (st := []) 28 (Nat.le_of_ble_eq_true rfl) rfl rfl (cfX7_nextToken D cI ad (l := X.2.1) C.2.2.1 hc) tw3_118 cy_X7_nextToken (by decide +kernel) ⟨Nat.le_of_ble_eq_true rfl, Nat.le_of_ble_eq_true rfl⟩ (by decide) rfl rfl (Nat.le_of_ble_eq_true rfl) dX7_readFloor_17 rfl ?_
    refine w_aload_n C dX7_readFloor_20 rfl 0 rfl ?_
    refine w_iconst C 4 dX7_readFloor_21 rfl (by decide) ?_
    refine w_bipush C 20 dX7_readFloor_22 rfl (by decide) ?_
    refine bd2_w h (fun r2 u3 hc h => ?_)
    refine w_callVi C (n := 2) (As := [.int 4, .int 20]) (st := []) 28 (Nat.le_of_ble_eq_true rfl) rfl rfl (cfX7_takeNumber D cI ad (l := X.2.1) C.2.2.1 hc) tw3_195 cy_X7_takeNumber (by decide +kernel) ⟨Nat.le_of_ble_eq_true rfl, Nat.le_of_ble_eq_true rfl⟩ (by decide) rfl rfl (Nat.le_of_ble_eq_true rfl) dX7_readFloor_24 rfl ?_
    refine w_istore_n C [(1, .int r2), (0, .ref (ad 28))] dX7_readFloor_27 rfl (by decide) rfl ?_
    refine w_iload_n C dX7_readFloor_28 rfl 0 rfl ?_
    refine w_iconst C (-1) dX7_readFloor_29 rfl (by decide) ?_
    refine w_icmp_ne C (qt := 35) dX7_readFloor_30 (by decide) rfl h (fun _ h => ?_) (fun _ h => ?_)
    · refine w_aload_n C dX7_readFloor_35 rfl 1 rfl ?_
      refine w_get C 28 0 (Nat.le_of_ble_eq_true rfl) rfl rfl inB_X7 (by decide) tw1_156 rfl dX7_readFloor_36 rfl ?_
      refine w_iload_n C dX7_readFloor_39 rfl 0 rfl ?_
      refine w_put C 15 2 r2 (Nat.le_of_ble_eq_true rfl) rfl rfl inB_X0 tyX0_ok nmX0 (by decide) tw1_73 rfl rfl rfl (Nat.le_of_ble_eq_true rfl) rfl dX7_readFloor_40 rfl ?_
      refine w_nst h (fun u5 h => ?_)
      refine w_aload_n C dX7_readFloor_43 rfl 1 rfl ?_
      refine w_get C 28 0 (Nat.le_of_ble_eq_true rfl) rfl rfl inB_X7 (by decide) tw1_156 rfl dX7_readFloor_44 rfl ?_
      refine w_iconst C 1 dX7_readFloor_47 rfl (by decide) ?_
      refine w_put C 15 3 1 (Nat.le_of_ble_eq_true rfl) rfl rfl inB_X0 tyX0_ok nmX0 (by decide) tw1_75 rfl rfl rfl (Nat.le_of_ble_eq_true rfl) rfl dX7_readFloor_48 rfl ?_
      refine w_nst h (fun u7 h => ?_)
      refine w_iconst C 1 dX7_readFloor_51 rfl (by decide) ?_
      exact w_rz2 hr (by decide) h (by decide) dX7_readFloor_52
    · refine w_iconst C 0 dX7_readFloor_33 rfl (by decide) ?_
      exact w_rz2 hr (by decide) h (by decide) dX7_readFloor_34
  · refine w_aload_n C dX7_readFloor_10 rfl 0 rfl ?_
    refine w_iconst C 5 dX7_readFloor_11 rfl (by decide) ?_
    refine bd2_w h (fun r8 u9 hc h => ?_)
    refine w_callVi C (n := 1) (As := [.int 5]) (st := []) 28 (Nat.le_of_ble_eq_true rfl) rfl rfl (cfX7_refuse D cI ad (l := X.2.1) C.2.2.1 hc) tw3_191 cy_X7_refuse (by decide +kernel) ⟨Nat.le_of_ble_eq_true rfl, Nat.le_of_ble_eq_true rfl⟩ (by decide) rfl rfl (Nat.le_of_ble_eq_true rfl) dX7_readFloor_12 rfl ?_
    obtain ⟨hz, h⟩ := ckB_w h
    exact w_rz2 hr hz h (by decide) dX7_readFloor_15
theorem cfX7_readFloor (D : va_G) (cI : ClassId) (ad : Nat → Nat) {l : Launch} (had : gAp (gC D cI ad)) {F : Nat} {σ : St}  {r : Int32} {σ' : St} (h : fX7_readFloor F σ = some (r, σ')) : MI l yX7_readFloor (wB yX7_readFloor cX7_readFloor 2 (some .boolean)) 3 68 (gC D cI ad) [.ref (ad 28)] σ r σ' := mk_MZ had (by decide +kernel) (Nat.le_of_ble_eq_true rfl) (fun X hX C hr => wfX7_readFloor C hr h)

def fX7_takeValley (F : Nat) (σ : St) : Option (Int32 × St) := bd1 (fX7_numberHere F σ) fun r1 => jn (fun v2 : Unit => bd2 (fX7_takeNumber F σ 0 9999) fun r5 u6 => some (r5, u6)) fun J3 => if r1 = (-1 : Int32) then (J3 (())) else if r1 < (σ 15 0) then (J3 (())) else bd2 (fX7_refuse F σ 3) fun r7 u8 => some ((-1), u8)
set_option maxRecDepth 20000 in
theorem wfX7_takeValley {X : XT} {D : va_G} {cI : ClassId} {ad : Nat → Nat} {F : Nat} {σ : St}  {r : Int32} {σ' : St} (C : Cx X (gC D cI ad) cX7_takeValley 2 RX7 3 68 0) (hr : RetI X (gC D cI ad) cX7_takeValley 2 0 r σ') (h : fX7_takeValley F σ = some (r, σ')) : WP X (gC D cI ad) 2 0 0 σ [(0, .ref (ad 28))] [] := by
  unfold fX7_takeValley at h
  refine w_aload_n C dX7_takeValley_0 rfl 0 rfl ?_
  refine bd1_w h (fun r1 hc h => ?_)
  refine w_callVi C (n := 0) (As := []) (st := []) 28 (Nat.le_of_ble_eq_true rfl) rfl rfl (cfX7_numberHere D cI ad (l := X.2.1) C.2.2.1 hc) tw3_199 cy_X7_numberHere (by decide +kernel) ⟨Nat.le_of_ble_eq_true rfl, Nat.le_of_ble_eq_true rfl⟩ (by decide) rfl rfl (Nat.le_of_ble_eq_true rfl) dX7_takeValley_1 rfl ?_
  refine w_istore_n C [(1, .int r1), (0, .ref (ad 28))] dX7_takeValley_4 rfl (by decide) rfl ?_
  refine w_iload_n C dX7_takeValley_5 rfl 0 rfl ?_
  refine w_iconst C (-1) dX7_takeValley_6 rfl (by decide) ?_
  refine jn_w (fun v2 : Unit => WP X (gC D cI ad) 2 0 29 σ [(0, .ref (ad 28))] []) h (fun v2 h => ?_) (fun J3 hJ4 h => ?_)
  · refine w_aload_n C dX7_takeValley_29 rfl 0 rfl ?_
    refine w_iconst C 0 dX7_takeValley_30 rfl (by decide) ?_
    refine w_sipush C 9999 dX7_takeValley_31 rfl (by decide) ?_
    refine bd2_w h (fun r5 u6 hc h => ?_)
    refine w_callVi C (n := 2) (As := [.int 0, .int 9999]) (st := []) 28 (Nat.le_of_ble_eq_true rfl) rfl rfl (cfX7_takeNumber D cI ad (l := X.2.1) C.2.2.1 hc) tw3_195 cy_X7_takeNumber (by decide +kernel) ⟨Nat.le_of_ble_eq_true rfl, Nat.le_of_ble_eq_true rfl⟩ (by decide) rfl rfl (Nat.le_of_ble_eq_true rfl) dX7_takeValley_34 rfl ?_
    exact w_ri2 hr h (by decide) dX7_takeValley_37
  · refine w_icmp_eq C (qt := 29) dX7_takeValley_7 (by decide) rfl h (fun _ h => ?_) (fun _ h => ?_)
    · exact w_sub (lv' := [(0, .ref (ad 28))]) [1] rfl (hJ4 (()) h)
    · refine w_iload_n C dX7_takeValley_10 rfl 0 rfl ?_
      refine w_aload_n C dX7_takeValley_11 rfl 1 rfl ?_
      refine w_get C 28 0 (Nat.le_of_ble_eq_true rfl) rfl rfl inB_X7 (by decide) tw1_156 rfl dX7_takeValley_12 rfl ?_
      refine w_get C 15 0 (Nat.le_of_ble_eq_true rfl) rfl rfl inB_X0 (by decide) tw1_59 rfl dX7_takeValley_15 rfl ?_
      refine w_icmp_lt C (qt := 29) dX7_takeValley_18 (by decide) rfl h (fun _ h => ?_) (fun _ h => ?_)
      · exact w_sub (lv' := [(0, .ref (ad 28))]) [1] rfl (hJ4 (()) h)
      · refine w_aload_n C dX7_takeValley_21 rfl 1 rfl ?_
        refine w_iconst C 3 dX7_takeValley_22 rfl (by decide) ?_
        refine bd2_w h (fun r7 u8 hc h => ?_)
        refine w_callVi C (n := 1) (As := [.int 3]) (st := []) 28 (Nat.le_of_ble_eq_true rfl) rfl rfl (cfX7_refuse D cI ad (l := X.2.1) C.2.2.1 hc) tw3_191 cy_X7_refuse (by decide +kernel) ⟨Nat.le_of_ble_eq_true rfl, Nat.le_of_ble_eq_true rfl⟩ (by decide) rfl rfl (Nat.le_of_ble_eq_true rfl) dX7_takeValley_23 rfl ?_
        refine w_pop C rfl dX7_takeValley_26 rfl ?_
        refine w_iconst C (-1) dX7_takeValley_27 rfl (by decide) ?_
        exact w_ri2 hr h (by decide) dX7_takeValley_28
theorem cfX7_takeValley (D : va_G) (cI : ClassId) (ad : Nat → Nat) {l : Launch} (had : gAp (gC D cI ad)) {F : Nat} {σ : St}  {r : Int32} {σ' : St} (h : fX7_takeValley F σ = some (r, σ')) : MI l yX7_takeValley (wB yX7_takeValley cX7_takeValley 2 (some .int)) 3 68 (gC D cI ad) [.ref (ad 28)] σ r σ' := mk_MI had (by decide +kernel) (Nat.le_of_ble_eq_true rfl) (fun X hX C hr => wfX7_takeValley C hr h)

def fX0_joins (F : Nat) (σ : St) (a0 : Int32) (a1 : Int32) (a2 : Int32) : Option Int32 := ckI (a0) 8 (jn (fun v1 : Unit => ckI (a0) 8 (if (σ 17 (Int32.toNatClampNeg a0)) = a2 then (ckI (a0) 8 (if (σ 18 (Int32.toNatClampNeg a0)) = a1 then (some 1) else some 0)) else some 0)) fun J2 => if (σ 17 (Int32.toNatClampNeg a0)) = a1 then (ckI (a0) 8 (if (σ 18 (Int32.toNatClampNeg a0)) = a2 then (some 1) else J2 (()))) else J2 (()))
set_option maxRecDepth 20000 in
theorem wfX0_joins {X : XT} {D : va_G} {cI : ClassId} {ad : Nat → Nat} {F : Nat} {σ : St} {a0 : Int32} {a1 : Int32} {a2 : Int32} {r : Int32} (C : Cx X (gC D cI ad) cX0_joins 4 RX0 0 0 0) (hr : RetZ X (gC D cI ad) cX0_joins 4 0 r σ) (h : fX0_joins F σ a0 a1 a2 = some r) : WP X (gC D cI ad) 4 0 0 σ [(0, .ref (ad 15)), (1, .int a0), (2, .int a1), (3, .int a2)] [] := by
  unfold fX0_joins at h
  refine w_aload_n C dX0_joins_0 rfl 0 rfl ?_
  refine w_get C 15 6 (Nat.le_of_ble_eq_true rfl) rfl rfl inB_X0 (by decide) tw1_82 rfl dX0_joins_1 rfl ?_
  refine w_iload_n C dX0_joins_4 rfl 1 rfl ?_
  refine w_iald C 17 8 0 (Nat.le_of_ble_eq_true rfl) (fun _ => rfl) rfl h dX0_joins_5 rfl (fun h => ?_)
  refine w_iload_n C dX0_joins_6 rfl 2 rfl ?_
  refine jn_w (fun v1 : Unit => WP X (gC D cI ad) 4 0 20 σ [(0, .ref (ad 15)), (1, .int a0), (2, .int a1), (3, .int a2)] []) h (fun v1 h => ?_) (fun J2 hJ3 h => ?_)
  · refine w_aload_n C dX0_joins_20 rfl 0 rfl ?_
    refine w_get C 15 6 (Nat.le_of_ble_eq_true rfl) rfl rfl inB_X0 (by decide) tw1_82 rfl dX0_joins_21 rfl ?_
    refine w_iload_n C dX0_joins_24 rfl 1 rfl ?_
    refine w_iald C 17 8 0 (Nat.le_of_ble_eq_true rfl) (fun _ => rfl) rfl h dX0_joins_25 rfl (fun h => ?_)
    refine w_iload_n C dX0_joins_26 rfl 3 rfl ?_
    refine w_icmp_ne C (qt := 44) dX0_joins_27 (by decide) rfl h (fun _ h => ?_) (fun _ h => ?_)
    · refine w_iconst C 0 dX0_joins_44 rfl (by decide) ?_
      exact w_rz1 hr (by decide) h (by decide) dX0_joins_45
    · refine w_aload_n C dX0_joins_30 rfl 0 rfl ?_
      refine w_get C 15 7 (Nat.le_of_ble_eq_true rfl) rfl rfl inB_X0 (by decide) tw1_86 rfl dX0_joins_31 rfl ?_
      refine w_iload_n C dX0_joins_34 rfl 1 rfl ?_
      refine w_iald C 18 8 0 (Nat.le_of_ble_eq_true rfl) (fun _ => rfl) rfl h dX0_joins_35 rfl (fun h => ?_)
      refine w_iload_n C dX0_joins_36 rfl 2 rfl ?_
      refine w_icmp_ne C (qt := 44) dX0_joins_37 (by decide) rfl h (fun _ h => ?_) (fun _ h => ?_)
      · refine w_iconst C 0 dX0_joins_44 rfl (by decide) ?_
        exact w_rz1 hr (by decide) h (by decide) dX0_joins_45
      · refine w_iconst C 1 dX0_joins_40 rfl (by decide) ?_
        refine w_goto (q := 45) C dX0_joins_41 (by decide) ?_
        exact w_rz1 hr (by decide) h (by decide) dX0_joins_45
  · refine w_icmp_ne C (qt := 20) dX0_joins_7 (by decide) rfl h (fun _ h => ?_) (fun _ h => ?_)
    · exact w_sub (lv' := [(0, .ref (ad 15)), (1, .int a0), (2, .int a1), (3, .int a2)]) [0, 1, 2, 3] rfl (hJ3 (()) h)
    · refine w_aload_n C dX0_joins_10 rfl 0 rfl ?_
      refine w_get C 15 7 (Nat.le_of_ble_eq_true rfl) rfl rfl inB_X0 (by decide) tw1_86 rfl dX0_joins_11 rfl ?_
      refine w_iload_n C dX0_joins_14 rfl 1 rfl ?_
      refine w_iald C 18 8 0 (Nat.le_of_ble_eq_true rfl) (fun _ => rfl) rfl h dX0_joins_15 rfl (fun h => ?_)
      refine w_iload_n C dX0_joins_16 rfl 3 rfl ?_
      refine w_icmp_eq C (qt := 40) dX0_joins_17 (by decide) rfl h (fun _ h => ?_) (fun _ h => ?_)
      · refine w_iconst C 1 dX0_joins_40 rfl (by decide) ?_
        refine w_goto (q := 45) C dX0_joins_41 (by decide) ?_
        exact w_rz1 hr (by decide) h (by decide) dX0_joins_45
      · exact w_sub (lv' := [(0, .ref (ad 15)), (1, .int a0), (2, .int a1), (3, .int a2)]) [0, 1, 2, 3] rfl (hJ3 (()) h)
theorem cfX0_joins (D : va_G) (cI : ClassId) (ad : Nat → Nat) {l : Launch} (had : gAp (gC D cI ad)) {F : Nat} {σ : St} {a0 : Int32} {a1 : Int32} {a2 : Int32} {r : Int32} (h : fX0_joins F σ a0 a1 a2 = some r) : MI l yX0_joins (wB yX0_joins cX0_joins 4 (some .boolean)) 0 0 (gC D cI ad) [.ref (ad 15), .int a0, .int a1, .int a2] σ r σ := mk_MZ had (by decide +kernel) (Nat.le_of_ble_eq_true rfl) (fun X hX C hr => wfX0_joins C hr h)

def fX7_isIllPaired (F : Nat) (σ : St) (a0 : Int32) (a1 : Int32) : Option Int32 := jn (fun v1 : Int32 => lp (fun (K5 : (Int32 × Int32) → Option Int32) (v4 : Int32 × Int32) => if (σ 15 1) ≤ v4.1 then (ckB (v4.2) (some v4.2)) else if v4.2 = 0 then (bd1 (fX0_joins F σ v4.1 a0 a1) fun r7 => if r7 = 0 then (K5 ((v4.1 + 1, 0))) else K5 ((v4.1 + 1, 1))) else K5 ((v4.1 + 1, 1))) F ((0, v1))) fun J2 => if a0 = a1 then (J2 1) else J2 0
set_option maxRecDepth 20000 in
theorem wfX7_isIllPaired {X : XT} {D : va_G} {cI : ClassId} {ad : Nat → Nat} {F : Nat} {σ : St} {a0 : Int32} {a1 : Int32} {r : Int32} (C : Cx X (gC D cI ad) cX7_isIllPaired 5 RX7 1 23 0) (hr : RetZ X (gC D cI ad) cX7_isIllPaired 5 0 r σ) (h : fX7_isIllPaired F σ a0 a1 = some r) : WP X (gC D cI ad) 5 0 0 σ [(0, .ref (ad 28)), (1, .int a0), (2, .int a1)] [] := by
  unfold fX7_isIllPaired at h
  refine w_iload_n C dX7_isIllPaired_0 rfl 1 rfl ?_
  refine w_iload_n C dX7_isIllPaired_1 rfl 2 rfl ?_
  refine jn_w (fun v1 : Int32 => WP X (gC D cI ad) 5 0 10 σ [(0, .ref (ad 28)), (1, .int a0), (2, .int a1)] [.int v1]) h (fun v1 h => ?_) (fun J2 hJ3 h => ?_)
  · refine w_istore_n C [(3, .int v1), (0, .ref (ad 28)), (1, .int a0), (2, .int a1)] dX7_isIllPaired_10 rfl (by decide) rfl ?_
    refine w_iconst C 0 dX7_isIllPaired_11 rfl (by decide) ?_
    refine w_istore C [(4, .int 0), (3, .int v1), (0, .ref (ad 28)), (1, .int a0), (2, .int a1)] dX7_isIllPaired_12 rfl (by decide) rfl ?_
    refine w_sub (lv' := [(4, .int 0), (3, .int v1), (0, .ref (ad 28)), (1, .int a0), (2, .int a1)]) [0, 1, 2, 3, 4] rfl ?_
    refine lp_w (fun v4 : Int32 × Int32 => WP X (gC D cI ad) 5 0 14 σ [(4, .int v4.1), (3, .int v4.2), (0, .ref (ad 28)), (1, .int a0), (2, .int a1)] []) (fun K5 hK6 v4 h => ?_) F _ h
    refine w_iload C dX7_isIllPaired_14 rfl 0 rfl ?_
    refine w_aload_n C dX7_isIllPaired_16 rfl 2 rfl ?_
    refine w_get C 28 0 (Nat.le_of_ble_eq_true rfl) rfl rfl inB_X7 (by decide) tw1_156 rfl dX7_isIllPaired_17 rfl ?_
    refine w_get C 15 1 (Nat.le_of_ble_eq_true rfl) rfl rfl inB_X0 (by decide) tw1_66 rfl dX7_isIllPaired_20 rfl ?_
    refine w_icmp_ge C (qt := 56) dX7_isIllPaired_23 (by decide) rfl h (fun _ h => ?_) (fun _ h => ?_)
    · refine w_iload_n C dX7_isIllPaired_56 rfl 1 rfl ?_
      obtain ⟨hz, h⟩ := ckB_w h
      exact w_rz1 hr hz h (by decide) dX7_isIllPaired_57
    · refine w_iload_n C dX7_isIllPaired_26 rfl 1 rfl ?_
      refine w_if_ne C (qt := 44) dX7_isIllPaired_27 (by decide) rfl h (fun _ h => ?_) (fun _ h => ?_)
      · refine w_iconst C 1 dX7_isIllPaired_44 rfl (by decide) ?_
        refine w_goto (q := 49) C dX7_isIllPaired_45 (by decide) ?_
        refine w_istore_n C [(3, .int 1), (4, .int v4.1), (0, .ref (ad 28)), (1, .int a0), (2, .int a1)] dX7_isIllPaired_49 rfl (by decide) rfl ?_
        refine w_iinc (j := 1) C (v4.1 + 1) [(4, .int (v4.1 + 1)), (3, .int 1), (0, .ref (ad 28)), (1, .int a0), (2, .int a1)] dX7_isIllPaired_50 rfl rfl rfl (by decide) rfl ?_
        refine w_goto (q := 14) C dX7_isIllPaired_53 (by decide) ?_
        exact w_sub (lv' := [(4, .int (v4.1 + 1)), (3, .int 1), (0, .ref (ad 28)), (1, .int a0), (2, .int a1)]) [0, 1, 2, 3, 4] rfl (hK6 ((v4.1 + 1, 1)) h)
      · refine w_aload_n C dX7_isIllPaired_30 rfl 2 rfl ?_
        refine w_get C 28 0 (Nat.le_of_ble_eq_true rfl) rfl rfl inB_X7 (by decide) tw1_156 rfl dX7_isIllPaired_31 rfl ?_
        refine w_iload C dX7_isIllPaired_34 rfl 0 rfl ?_
        refine w_iload_n C dX7_isIllPaired_36 rfl 3 rfl ?_
        refine w_iload_n C dX7_isIllPaired_37 rfl 4 rfl ?_
        refine bd1_w h (fun r7 hc h => ?_)
        refine w_callVi C (n := 3) (As := [.int v4.1, .int a0, .int a1]) (st := []) 15 (Nat.le_of_ble_eq_true rfl) rfl rfl (cfX0_joins D cI ad (l := X.2.1) C.2.2.1 hc) tw3_216 cy_X0_joins (by decide +kernel) ⟨Nat.le_of_ble_eq_true rfl, Nat.le_of_ble_eq_true rfl⟩ (by decide) rfl rfl (Nat.le_of_ble_eq_true rfl) dX7_isIllPaired_38 rfl ?_
        refine w_if_eq C (qt := 48) dX7_isIllPaired_41 (by decide) rfl h (fun _ h => ?_) (fun _ h => ?_)
        · refine w_iconst C 0 dX7_isIllPaired_48 rfl (by decide) ?_
          refine w_istore_n C [(3, .int 0), (4, .int v4.1), (0, .ref (ad 28)), (1, .int a0), (2, .int a1)] dX7_isIllPaired_49 rfl (by decide) rfl ?_
          refine w_iinc (j := 1) C (v4.1 + 1) [(4, .int (v4.1 + 1)), (3, .int 0), (0, .ref (ad 28)), (1, .int a0), (2, .int a1)] dX7_isIllPaired_50 rfl rfl rfl (by decide) rfl ?_
          refine w_goto (q := 14) C dX7_isIllPaired_53 (by decide) ?_
          exact w_sub (lv' := [(4, .int (v4.1 + 1)), (3, .int 0), (0, .ref (ad 28)), (1, .int a0), (2, .int a1)]) [0, 1, 2, 3, 4] rfl (hK6 ((v4.1 + 1, 0)) h)
        · refine w_iconst C 1 dX7_isIllPaired_44 rfl (by decide) ?_
          refine w_goto (q := 49) C dX7_isIllPaired_45 (by decide) ?_
          refine w_istore_n C [(3, .int 1), (4, .int v4.1), (0, .ref (ad 28)), (1, .int a0), (2, .int a1)] dX7_isIllPaired_49 rfl (by decide) rfl ?_
          refine w_iinc (j := 1) C (v4.1 + 1) [(4, .int (v4.1 + 1)), (3, .int 1), (0, .ref (ad 28)), (1, .int a0), (2, .int a1)] dX7_isIllPaired_50 rfl rfl rfl (by decide) rfl ?_
          refine w_goto (q := 14) C dX7_isIllPaired_53 (by decide) ?_
          exact w_sub (lv' := [(4, .int (v4.1 + 1)), (3, .int 1), (0, .ref (ad 28)), (1, .int a0), (2, .int a1)]) [0, 1, 2, 3, 4] rfl (hK6 ((v4.1 + 1, 1)) h)
  · refine w_icmp_ne C (qt := 9) dX7_isIllPaired_2 (by decide) rfl h (fun _ h => ?_) (fun _ h => ?_)
    · refine w_iconst C 0 dX7_isIllPaired_9 rfl (by decide) ?_
      exact w_sub (lv' := [(0, .ref (ad 28)), (1, .int a0), (2, .int a1)]) [0, 1, 2] rfl (hJ3 0 h)
    · refine w_iconst C 1 dX7_isIllPaired_5 rfl (by decide) ?_
      refine w_goto (q := 10) C dX7_isIllPaired_6 (by decide) ?_
      exact w_sub (lv' := [(0, .ref (ad 28)), (1, .int a0), (2, .int a1)]) [0, 1, 2] rfl (hJ3 1 h)
theorem cfX7_isIllPaired (D : va_G) (cI : ClassId) (ad : Nat → Nat) {l : Launch} (had : gAp (gC D cI ad)) {F : Nat} {σ : St} {a0 : Int32} {a1 : Int32} {r : Int32} (h : fX7_isIllPaired F σ a0 a1 = some r) : MI l yX7_isIllPaired (wB yX7_isIllPaired cX7_isIllPaired 5 (some .boolean)) 1 23 (gC D cI ad) [.ref (ad 28), .int a0, .int a1] σ r σ := mk_MZ had (by decide +kernel) (Nat.le_of_ble_eq_true rfl) (fun X hX C hr => wfX7_isIllPaired C hr h)

def fX7_readDance (F : Nat) (σ : St) : Option (Int32 × St) := if (σ 15 1) < (8 : Int32) then (bd1 (fX7_nextToken F σ) fun u1 => bd2 (fX7_takeValley F u1) fun r2 u3 => if r2 = (-1 : Int32) then (some (0, u3)) else bd1 (fX7_numberHere F u3) fun r4 => bd1 (fX7_isIllPaired F u3 r2 r4) fun r5 => if r5 = 0 then (bd2 (fX7_takeValley F u3) fun r6 u7 => if r6 = (-1 : Int32) then (some (0, u7)) else bd2 (fX7_takeNumber F u7 1 4) fun r8 u9 => if r8 = (-1 : Int32) then (some (0, u9)) else ckI (u9 15 1) 8 (nm (up u9 17 (Int32.toNatClampNeg (u9 15 1)) r2) fun u10 => ckI (u10 15 1) 8 (nm (up u10 18 (Int32.toNatClampNeg (u10 15 1)) r6) fun u11 => ckI (u11 15 1) 8 (nm (up u11 19 (Int32.toNatClampNeg (u11 15 1)) r8) fun u12 => ckI (u12 15 1) 8 (nm (up u12 20 (Int32.toNatClampNeg (u12 15 1)) 0) fun u13 => nm (up u13 15 1 ((u13 15 1) + 1)) fun u15 => some (1, u15)))))) else bd2 (fX7_refuse F u3 4) fun r16 u17 => ckB (r16) (some (r16, u17))) else bd2 (fX7_refuse F σ 2) fun r18 u19 => ckB (r18) (some (r18, u19))
set_option maxRecDepth 20000 in
theorem wfX7_readDance {X : XT} {D : va_G} {cI : ClassId} {ad : Nat → Nat} {F : Nat} {σ : St}  {r : Int32} {σ' : St} (C : Cx X (gC D cI ad) cX7_readDance 4 RX7 4 89 0) (hr : RetZ X (gC D cI ad) cX7_readDance 4 0 r σ') (h : fX7_readDance F σ = some (r, σ')) : WP X (gC D cI ad) 4 0 0 σ [(0, .ref (ad 28))] [] := by
  unfold fX7_readDance at h
  refine w_aload_n C dX7_readDance_0 rfl 0 rfl ?_
  refine w_get C 28 0 (Nat.le_of_ble_eq_true rfl) rfl rfl inB_X7 (by decide) tw1_156 rfl dX7_readDance_1 rfl ?_
  refine w_get C 15 1 (Nat.le_of_ble_eq_true rfl) rfl rfl inB_X0 (by decide) tw1_66 rfl dX7_readDance_4 rfl ?_
  refine w_bipush C 8 dX7_readDance_7 rfl (by decide) ?_
  refine w_icmp_lt C (qt := 18) dX7_readDance_9 (by decide) rfl h (fun _ h => ?_) (fun _ h => ?_)
  · refine w_aload_n C dX7_readDance_18 rfl 0 rfl ?_
    refine bd1_w h (fun u1 hc h => ?_)
    refine w_callVv C (n := 0) (As := []) (st := []) 28 (Nat.le_of_ble_eq_true rfl) rfl rfl (cfX7_nextToken D cI ad (l := X.2.1) C.2.2.1 hc) tw3_118 cy_X7_nextToken (by decide +kernel) ⟨Nat.le_of_ble_eq_true rfl, Nat.le_of_ble_eq_true rfl⟩ (by decide) rfl rfl (Nat.le_of_ble_eq_true rfl) dX7_readDance_19 rfl ?_
    refine w_aload_n C dX7_readDance_22 rfl 0 rfl ?_
    refine bd2_w h (fun r2 u3 hc h => ?_)
    refine w_callVi C (n := 0) (As := []) (st := []) 28 (Nat.le_of_ble_eq_true rfl) rfl rfl (cfX7_takeValley D cI ad (l := X.2.1) C.2.2.1 hc) tw3_208 cy_X7_takeValley (by decide +kernel) ⟨Nat.le_of_ble_eq_true rfl, Nat.le_of_ble_eq_true rfl⟩ (by decide) rfl rfl (Nat.le_of_ble_eq_true rfl) dX7_readDance_23 rfl ?_
    refine w_istore_n C [(1, .int r2), (0, .ref (ad 28))] dX7_readDance_26 rfl (by decide) rfl ?_
    refine w_iload_n C dX7_readDance_27 rfl 0 rfl ?_
    refine w_iconst C (-1) dX7_readDance_28 rfl (by decide) ?_
    refine w_icmp_ne C (qt := 34) dX7_readDance_29 (by decide) rfl h (fun _ h => ?_) (fun _ h => ?_)
    · refine w_aload_n C dX7_readDance_34 rfl 1 rfl ?_
      refine w_iload_n C dX7_readDance_35 rfl 0 rfl ?_
      refine w_aload_n C dX7_readDance_36 rfl 1 rfl ?_
      refine bd1_w h (fun r4 hc h => ?_)
      refine w_callVi C (n := 0) (As := []) (st := [.int r2, .ref (ad 28)]) 28 (Nat.le_of_ble_eq_true rfl) rfl rfl (cfX7_numberHere D cI ad (l := X.2.1) C.2.2.1 hc) tw3_199 cy_X7_numberHere (by decide +kernel) ⟨Nat.le_of_ble_eq_true rfl, Nat.le_of_ble_eq_true rfl⟩ (by decide) rfl rfl (Nat.le_of_ble_eq_true rfl) dX7_readDance_37 rfl ?_
      refine bd1_w h (fun r5 hc h => ?_)
      refine w_callVi C (n := 2) (As := [.int r2, .int r4]) (st := []) 28 (Nat.le_of_ble_eq_true rfl) rfl rfl (cfX7_isIllPaired D cI ad (l := X.2.1) C.2.2.1 hc) tw3_212 cy_X7_isIllPaired (by decide +kernel) ⟨Nat.le_of_ble_eq_true rfl, Nat.le_of_ble_eq_true rfl⟩ (by decide) rfl rfl (Nat.le_of_ble_eq_true rfl) dX7_readDance_40 rfl ?_
      refine w_if_eq C (qt := 52) dX7_readDance_43 (by decide) rfl h (fun _ h => ?_) (fun _ h => ?_)
      · refine w_aload_n C dX7_readDance_52 rfl 1 rfl ?_
        refine bd2_w h (fun r6 u7 hc h => ?_)
        refine w_callVi C (n := 0) (As := []) (st := []) 28 (Nat.le_of_ble_eq_true rfl) rfl rfl (cfX7_takeValley D cI ad (l := X.2.1) C.2.2.1 hc) tw3_208 cy_X7_takeValley (by decide +kernel) ⟨Nat.le_of_ble_eq_true rfl, Nat.le_of_ble_eq_true rfl⟩ (by decide) rfl rfl (Nat.le_of_ble_eq_true rfl) dX7_readDance_53 rfl ?_
        refine w_istore_n C [(2, .int r6), (1, .int r2), (0, .ref (ad 28))] dX7_readDance_56 rfl (by decide) rfl ?_
        refine w_iload_n C dX7_readDance_57 rfl 0 rfl ?_
        refine w_iconst C (-1) dX7_readDance_58 rfl (by decide) ?_
        refine w_icmp_ne C (qt := 64) dX7_readDance_59 (by decide) rfl h (fun _ h => ?_) (fun _ h => ?_)
        · refine w_aload_n C dX7_readDance_64 rfl 2 rfl ?_
          refine w_iconst C 1 dX7_readDance_65 rfl (by decide) ?_
          refine w_iconst C 4 dX7_readDance_66 rfl (by decide) ?_
          refine bd2_w h (fun r8 u9 hc h => ?_)
          refine w_callVi C (n := 2) (As := [.int 1, .int 4]) (st := []) 28 (Nat.le_of_ble_eq_true rfl) rfl rfl (cfX7_takeNumber D cI ad (l := X.2.1) C.2.2.1 hc) tw3_195 cy_X7_takeNumber (by decide +kernel) ⟨Nat.le_of_ble_eq_true rfl, Nat.le_of_ble_eq_true rfl⟩ (by decide) rfl rfl (Nat.le_of_ble_eq_true rfl) dX7_readDance_67 rfl ?_
          refine w_istore_n C [(3, .int r8), (2, .int r6), (1, .int r2), (0, .ref (ad 28))] dX7_readDance_70 rfl (by decide) rfl ?_
          refine w_iload_n C dX7_readDance_71 rfl 0 rfl ?_
          refine w_iconst C (-1) dX7_readDance_72 rfl (by decide) ?_
          refine w_icmp_ne C (qt := 78) dX7_readDance_73 (by decide) rfl h (fun _ h => ?_) (fun _ h => ?_)
          · refine w_aload_n C dX7_readDance_78 rfl 3 rfl ?_
            refine w_get C 28 0 (Nat.le_of_ble_eq_true rfl) rfl rfl inB_X7 (by decide) tw1_156 rfl dX7_readDance_79 rfl ?_
            refine w_get C 15 6 (Nat.le_of_ble_eq_true rfl) rfl rfl inB_X0 (by decide) tw1_83 rfl dX7_readDance_82 rfl ?_
            refine w_aload_n C dX7_readDance_85 rfl 3 rfl ?_
            refine w_get C 28 0 (Nat.le_of_ble_eq_true rfl) rfl rfl inB_X7 (by decide) tw1_156 rfl dX7_readDance_86 rfl ?_
            refine w_get C 15 1 (Nat.le_of_ble_eq_true rfl) rfl rfl inB_X0 (by decide) tw1_66 rfl dX7_readDance_89 rfl ?_
            refine w_iload_n C dX7_readDance_92 rfl 2 rfl ?_
            refine w_iast C 17 8 0 (Nat.le_of_ble_eq_true rfl) (fun _ => rfl) rfl h dX7_readDance_93 rfl (fun h => ?_)
            refine w_nst h (fun u10 h => ?_)
            refine w_aload_n C dX7_readDance_94 rfl 3 rfl ?_
            refine w_get C 28 0 (Nat.le_of_ble_eq_true rfl) rfl rfl inB_X7 (by decide) tw1_156 rfl dX7_readDance_95 rfl ?_
            refine w_get C 15 7 (Nat.le_of_ble_eq_true rfl) rfl rfl inB_X0 (by decide) tw1_87 rfl dX7_readDance_98 rfl ?_
            refine w_aload_n C dX7_readDance_101 rfl 3 rfl ?_
            refine w_get C 28 0 (Nat.le_of_ble_eq_true rfl) rfl rfl inB_X7 (by decide) tw1_156 rfl dX7_readDance_102 rfl ?_
            refine w_get C 15 1 (Nat.le_of_ble_eq_true rfl) rfl rfl inB_X0 (by decide) tw1_66 rfl dX7_readDance_105 rfl ?_
            refine w_iload_n C dX7_readDance_108 rfl 1 rfl ?_
            refine w_iast C 18 8 0 (Nat.le_of_ble_eq_true rfl) (fun _ => rfl) rfl h dX7_readDance_109 rfl (fun h => ?_)
            refine w_nst h (fun u11 h => ?_)
            refine w_aload_n C dX7_readDance_110 rfl 3 rfl ?_
            refine w_get C 28 0 (Nat.le_of_ble_eq_true rfl) rfl rfl inB_X7 (by decide) tw1_156 rfl dX7_readDance_111 rfl ?_
            refine w_get C 15 8 (Nat.le_of_ble_eq_true rfl) rfl rfl inB_X0 (by decide) tw1_92 rfl dX7_readDance_114 rfl ?_
            refine w_aload_n C dX7_readDance_117 rfl 3 rfl ?_
            refine w_get C 28 0 (Nat.le_of_ble_eq_true rfl) rfl rfl inB_X7 (by decide) tw1_156 rfl dX7_readDance_118 rfl ?_
            refine w_get C 15 1 (Nat.le_of_ble_eq_true rfl) rfl rfl inB_X0 (by decide) tw1_66 rfl dX7_readDance_121 rfl ?_
            refine w_iload_n C dX7_readDance_124 rfl 0 rfl ?_
            refine w_iast C 19 8 0 (Nat.le_of_ble_eq_true rfl) (fun _ => rfl) rfl h dX7_readDance_125 rfl (fun h => ?_)
            refine w_nst h (fun u12 h => ?_)
            refine w_aload_n C dX7_readDance_126 rfl 3 rfl ?_
            refine w_get C 28 0 (Nat.le_of_ble_eq_true rfl) rfl rfl inB_X7 (by decide) tw1_156 rfl dX7_readDance_127 rfl ?_
            refine w_get C 15 9 (Nat.le_of_ble_eq_true rfl) rfl rfl inB_X0 (by decide) tw1_98 rfl dX7_readDance_130 rfl ?_
            refine w_aload_n C dX7_readDance_133 rfl 3 rfl ?_
            refine w_get C 28 0 (Nat.le_of_ble_eq_true rfl) rfl rfl inB_X7 (by decide) tw1_156 rfl dX7_readDance_134 rfl ?_
            refine w_get C 15 1 (Nat.le_of_ble_eq_true rfl) rfl rfl inB_X0 (by decide) tw1_66 rfl dX7_readDance_137 rfl ?_
            refine w_iconst C 0 dX7_readDance_140 rfl (by decide) ?_
            refine w_iast C 20 8 0 (Nat.le_of_ble_eq_true rfl) (fun _ => rfl) rfl h dX7_readDance_141 rfl (fun h => ?_)
            refine w_nst h (fun u13 h => ?_)
            refine w_aload_n C dX7_readDance_142 rfl 3 rfl ?_
            refine w_get C 28 0 (Nat.le_of_ble_eq_true rfl) rfl rfl inB_X7 (by decide) tw1_156 rfl dX7_readDance_143 rfl ?_
            refine w_dup C rfl dX7_readDance_146 rfl ?_
            refine w_get C 15 1 (Nat.le_of_ble_eq_true rfl) rfl rfl inB_X0 (by decide) tw1_66 rfl dX7_readDance_147 rfl ?_
            refine w_iconst C 1 dX7_readDance_150 rfl (by decide) ?_
            refine w_iadd C dX7_readDance_151 rfl ?_
            refine w_put C 15 1 ((u13 15 1) + 1) (Nat.le_of_ble_eq_true rfl) rfl rfl inB_X0 tyX0_ok nmX0 (by decide) tw1_66 rfl rfl rfl (Nat.le_of_ble_eq_true rfl) rfl dX7_readDance_152 rfl ?_
            refine w_nst h (fun u15 h => ?_)
            refine w_iconst C 1 dX7_readDance_155 rfl (by decide) ?_
            exact w_rz2 hr (by decide) h (by decide) dX7_readDance_156
          · refine w_iconst C 0 dX7_readDance_76 rfl (by decide) ?_
            exact w_rz2 hr (by decide) h (by decide) dX7_readDance_77
        · refine w_iconst C 0 dX7_readDance_62 rfl (by decide) ?_
          exact w_rz2 hr (by decide) h (by decide) dX7_readDance_63
      · refine w_aload_n C dX7_readDance_46 rfl 1 rfl ?_
        refine w_iconst C 4 dX7_readDance_47 rfl (by decide) ?_
        refine bd2_w h (fun r16 u17 hc h => ?_)
        refine w_callVi C (n := 1) (As := [.int 4]) (st := []) 28 (Nat.le_of_ble_eq_true rfl) rfl rfl (cfX7_refuse D cI ad (l := X.2.1) C.2.2.1 hc) tw3_191 cy_X7_refuse (by decide +kernel) ⟨Nat.le_of_ble_eq_true rfl, Nat.le_of_ble_eq_true rfl⟩ (by decide) rfl rfl (Nat.le_of_ble_eq_true rfl) dX7_readDance_48 rfl ?_
        obtain ⟨hz, h⟩ := ckB_w h
        exact w_rz2 hr hz h (by decide) dX7_readDance_51
    · refine w_iconst C 0 dX7_readDance_32 rfl (by decide) ?_
      exact w_rz2 hr (by decide) h (by decide) dX7_readDance_33
  · refine w_aload_n C dX7_readDance_12 rfl 0 rfl ?_
    refine w_iconst C 2 dX7_readDance_13 rfl (by decide) ?_
    refine bd2_w h (fun r18 u19 hc h => ?_)
    refine w_callVi C (n := 1) (As := [.int 2]) (st := []) 28 (Nat.le_of_ble_eq_true rfl) rfl rfl (cfX7_refuse D cI ad (l := X.2.1) C.2.2.1 hc) tw3_191 cy_X7_refuse (by decide +kernel) ⟨Nat.le_of_ble_eq_true rfl, Nat.le_of_ble_eq_true rfl⟩ (by decide) rfl rfl (Nat.le_of_ble_eq_true rfl) dX7_readDance_14 rfl ?_
    obtain ⟨hz, h⟩ := ckB_w h
    exact w_rz2 hr hz h (by decide) dX7_readDance_17
theorem cfX7_readDance (D : va_G) (cI : ClassId) (ad : Nat → Nat) {l : Launch} (had : gAp (gC D cI ad)) {F : Nat} {σ : St}  {r : Int32} {σ' : St} (h : fX7_readDance F σ = some (r, σ')) : MI l yX7_readDance (wB yX7_readDance cX7_readDance 4 (some .boolean)) 4 89 (gC D cI ad) [.ref (ad 28)] σ r σ' := mk_MZ had (by decide +kernel) (Nat.le_of_ble_eq_true rfl) (fun X hX C hr => wfX7_readDance C hr h)

def fX7_readValley (F : Nat) (σ : St) : Option (Int32 × St) := if (σ 15 0) < (6 : Int32) then (bd1 (fX7_nextToken F σ) fun u1 => bd2 (fX7_takeNumber F u1 0 9) fun r2 u3 => if r2 = (-1 : Int32) then (some (0, u3)) else ckI (u3 15 0) 6 (nm (up u3 16 (Int32.toNatClampNeg (u3 15 0)) r2) fun u4 => nm (up u4 15 0 ((u4 15 0) + 1)) fun u6 => some (1, u6))) else bd2 (fX7_refuse F σ 2) fun r7 u8 => ckB (r7) (some (r7, u8))
set_option maxRecDepth 20000 in
theorem wfX7_readValley {X : XT} {D : va_G} {cI : ClassId} {ad : Nat → Nat} {F : Nat} {σ : St}  {r : Int32} {σ' : St} (C : Cx X (gC D cI ad) cX7_readValley 2 RX7 3 68 0) (hr : RetZ X (gC D cI ad) cX7_readValley 2 0 r σ') (h : fX7_readValley F σ = some (r, σ')) : WP X (gC D cI ad) 2 0 0 σ [(0, .ref (ad 28))] [] := by
  unfold fX7_readValley at h
  refine w_aload_n C dX7_readValley_0 rfl 0 rfl ?_
  refine w_get C 28 0 (Nat.le_of_ble_eq_true rfl) rfl rfl inB_X7 (by decide) tw1_156 rfl dX7_readValley_1 rfl ?_
  refine w_get C 15 0 (Nat.le_of_ble_eq_true rfl) rfl rfl inB_X0 (by decide) tw1_59 rfl dX7_readValley_4 rfl ?_
  refine w_bipush C 6 dX7_readValley_7 rfl (by decide) ?_
  refine w_icmp_lt C (qt := 18) dX7_readValley_9 (by decide) rfl h (fun _ h => ?_) (fun _ h => ?_)
  · refine w_aload_n C dX7_readValley_18 rfl 0 rfl ?_
    refine bd1_w h (fun u1 hc h => ?_)
    refine w_callVv C (n := 0) (As := []) (st := []) 28 (Nat.le_of_ble_eq_true rfl) rfl rfl (cfX7_nextToken D cI ad (l := X.2.1) C.2.2.1 hc) tw3_118 cy_X7_nextToken (by decide +kernel) ⟨Nat.le_of_ble_eq_true rfl, Nat.le_of_ble_eq_true rfl⟩ (by decide) rfl rfl (Nat.le_of_ble_eq_true rfl) dX7_readValley_19 rfl ?_
    refine w_aload_n C dX7_readValley_22 rfl 0 rfl ?_
    refine w_iconst C 0 dX7_readValley_23 rfl (by decide) ?_
    refine w_bipush C 9 dX7_readValley_24 rfl (by decide) ?_
    refine bd2_w h (fun r2 u3 hc h => ?_)
    refine w_callVi C (n := 2) (As := [.int 0, .int 9]) (st := []) 28 (Nat.le_of_ble_eq_true rfl) rfl rfl (cfX7_takeNumber D cI ad (l := X.2.1) C.2.2.1 hc) tw3_195 cy_X7_takeNumber (by decide +kernel) ⟨Nat.le_of_ble_eq_true rfl, Nat.le_of_ble_eq_true rfl⟩ (by decide) rfl rfl (Nat.le_of_ble_eq_true rfl) dX7_readValley_26 rfl ?_
    refine w_istore_n C [(1, .int r2), (0, .ref (ad 28))] dX7_readValley_29 rfl (by decide) rfl ?_
    refine w_iload_n C dX7_readValley_30 rfl 0 rfl ?_
    refine w_iconst C (-1) dX7_readValley_31 rfl (by decide) ?_
    refine w_icmp_ne C (qt := 37) dX7_readValley_32 (by decide) rfl h (fun _ h => ?_) (fun _ h => ?_)
    · refine w_aload_n C dX7_readValley_37 rfl 1 rfl ?_
      refine w_get C 28 0 (Nat.le_of_ble_eq_true rfl) rfl rfl inB_X7 (by decide) tw1_156 rfl dX7_readValley_38 rfl ?_
      refine w_get C 15 5 (Nat.le_of_ble_eq_true rfl) rfl rfl inB_X0 (by decide) tw1_80 rfl dX7_readValley_41 rfl ?_
      refine w_aload_n C dX7_readValley_44 rfl 1 rfl ?_
      refine w_get C 28 0 (Nat.le_of_ble_eq_true rfl) rfl rfl inB_X7 (by decide) tw1_156 rfl dX7_readValley_45 rfl ?_
      refine w_get C 15 0 (Nat.le_of_ble_eq_true rfl) rfl rfl inB_X0 (by decide) tw1_59 rfl dX7_readValley_48 rfl ?_
      refine w_iload_n C dX7_readValley_51 rfl 0 rfl ?_
      refine w_iast C 16 6 0 (Nat.le_of_ble_eq_true rfl) (fun _ => rfl) rfl h dX7_readValley_52 rfl (fun h => ?_)
      refine w_nst h (fun u4 h => ?_)
      refine w_aload_n C dX7_readValley_53 rfl 1 rfl ?_
      refine w_get C 28 0 (Nat.le_of_ble_eq_true rfl) rfl rfl inB_X7 (by decide) tw1_156 rfl dX7_readValley_54 rfl ?_
      refine w_dup C rfl dX7_readValley_57 rfl ?_
      refine w_get C 15 0 (Nat.le_of_ble_eq_true rfl) rfl rfl inB_X0 (by decide) tw1_59 rfl dX7_readValley_58 rfl ?_
      refine w_iconst C 1 dX7_readValley_61 rfl (by decide) ?_
      refine w_iadd C dX7_readValley_62 rfl ?_
      refine w_put C 15 0 ((u4 15 0) + 1) (Nat.le_of_ble_eq_true rfl) rfl rfl inB_X0 tyX0_ok nmX0 (by decide) tw1_59 rfl rfl rfl (Nat.le_of_ble_eq_true rfl) rfl dX7_readValley_63 rfl ?_
      refine w_nst h (fun u6 h => ?_)
      refine w_iconst C 1 dX7_readValley_66 rfl (by decide) ?_
      exact w_rz2 hr (by decide) h (by decide) dX7_readValley_67
    · refine w_iconst C 0 dX7_readValley_35 rfl (by decide) ?_
      exact w_rz2 hr (by decide) h (by decide) dX7_readValley_36
  · refine w_aload_n C dX7_readValley_12 rfl 0 rfl ?_
    refine w_iconst C 2 dX7_readValley_13 rfl (by decide) ?_
    refine bd2_w h (fun r7 u8 hc h => ?_)
    refine w_callVi C (n := 1) (As := [.int 2]) (st := []) 28 (Nat.le_of_ble_eq_true rfl) rfl rfl (cfX7_refuse D cI ad (l := X.2.1) C.2.2.1 hc) tw3_191 cy_X7_refuse (by decide +kernel) ⟨Nat.le_of_ble_eq_true rfl, Nat.le_of_ble_eq_true rfl⟩ (by decide) rfl rfl (Nat.le_of_ble_eq_true rfl) dX7_readValley_14 rfl ?_
    obtain ⟨hz, h⟩ := ckB_w h
    exact w_rz2 hr hz h (by decide) dX7_readValley_17
theorem cfX7_readValley (D : va_G) (cI : ClassId) (ad : Nat → Nat) {l : Launch} (had : gAp (gC D cI ad)) {F : Nat} {σ : St}  {r : Int32} {σ' : St} (h : fX7_readValley F σ = some (r, σ')) : MI l yX7_readValley (wB yX7_readValley cX7_readValley 2 (some .boolean)) 3 68 (gC D cI ad) [.ref (ad 28)] σ r σ' := mk_MZ had (by decide +kernel) (Nat.le_of_ble_eq_true rfl) (fun X hX C hr => wfX7_readValley C hr h)

def fX7_readLine (F : Nat) (σ : St) : Option (Int32 × St) := bd1 (fX7_isWord F σ 13) fun r1 => if r1 = 0 then (bd1 (fX7_isWord F σ 14) fun r2 => if r2 = 0 then (bd1 (fX7_isWord F σ 15) fun r3 => if r3 = 0 then (bd1 (fX7_isWord F σ 16) fun r4 => if r4 = 0 then (bd2 (fX7_readStep F σ) fun r5 u6 => ckB (r5) (some (r5, u6))) else bd2 (fX7_readLimit F σ) fun r7 u8 => ckB (r7) (some (r7, u8))) else bd2 (fX7_readFloor F σ) fun r9 u10 => ckB (r9) (some (r9, u10))) else bd2 (fX7_readDance F σ) fun r11 u12 => ckB (r11) (some (r11, u12))) else bd2 (fX7_readValley F σ) fun r13 u14 => ckB (r13) (some (r13, u14))
set_option maxRecDepth 20000 in
theorem wfX7_readLine {X : XT} {D : va_G} {cI : ClassId} {ad : Nat → Nat} {F : Nat} {σ : St}  {r : Int32} {σ' : St} (C : Cx X (gC D cI ad) cX7_readLine 1 RX7 122 2662 0) (hr : RetZ X (gC D cI ad) cX7_readLine 1 0 r σ') (h : fX7_readLine F σ = some (r, σ')) : WP X (gC D cI ad) 1 0 0 σ [(0, .ref (ad 28))] [] := by
  unfold fX7_readLine at h
  refine w_aload_n C dX7_readLine_0 rfl 0 rfl ?_
  refine w_ldcS C (tx := "valley") 13 (by decide) dX7_readLine_1 rfl ?_
  refine bd1_w h (fun r1 hc h => ?_)
  refine w_callVi C (n := 1) (As := [.ref (ad (1100 + 13))]) (st := []) 28 (Nat.le_of_ble_eq_true rfl) rfl rfl (cfX7_isWord D cI ad (l := X.2.1) C.2.2.1 hc) tw3_131 cy_X7_isWord (by decide +kernel) ⟨Nat.le_of_ble_eq_true rfl, Nat.le_of_ble_eq_true rfl⟩ (by decide) rfl rfl (Nat.le_of_ble_eq_true rfl) dX7_readLine_3 rfl ?_
  refine w_if_eq C (qt := 14) dX7_readLine_6 (by decide) rfl h (fun _ h => ?_) (fun _ h => ?_)
  · refine w_aload_n C dX7_readLine_14 rfl 0 rfl ?_
    refine w_ldcS C (tx := "dance") 14 (by decide) dX7_readLine_15 rfl ?_
    refine bd1_w h (fun r2 hc h => ?_)
    refine w_callVi C (n := 1) (As := [.ref (ad (1100 + 14))]) (st := []) 28 (Nat.le_of_ble_eq_true rfl) rfl rfl (cfX7_isWord D cI ad (l := X.2.1) C.2.2.1 hc) tw3_131 cy_X7_isWord (by decide +kernel) ⟨Nat.le_of_ble_eq_true rfl, Nat.le_of_ble_eq_true rfl⟩ (by decide) rfl rfl (Nat.le_of_ble_eq_true rfl) dX7_readLine_17 rfl ?_
    refine w_if_eq C (qt := 28) dX7_readLine_20 (by decide) rfl h (fun _ h => ?_) (fun _ h => ?_)
    · refine w_aload_n C dX7_readLine_28 rfl 0 rfl ?_
      refine w_ldcS C (tx := "floor") 15 (by decide) dX7_readLine_29 rfl ?_
      refine bd1_w h (fun r3 hc h => ?_)
      refine w_callVi C (n := 1) (As := [.ref (ad (1100 + 15))]) (st := []) 28 (Nat.le_of_ble_eq_true rfl) rfl rfl (cfX7_isWord D cI ad (l := X.2.1) C.2.2.1 hc) tw3_131 cy_X7_isWord (by decide +kernel) ⟨Nat.le_of_ble_eq_true rfl, Nat.le_of_ble_eq_true rfl⟩ (by decide) rfl rfl (Nat.le_of_ble_eq_true rfl) dX7_readLine_31 rfl ?_
      refine w_if_eq C (qt := 42) dX7_readLine_34 (by decide) rfl h (fun _ h => ?_) (fun _ h => ?_)
      · refine w_aload_n C dX7_readLine_42 rfl 0 rfl ?_
        refine w_ldcS C (tx := "limit") 16 (by decide) dX7_readLine_43 rfl ?_
        refine bd1_w h (fun r4 hc h => ?_)
        refine w_callVi C (n := 1) (As := [.ref (ad (1100 + 16))]) (st := []) 28 (Nat.le_of_ble_eq_true rfl) rfl rfl (cfX7_isWord D cI ad (l := X.2.1) C.2.2.1 hc) tw3_131 cy_X7_isWord (by decide +kernel) ⟨Nat.le_of_ble_eq_true rfl, Nat.le_of_ble_eq_true rfl⟩ (by decide) rfl rfl (Nat.le_of_ble_eq_true rfl) dX7_readLine_45 rfl ?_
        refine w_if_eq C (qt := 56) dX7_readLine_48 (by decide) rfl h (fun _ h => ?_) (fun _ h => ?_)
        · refine w_aload_n C dX7_readLine_56 rfl 0 rfl ?_
          refine bd2_w h (fun r5 u6 hc h => ?_)
          refine w_callVi C (n := 0) (As := []) (st := []) 28 (Nat.le_of_ble_eq_true rfl) rfl rfl (cfX7_readStep D cI ad (l := X.2.1) C.2.2.1 hc) tw4_50 cy_X7_readStep (by decide +kernel) ⟨Nat.le_of_ble_eq_true rfl, Nat.le_of_ble_eq_true rfl⟩ (by decide) rfl rfl (Nat.le_of_ble_eq_true rfl) dX7_readLine_57 rfl ?_
          obtain ⟨hz, h⟩ := ckB_w h
          exact w_rz2 hr hz h (by decide) dX7_readLine_60
        · refine w_aload_n C dX7_readLine_51 rfl 0 rfl ?_
          refine bd2_w h (fun r7 u8 hc h => ?_)
          refine w_callVi C (n := 0) (As := []) (st := []) 28 (Nat.le_of_ble_eq_true rfl) rfl rfl (cfX7_readLimit D cI ad (l := X.2.1) C.2.2.1 hc) tw3_226 cy_X7_readLimit (by decide +kernel) ⟨Nat.le_of_ble_eq_true rfl, Nat.le_of_ble_eq_true rfl⟩ (by decide) rfl rfl (Nat.le_of_ble_eq_true rfl) dX7_readLine_52 rfl ?_
          obtain ⟨hz, h⟩ := ckB_w h
          exact w_rz2 hr hz h (by decide) dX7_readLine_55
      · refine w_aload_n C dX7_readLine_37 rfl 0 rfl ?_
        refine bd2_w h (fun r9 u10 hc h => ?_)
        refine w_callVi C (n := 0) (As := []) (st := []) 28 (Nat.le_of_ble_eq_true rfl) rfl rfl (cfX7_readFloor D cI ad (l := X.2.1) C.2.2.1 hc) tw3_221 cy_X7_readFloor (by decide +kernel) ⟨Nat.le_of_ble_eq_true rfl, Nat.le_of_ble_eq_true rfl⟩ (by decide) rfl rfl (Nat.le_of_ble_eq_true rfl) dX7_readLine_38 rfl ?_
        obtain ⟨hz, h⟩ := ckB_w h
        exact w_rz2 hr hz h (by decide) dX7_readLine_41
    · refine w_aload_n C dX7_readLine_23 rfl 0 rfl ?_
      refine bd2_w h (fun r11 u12 hc h => ?_)
      refine w_callVi C (n := 0) (As := []) (st := []) 28 (Nat.le_of_ble_eq_true rfl) rfl rfl (cfX7_readDance D cI ad (l := X.2.1) C.2.2.1 hc) tw3_204 cy_X7_readDance (by decide +kernel) ⟨Nat.le_of_ble_eq_true rfl, Nat.le_of_ble_eq_true rfl⟩ (by decide) rfl rfl (Nat.le_of_ble_eq_true rfl) dX7_readLine_24 rfl ?_
      obtain ⟨hz, h⟩ := ckB_w h
      exact w_rz2 hr hz h (by decide) dX7_readLine_27
  · refine w_aload_n C dX7_readLine_9 rfl 0 rfl ?_
    refine bd2_w h (fun r13 u14 hc h => ?_)
    refine w_callVi C (n := 0) (As := []) (st := []) 28 (Nat.le_of_ble_eq_true rfl) rfl rfl (cfX7_readValley D cI ad (l := X.2.1) C.2.2.1 hc) tw3_187 cy_X7_readValley (by decide +kernel) ⟨Nat.le_of_ble_eq_true rfl, Nat.le_of_ble_eq_true rfl⟩ (by decide) rfl rfl (Nat.le_of_ble_eq_true rfl) dX7_readLine_10 rfl ?_
    obtain ⟨hz, h⟩ := ckB_w h
    exact w_rz2 hr hz h (by decide) dX7_readLine_13
theorem cfX7_readLine (D : va_G) (cI : ClassId) (ad : Nat → Nat) {l : Launch} (had : gAp (gC D cI ad)) {F : Nat} {σ : St}  {r : Int32} {σ' : St} (h : fX7_readLine F σ = some (r, σ')) : MI l yX7_readLine (wB yX7_readLine cX7_readLine 1 (some .boolean)) 122 2662 (gC D cI ad) [.ref (ad 28)] σ r σ' := mk_MZ had (by decide +kernel) (Nat.le_of_ble_eq_true rfl) (fun X hX C hr => wfX7_readLine C hr h)

def fX7_readText (F : Nat) (σ : St) (a1 : Int32) : Option (Int32 × St) := nm (up σ 28 1 1) fun u2 => nm (up u2 28 2 (if 700 < a1 then 700 else a1)) fun u4 => nm (up u4 28 5 0) fun u6 => nm (up u6 28 6 0) fun u8 => nm (up u8 28 7 ((-1))) fun u10 => bd1 (fX0_empty F u10) fun u11 => bd1 (fX7_nextToken F u11) fun u12 => lp (fun (K14 : (St × Int32) → Option (Int32 × St)) (v13 : St × Int32) => if (700 : Int32) < v13.2 then (some (1, v13.1)) else if (v13.1 28 3) = 0 then (some (1, v13.1)) else bd2 (fX7_readLine F v13.1) fun r16 u17 => if r16 = 0 then (some (0, u17)) else bd2 (fX7_takeSign F u17 59) fun r18 u19 => if r18 = 0 then (some (0, u19)) else K14 ((u19, v13.2 + 1))) F ((u12, 0))
set_option maxRecDepth 20000 in
theorem wfX7_readText {X : XT} {D : va_G} {cI : ClassId} {ad : Nat → Nat} {F : Nat} {σ : St} {a1 : Int32} {r : Int32} {σ' : St} (C : Cx X (gC D cI ad) cX7_readText 4 RX7 123 2682 0) (hr : RetZ X (gC D cI ad) cX7_readText 4 0 r σ') (h : fX7_readText F σ a1 = some (r, σ')) : WP X (gC D cI ad) 4 0 0 σ [(0, .ref (ad 28)), (1, .ref (ad 1)), (2, .int a1)] [] := by
  unfold fX7_readText at h
  refine w_aload_n C dX7_readText_0 rfl 0 rfl ?_
  refine w_aload_n C dX7_readText_1 rfl 1 rfl ?_
  refine w_put C 28 1 1 (Nat.le_of_ble_eq_true rfl) rfl rfl inB_X7 tyX7_ok nmX7 (by decide) tw1_157 rfl rfl rfl (Nat.le_of_ble_eq_true rfl) rfl dX7_readText_2 rfl ?_
  refine w_nst h (fun u2 h => ?_)
  refine w_aload_n C dX7_readText_5 rfl 0 rfl ?_
  refine w_iload_n C dX7_readText_6 rfl 2 rfl ?_
  refine w_aload_n C dX7_readText_7 rfl 1 rfl ?_
  refine w_alen C 1 700 0 700 (Nat.le_of_ble_eq_true rfl) (fun _ => rfl) rfl (by decide) dX7_readText_8 rfl ?_
  refine w_mmin C (all4 tw3_111 tw3_112 tw1_17 tw3_113) ⟨Nat.le_of_ble_eq_true rfl, Nat.le_of_ble_eq_true rfl⟩ (by decide) dX7_readText_9 rfl ?_
  refine w_put C 28 2 (if 700 < a1 then 700 else a1) (Nat.le_of_ble_eq_true rfl) rfl rfl inB_X7 tyX7_ok nmX7 (by decide) tw1_158 rfl rfl rfl (Nat.le_of_ble_eq_true rfl) rfl dX7_readText_12 rfl ?_
  refine w_nst h (fun u4 h => ?_)
  refine w_aload_n C dX7_readText_15 rfl 0 rfl ?_
  refine w_iconst C 0 dX7_readText_16 rfl (by decide) ?_
  refine w_put C 28 5 0 (Nat.le_of_ble_eq_true rfl) rfl rfl inB_X7 tyX7_ok nmX7 (by decide) tw1_161 rfl rfl rfl (Nat.le_of_ble_eq_true rfl) rfl dX7_readText_17 rfl ?_
  refine w_nst h (fun u6 h => ?_)
  refine w_aload_n C dX7_readText_20 rfl 0 rfl ?_
  refine w_iconst C 0 dX7_readText_21 rfl (by decide) ?_
  refine w_put C 28 6 0 (Nat.le_of_ble_eq_true rfl) rfl rfl inB_X7 tyX7_ok nmX7 (by decide) tw1_162 rfl rfl rfl (Nat.le_of_ble_eq_true rfl) rfl dX7_readText_22 rfl ?_
  refine w_nst h (fun u8 h => ?_)
  refine w_aload_n C dX7_readText_25 rfl 0 rfl ?_
  refine w_iconst C (-1) dX7_readText_26 rfl (by decide) ?_
  refine w_put C 28 7 ((-1)) (Nat.le_of_ble_eq_true rfl) rfl rfl inB_X7 tyX7_ok nmX7 (by decide) tw1_164 rfl rfl rfl (Nat.le_of_ble_eq_true rfl) rfl dX7_readText_27 rfl ?_
  refine w_nst h (fun u10 h => ?_)
  refine w_aload_n C dX7_readText_30 rfl 0 rfl ?_
  refine w_get C 28 0 (Nat.le_of_ble_eq_true rfl) rfl rfl inB_X7 (by decide) tw1_156 rfl dX7_readText_31 rfl ?_
  refine bd1_w h (fun u11 hc h => ?_)
  refine w_callVv C (n := 0) (As := []) (st := []) 15 (Nat.le_of_ble_eq_true rfl) rfl rfl (cfX0_empty D cI ad (l := X.2.1) C.2.2.1 hc) tw3_114 cy_X0_empty (by decide +kernel) ⟨Nat.le_of_ble_eq_true rfl, Nat.le_of_ble_eq_true rfl⟩ (by decide) rfl rfl (Nat.le_of_ble_eq_true rfl) dX7_readText_34 rfl ?_
  refine w_aload_n C dX7_readText_37 rfl 0 rfl ?_
  refine bd1_w h (fun u12 hc h => ?_)
  refine w_callVv C (n := 0) (As := []) (st := []) 28 (Nat.le_of_ble_eq_true rfl) rfl rfl (cfX7_nextToken D cI ad (l := X.2.1) C.2.2.1 hc) tw3_118 cy_X7_nextToken (by decide +kernel) ⟨Nat.le_of_ble_eq_true rfl, Nat.le_of_ble_eq_true rfl⟩ (by decide) rfl rfl (Nat.le_of_ble_eq_true rfl) dX7_readText_38 rfl ?_
  refine w_iconst C 0 dX7_readText_41 rfl (by decide) ?_
  refine w_istore_n C [(3, .int 0), (0, .ref (ad 28)), (1, .ref (ad 1)), (2, .int a1)] dX7_readText_42 rfl (by decide) rfl ?_
  refine w_sub (lv' := [(3, .int 0), (0, .ref (ad 28))]) [0, 1] rfl ?_
  refine lp_w (fun v13 : St × Int32 => WP X (gC D cI ad) 4 0 43 v13.1 [(3, .int v13.2), (0, .ref (ad 28))] []) (fun K14 hK15 v13 h => ?_) F _ h
  refine w_iload_n C dX7_readText_43 rfl 0 rfl ?_
  refine w_sipush C 700 dX7_readText_44 rfl (by decide) ?_
  refine w_icmp_gt C (qt := 81) dX7_readText_47 (by decide) rfl h (fun _ h => ?_) (fun _ h => ?_)
  · refine w_iconst C 1 dX7_readText_81 rfl (by decide) ?_
    exact w_rz2 hr (by decide) h (by decide) dX7_readText_82
  · refine w_aload_n C dX7_readText_50 rfl 1 rfl ?_
    refine w_get C 28 3 (Nat.le_of_ble_eq_true rfl) rfl rfl inB_X7 (by decide) tw1_159 rfl dX7_readText_51 rfl ?_
    refine w_if_eq C (qt := 81) dX7_readText_54 (by decide) rfl h (fun _ h => ?_) (fun _ h => ?_)
    · refine w_iconst C 1 dX7_readText_81 rfl (by decide) ?_
      exact w_rz2 hr (by decide) h (by decide) dX7_readText_82
    · refine w_aload_n C dX7_readText_57 rfl 1 rfl ?_
      refine bd2_w h (fun r16 u17 hc h => ?_)
      refine w_callVi C (n := 0) (As := []) (st := []) 28 (Nat.le_of_ble_eq_true rfl) rfl rfl (cfX7_readLine D cI ad (l := X.2.1) C.2.2.1 hc) tw3_126 cy_X7_readLine (by decide +kernel) ⟨Nat.le_of_ble_eq_true rfl, Nat.le_of_ble_eq_true rfl⟩ (by decide) rfl rfl (Nat.le_of_ble_eq_true rfl) dX7_readText_58 rfl ?_
      refine w_if_eq C (qt := 73) dX7_readText_61 (by decide) rfl h (fun _ h => ?_) (fun _ h => ?_)
      · refine w_iconst C 0 dX7_readText_73 rfl (by decide) ?_
        exact w_rz2 hr (by decide) h (by decide) dX7_readText_74
      · refine w_aload_n C dX7_readText_64 rfl 1 rfl ?_
        refine w_bipush C 59 dX7_readText_65 rfl (by decide) ?_
        refine bd2_w h (fun r18 u19 hc h => ?_)
        refine w_callVi C (n := 1) (As := [.int 59]) (st := []) 28 (Nat.le_of_ble_eq_true rfl) rfl rfl (cfX7_takeSign D cI ad (l := X.2.1) C.2.2.1 hc) tw4_27 cy_X7_takeSign (by decide +kernel) ⟨Nat.le_of_ble_eq_true rfl, Nat.le_of_ble_eq_true rfl⟩ (by decide) rfl rfl (Nat.le_of_ble_eq_true rfl) dX7_readText_67 rfl ?_
        refine w_if_ne C (qt := 75) dX7_readText_70 (by decide) rfl h (fun _ h => ?_) (fun _ h => ?_)
        · refine w_iinc (j := 0) C (v13.2 + 1) [(3, .int (v13.2 + 1)), (0, .ref (ad 28))] dX7_readText_75 rfl rfl rfl (by decide) rfl ?_
          refine w_goto (q := 43) C dX7_readText_78 (by decide) ?_
          exact w_sub (lv' := [(3, .int (v13.2 + 1)), (0, .ref (ad 28))]) [0, 1] rfl (hK15 ((u19, v13.2 + 1)) h)
        · refine w_iconst C 0 dX7_readText_73 rfl (by decide) ?_
          exact w_rz2 hr (by decide) h (by decide) dX7_readText_74
theorem cfX7_readText (D : va_G) (cI : ClassId) (ad : Nat → Nat) {l : Launch} (had : gAp (gC D cI ad)) {F : Nat} {σ : St} {a1 : Int32} {r : Int32} {σ' : St} (h : fX7_readText F σ a1 = some (r, σ')) : MI l yX7_readText (wB yX7_readText cX7_readText 4 (some .boolean)) 123 2682 (gC D cI ad) [.ref (ad 28), .ref (ad 1), .int a1] σ r σ' := mk_MZ had (by decide +kernel) (Nat.le_of_ble_eq_true rfl) (fun X hX C hr => wfX7_readText C hr h)

def fX8_become (F : Nat) (σ : St) : Option St := nm (up σ 12 0 (σ 25 0)) fun u2 => nm (acp u2 26 0 13 0 700) fun u3 => some u3
set_option maxRecDepth 20000 in
theorem wfX8_become {X : XT} {D : va_G} {cI : ClassId} {ad : Nat → Nat} {F : Nat} {σ : St}  {σ' : St} (C : Cx X (gC D cI ad) cX8_become 2 RX8 1 40 0) (hr : RetV X (gC D cI ad) cX8_become 2 0 σ') (h : fX8_become F σ = some σ') : WP X (gC D cI ad) 2 0 0 σ [(0, .ref (ad 12)), (1, .ref (ad 25))] [] := by
  unfold fX8_become at h
  refine w_aload_n C dX8_become_0 rfl 0 rfl ?_
  refine w_aload_n C dX8_become_1 rfl 1 rfl ?_
  refine w_get C 25 0 (Nat.le_of_ble_eq_true rfl) rfl rfl inB_X8 (by decide) tw1_46 rfl dX8_become_2 rfl ?_
  refine w_put C 12 0 (σ 25 0) (Nat.le_of_ble_eq_true rfl) rfl rfl inB_X8 tyX8_ok nmX8 (by decide) tw1_46 rfl rfl rfl (Nat.le_of_ble_eq_true rfl) rfl dX8_become_5 rfl ?_
  refine w_nst h (fun u2 h => ?_)
  refine w_aload_n C dX8_become_8 rfl 1 rfl ?_
  refine w_get C 25 1 (Nat.le_of_ble_eq_true rfl) rfl rfl inB_X8 (by decide) tw1_48 rfl dX8_become_9 rfl ?_
  refine w_iconst C 0 dX8_become_12 rfl (by decide) ?_
  refine w_aload_n C dX8_become_13 rfl 0 rfl ?_
  refine w_get C 12 1 (Nat.le_of_ble_eq_true rfl) rfl rfl inB_X8 (by decide) tw1_48 rfl dX8_become_14 rfl ?_
  refine w_iconst C 0 dX8_become_17 rfl (by decide) ?_
  refine w_sipush C 700 dX8_become_18 rfl (by decide) ?_
  refine w_acopy C 26 13 700 700 0 0 0 700 (all4 tw4_72 tw3_4 tw3_3 tw1_22) (Nat.le_of_ble_eq_true rfl) (Nat.le_of_ble_eq_true rfl) (fun _ => rfl) (fun _ => rfl) rfl ⟨by decide, by decide⟩ ⟨by decide, by decide⟩ ⟨by decide, by decide⟩ (by decide) (by decide) ⟨Nat.le_of_ble_eq_true rfl, Nat.le_of_ble_eq_true rfl⟩ dX8_become_21 rfl ?_
  refine w_nst h (fun u3 h => ?_)
  exact w_rv hr h (by decide) dX8_become_24
theorem cfX8_become (D : va_G) (cI : ClassId) (ad : Nat → Nat) {l : Launch} (had : gAp (gC D cI ad)) {F : Nat} {σ : St}  {σ' : St} (h : fX8_become F σ = some σ') : MV l yX8_become (wB yX8_become cX8_become 2 none) 1 40 (gC D cI ad) [.ref (ad 12), .ref (ad 25)] σ σ' := mk_MV had (by decide +kernel) (Nat.le_of_ble_eq_true rfl) (fun X hX C hr => wfX8_become C hr h)

def fX0_become (F : Nat) (σ : St) : Option St := nm (up σ 2 0 (σ 15 0)) fun u2 => nm (up u2 2 1 (u2 15 1)) fun u4 => nm (up u4 2 2 (u4 15 2)) fun u6 => ckB (u6 15 3) (nm (up u6 2 3 (u6 15 3)) fun u8 => ckB (u8 15 4) (nm (up u8 2 4 (u8 15 4)) fun u10 => nm (acp u10 16 0 3 0 6) fun u11 => nm (acp u11 17 0 4 0 8) fun u12 => nm (acp u12 18 0 5 0 8) fun u13 => nm (acp u13 19 0 6 0 8) fun u14 => nm (acp u14 20 0 7 0 8) fun u15 => nm (acp u15 21 0 8 0 80) fun u16 => nm (acp u16 22 0 9 0 80) fun u17 => nm (acp u17 23 0 10 0 80) fun u18 => nm (acp u18 24 0 11 0 80) fun u19 => bd1 (fX8_become F u19) fun u20 => some u20))
set_option maxRecDepth 20000 in
theorem wfX0_become {X : XT} {D : va_G} {cI : ClassId} {ad : Nat → Nat} {F : Nat} {σ : St}  {σ' : St} (C : Cx X (gC D cI ad) cX0_become 2 RX0 2 61 0) (hr : RetV X (gC D cI ad) cX0_become 2 0 σ') (h : fX0_become F σ = some σ') : WP X (gC D cI ad) 2 0 0 σ [(0, .ref (ad 2)), (1, .ref (ad 15))] [] := by
  unfold fX0_become at h
  refine w_aload_n C dX0_become_0 rfl 0 rfl ?_
  refine w_aload_n C dX0_become_1 rfl 1 rfl ?_
  refine w_get C 15 0 (Nat.le_of_ble_eq_true rfl) rfl rfl inB_X0 (by decide) tw1_58 rfl dX0_become_2 rfl ?_
  refine w_put C 2 0 (σ 15 0) (Nat.le_of_ble_eq_true rfl) rfl rfl inB_X0 tyX0_ok nmX0 (by decide) tw1_58 rfl rfl rfl (Nat.le_of_ble_eq_true rfl) rfl dX0_become_5 rfl ?_
  refine w_nst h (fun u2 h => ?_)
  refine w_aload_n C dX0_become_8 rfl 0 rfl ?_
  refine w_aload_n C dX0_become_9 rfl 1 rfl ?_
  refine w_get C 15 1 (Nat.le_of_ble_eq_true rfl) rfl rfl inB_X0 (by decide) tw1_62 rfl dX0_become_10 rfl ?_
  refine w_put C 2 1 (u2 15 1) (Nat.le_of_ble_eq_true rfl) rfl rfl inB_X0 tyX0_ok nmX0 (by decide) tw1_62 rfl rfl rfl (Nat.le_of_ble_eq_true rfl) rfl dX0_become_13 rfl ?_
  refine w_nst h (fun u4 h => ?_)
  refine w_aload_n C dX0_become_16 rfl 0 rfl ?_
  refine w_aload_n C dX0_become_17 rfl 1 rfl ?_
  refine w_get C 15 2 (Nat.le_of_ble_eq_true rfl) rfl rfl inB_X0 (by decide) tw1_69 rfl dX0_become_18 rfl ?_
  refine w_put C 2 2 (u4 15 2) (Nat.le_of_ble_eq_true rfl) rfl rfl inB_X0 tyX0_ok nmX0 (by decide) tw1_69 rfl rfl rfl (Nat.le_of_ble_eq_true rfl) rfl dX0_become_21 rfl ?_
  refine w_nst h (fun u6 h => ?_)
  refine w_aload_n C dX0_become_24 rfl 0 rfl ?_
  refine w_aload_n C dX0_become_25 rfl 1 rfl ?_
  refine w_get C 15 3 (Nat.le_of_ble_eq_true rfl) rfl rfl inB_X0 (by decide) tw1_74 rfl dX0_become_26 rfl ?_
  obtain ⟨hz, h⟩ := ckB_w h
  refine w_put C 2 3 (u6 15 3) (Nat.le_of_ble_eq_true rfl) rfl rfl inB_X0 tyX0_ok nmX0 (by decide) tw1_74 rfl (by show Value.int (_ &&& 1) = _; rw [hz]) (fitsZ hz) (Nat.le_of_ble_eq_true rfl) rfl dX0_become_29 rfl ?_
  refine w_nst h (fun u8 h => ?_)
  refine w_aload_n C dX0_become_32 rfl 0 rfl ?_
  refine w_aload_n C dX0_become_33 rfl 1 rfl ?_
  refine w_get C 15 4 (Nat.le_of_ble_eq_true rfl) rfl rfl inB_X0 (by decide) tw1_76 rfl dX0_become_34 rfl ?_
  obtain ⟨hz, h⟩ := ckB_w h
  refine w_put C 2 4 (u8 15 4) (Nat.le_of_ble_eq_true rfl) rfl rfl inB_X0 tyX0_ok nmX0 (by decide) tw1_76 rfl (by show Value.int (_ &&& 1) = _; rw [hz]) (fitsZ hz) (Nat.le_of_ble_eq_true rfl) rfl dX0_become_37 rfl ?_
  refine w_nst h (fun u10 h => ?_)
  refine w_aload_n C dX0_become_40 rfl 1 rfl ?_
  refine w_get C 15 5 (Nat.le_of_ble_eq_true rfl) rfl rfl inB_X0 (by decide) tw1_79 rfl dX0_become_41 rfl ?_
  refine w_iconst C 0 dX0_become_44 rfl (by decide) ?_
  refine w_aload_n C dX0_become_45 rfl 0 rfl ?_
  refine w_get C 2 5 (Nat.le_of_ble_eq_true rfl) rfl rfl inB_X0 (by decide) tw1_79 rfl dX0_become_46 rfl ?_
  refine w_iconst C 0 dX0_become_49 rfl (by decide) ?_
  refine w_bipush C 6 dX0_become_50 rfl (by decide) ?_
  refine w_acopy C 16 3 6 6 0 0 0 6 (all4 tw4_67 tw3_4 tw3_3 tw1_22) (Nat.le_of_ble_eq_true rfl) (Nat.le_of_ble_eq_true rfl) (fun _ => rfl) (fun _ => rfl) rfl ⟨by decide, by decide⟩ ⟨by decide, by decide⟩ ⟨by decide, by decide⟩ (by decide) (by decide) ⟨Nat.le_of_ble_eq_true rfl, Nat.le_of_ble_eq_true rfl⟩ dX0_become_52 rfl ?_
  refine w_nst h (fun u11 h => ?_)
  refine w_aload_n C dX0_become_55 rfl 1 rfl ?_
  refine w_get C 15 6 (Nat.le_of_ble_eq_true rfl) rfl rfl inB_X0 (by decide) tw1_82 rfl dX0_become_56 rfl ?_
  refine w_iconst C 0 dX0_become_59 rfl (by decide) ?_
  refine w_aload_n C dX0_become_60 rfl 0 rfl ?_
  refine w_get C 2 6 (Nat.le_of_ble_eq_true rfl) rfl rfl inB_X0 (by decide) tw1_82 rfl dX0_become_61 rfl ?_
  refine w_iconst C 0 dX0_become_64 rfl (by decide) ?_
  refine w_bipush C 8 dX0_become_65 rfl (by decide) ?_
  refine w_acopy C 17 4 8 8 0 0 0 8 (all4 tw4_67 tw3_4 tw3_3 tw1_22) (Nat.le_of_ble_eq_true rfl) (Nat.le_of_ble_eq_true rfl) (fun _ => rfl) (fun _ => rfl) rfl ⟨by decide, by decide⟩ ⟨by decide, by decide⟩ ⟨by decide, by decide⟩ (by decide) (by decide) ⟨Nat.le_of_ble_eq_true rfl, Nat.le_of_ble_eq_true rfl⟩ dX0_become_67 rfl ?_
  refine w_nst h (fun u12 h => ?_)
  refine w_aload_n C dX0_become_70 rfl 1 rfl ?_
  refine w_get C 15 7 (Nat.le_of_ble_eq_true rfl) rfl rfl inB_X0 (by decide) tw1_86 rfl dX0_become_71 rfl ?_
  refine w_iconst C 0 dX0_become_74 rfl (by decide) ?_
  refine w_aload_n C dX0_become_75 rfl 0 rfl ?_
  refine w_get C 2 7 (Nat.le_of_ble_eq_true rfl) rfl rfl inB_X0 (by decide) tw1_86 rfl dX0_become_76 rfl ?_
  refine w_iconst C 0 dX0_become_79 rfl (by decide) ?_
  refine w_bipush C 8 dX0_become_80 rfl (by decide) ?_
  refine w_acopy C 18 5 8 8 0 0 0 8 (all4 tw4_67 tw3_4 tw3_3 tw1_22) (Nat.le_of_ble_eq_true rfl) (Nat.le_of_ble_eq_true rfl) (fun _ => rfl) (fun _ => rfl) rfl ⟨by decide, by decide⟩ ⟨by decide, by decide⟩ ⟨by decide, by decide⟩ (by decide) (by decide) ⟨Nat.le_of_ble_eq_true rfl, Nat.le_of_ble_eq_true rfl⟩ dX0_become_82 rfl ?_
  refine w_nst h (fun u13 h => ?_)
  refine w_aload_n C dX0_become_85 rfl 1 rfl ?_
  refine w_get C 15 8 (Nat.le_of_ble_eq_true rfl) rfl rfl inB_X0 (by decide) tw1_90 rfl dX0_become_86 rfl ?_
  refine w_iconst C 0 dX0_become_89 rfl (by decide) ?_
  refine w_aload_n C dX0_become_90 rfl 0 rfl ?_
  refine w_get C 2 8 (Nat.le_of_ble_eq_true rfl) rfl rfl inB_X0 (by decide) tw1_90 rfl dX0_become_91 rfl ?_
  refine w_iconst C 0 dX0_become_94 rfl (by decide) ?_
  refine w_bipush C 8 dX0_become_95 rfl (by decide) ?_
  refine w_acopy C 19 6 8 8 0 0 0 8 (all4 tw4_67 tw3_4 tw3_3 tw1_22) (Nat.le_of_ble_eq_true rfl) (Nat.le_of_ble_eq_true rfl) (fun _ => rfl) (fun _ => rfl) rfl ⟨by decide, by decide⟩ ⟨by decide, by decide⟩ ⟨by decide, by decide⟩ (by decide) (by decide) ⟨Nat.le_of_ble_eq_true rfl, Nat.le_of_ble_eq_true rfl⟩ dX0_become_97 rfl ?_
  refine w_nst h (fun u14 h => ?_)
  refine w_aload_n C dX0_become_100 rfl 1 rfl ?_
  refine w_get C 15 9 (Nat.le_of_ble_eq_true rfl) rfl rfl inB_X0 (by decide) tw1_95 rfl dX0_become_101 rfl ?_
  refine w_iconst C 0 dX0_become_104 rfl (by decide) ?_
  refine w_aload_n C dX0_become_105 rfl 0 rfl ?_
  refine w_get C 2 9 (Nat.le_of_ble_eq_true rfl) rfl rfl inB_X0 (by decide) tw1_95 rfl dX0_become_106 rfl ?_
  refine w_iconst C 0 dX0_become_109 rfl (by decide) ?_
  refine w_bipush C 8 dX0_become_110 rfl (by decide) ?_
  refine w_acopy C 20 7 8 8 0 0 0 8 (all4 tw4_67 tw3_4 tw3_3 tw1_22) (Nat.le_of_ble_eq_true rfl) (Nat.le_of_ble_eq_true rfl) (fun _ => rfl) (fun _ => rfl) rfl ⟨by decide, by decide⟩ ⟨by decide, by decide⟩ ⟨by decide, by decide⟩ (by decide) (by decide) ⟨Nat.le_of_ble_eq_true rfl, Nat.le_of_ble_eq_true rfl⟩ dX0_become_112 rfl ?_
  refine w_nst h (fun u15 h => ?_)
  refine w_aload_n C dX0_become_115 rfl 1 rfl ?_
  refine w_get C 15 10 (Nat.le_of_ble_eq_true rfl) rfl rfl inB_X0 (by decide) tw1_100 rfl dX0_become_116 rfl ?_
  refine w_iconst C 0 dX0_become_119 rfl (by decide) ?_
  refine w_aload_n C dX0_become_120 rfl 0 rfl ?_
  refine w_get C 2 10 (Nat.le_of_ble_eq_true rfl) rfl rfl inB_X0 (by decide) tw1_100 rfl dX0_become_121 rfl ?_
  refine w_iconst C 0 dX0_become_124 rfl (by decide) ?_
  refine w_bipush C 80 dX0_become_125 rfl (by decide) ?_
  refine w_acopy C 21 8 80 80 0 0 0 80 (all4 tw4_67 tw3_4 tw3_3 tw1_22) (Nat.le_of_ble_eq_true rfl) (Nat.le_of_ble_eq_true rfl) (fun _ => rfl) (fun _ => rfl) rfl ⟨by decide, by decide⟩ ⟨by decide, by decide⟩ ⟨by decide, by decide⟩ (by decide) (by decide) ⟨Nat.le_of_ble_eq_true rfl, Nat.le_of_ble_eq_true rfl⟩ dX0_become_127 rfl ?_
  refine w_nst h (fun u16 h => ?_)
  refine w_aload_n C dX0_become_130 rfl 1 rfl ?_
  refine w_get C 15 11 (Nat.le_of_ble_eq_true rfl) rfl rfl inB_X0 (by decide) tw1_105 rfl dX0_become_131 rfl ?_
  refine w_iconst C 0 dX0_become_134 rfl (by decide) ?_
  refine w_aload_n C dX0_become_135 rfl 0 rfl ?_
  refine w_get C 2 11 (Nat.le_of_ble_eq_true rfl) rfl rfl inB_X0 (by decide) tw1_105 rfl dX0_become_136 rfl ?_
  refine w_iconst C 0 dX0_become_139 rfl (by decide) ?_
  refine w_bipush C 80 dX0_become_140 rfl (by decide) ?_
  refine w_acopy C 22 9 80 80 0 0 0 80 (all4 tw4_67 tw3_4 tw3_3 tw1_22) (Nat.le_of_ble_eq_true rfl) (Nat.le_of_ble_eq_true rfl) (fun _ => rfl) (fun _ => rfl) rfl ⟨by decide, by decide⟩ ⟨by decide, by decide⟩ ⟨by decide, by decide⟩ (by decide) (by decide) ⟨Nat.le_of_ble_eq_true rfl, Nat.le_of_ble_eq_true rfl⟩ dX0_become_142 rfl ?_
  refine w_nst h (fun u17 h => ?_)
  refine w_aload_n C dX0_become_145 rfl 1 rfl ?_
  refine w_get C 15 12 (Nat.le_of_ble_eq_true rfl) rfl rfl inB_X0 (by decide) tw1_109 rfl dX0_become_146 rfl ?_
  refine w_iconst C 0 dX0_become_149 rfl (by decide) ?_
  refine w_aload_n C dX0_become_150 rfl 0 rfl ?_
  refine w_get C 2 12 (Nat.le_of_ble_eq_true rfl) rfl rfl inB_X0 (by decide) tw1_109 rfl dX0_become_151 rfl ?_
  refine w_iconst C 0 dX0_become_154 rfl (by decide) ?_
  refine w_bipush C 80 dX0_become_155 rfl (by decide) ?_
  refine w_acopy C 23 10 80 80 0 0 0 80 (all4 tw4_67 tw3_4 tw3_3 tw1_22) (Nat.le_of_ble_eq_true rfl) (Nat.le_of_ble_eq_true rfl) (fun _ => rfl) (fun _ => rfl) rfl ⟨by decide, by decide⟩ ⟨by decide, by decide⟩ ⟨by decide, by decide⟩ (by decide) (by decide) ⟨Nat.le_of_ble_eq_true rfl, Nat.le_of_ble_eq_true rfl⟩ dX0_become_157 rfl ?_
  refine w_nst h (fun u18 h => ?_)
  refine w_aload_n C dX0_become_160 rfl 1 rfl ?_
  refine w_get C 15 13 (Nat.le_of_ble_eq_true rfl) rfl rfl inB_X0 (by decide) tw1_112 rfl dX0_become_161 rfl ?_
  refine w_iconst C 0 dX0_become_164 rfl (by decide) ?_
  refine w_aload_n C dX0_become_165 rfl 0 rfl ?_
  refine w_get C 2 13 (Nat.le_of_ble_eq_true rfl) rfl rfl inB_X0 (by decide) tw1_112 rfl dX0_become_166 rfl ?_
  refine w_iconst C 0 dX0_become_169 rfl (by decide) ?_
  refine w_bipush C 80 dX0_become_170 rfl (by decide) ?_
  refine w_acopy C 24 11 80 80 0 0 0 80 (all4 tw4_67 tw3_4 tw3_3 tw1_22) (Nat.le_of_ble_eq_true rfl) (Nat.le_of_ble_eq_true rfl) (fun _ => rfl) (fun _ => rfl) rfl ⟨by decide, by decide⟩ ⟨by decide, by decide⟩ ⟨by decide, by decide⟩ (by decide) (by decide) ⟨Nat.le_of_ble_eq_true rfl, Nat.le_of_ble_eq_true rfl⟩ dX0_become_172 rfl ?_
  refine w_nst h (fun u19 h => ?_)
  refine w_aload_n C dX0_become_175 rfl 0 rfl ?_
  refine w_get C 2 14 (Nat.le_of_ble_eq_true rfl) rfl rfl inB_X0 (by decide) tw1_116 rfl dX0_become_176 rfl ?_
  refine w_aload_n C dX0_become_179 rfl 1 rfl ?_
  refine w_get C 15 14 (Nat.le_of_ble_eq_true rfl) rfl rfl inB_X0 (by decide) tw1_116 rfl dX0_become_180 rfl ?_
  refine bd1_w h (fun u20 hc h => ?_)
  refine w_callVv C (n := 1) (As := [.ref (ad 25)]) (st := []) 12 (Nat.le_of_ble_eq_true rfl) rfl rfl (cfX8_become D cI ad (l := X.2.1) C.2.2.1 hc) tw4_68 cy_X8_become (by decide +kernel) ⟨Nat.le_of_ble_eq_true rfl, Nat.le_of_ble_eq_true rfl⟩ (by decide) rfl rfl (Nat.le_of_ble_eq_true rfl) dX0_become_183 rfl ?_
  exact w_rv hr h (by decide) dX0_become_186
theorem cfX0_become (D : va_G) (cI : ClassId) (ad : Nat → Nat) {l : Launch} (had : gAp (gC D cI ad)) {F : Nat} {σ : St}  {σ' : St} (h : fX0_become F σ = some σ') : MV l yX0_become (wB yX0_become cX0_become 2 none) 2 61 (gC D cI ad) [.ref (ad 2), .ref (ad 15)] σ σ' := mk_MV had (by decide +kernel) (Nat.le_of_ble_eq_true rfl) (fun X hX C hr => wfX0_become C hr h)

def fJ7_fill_53178 (F : Nat) (σ : St) (a1 : Int32) : Option St := lp (fun (K2 : (St × Int32) → Option St) (v1 : St × Int32) => if (8 : Int32) ≤ v1.2 then (some v1.1) else ckI (v1.2) 8 (nm (up v1.1 31 (Int32.toNatClampNeg v1.2) a1) fun u4 => K2 ((u4, v1.2 + 1)))) F ((σ, 0))
set_option maxRecDepth 20000 in
theorem wfJ7_fill_53178 {X : XT} {D : va_G} {cI : ClassId} {ad : Nat → Nat} {F : Nat} {σ : St} {a1 : Int32} {σ' : St} (C : Cx X (gC D cI ad) cJ7_fill_53178 4 RJ7 0 0 0) (hr : RetV X (gC D cI ad) cJ7_fill_53178 4 0 σ') (h : fJ7_fill_53178 F σ a1 = some σ') : WP X (gC D cI ad) 4 0 0 σ [(0, .ref (ad 31)), (1, .int a1)] [] := by
  unfold fJ7_fill_53178 at h
  refine w_iconst C 0 dJ7_fill_53178_0 rfl (by decide) ?_
  refine w_istore_n C [(2, .int 0), (0, .ref (ad 31)), (1, .int a1)] dJ7_fill_53178_1 rfl (by decide) rfl ?_
  refine w_aload_n C dJ7_fill_53178_2 rfl 1 rfl ?_
  refine w_alen C 31 8 0 8 (Nat.le_of_ble_eq_true rfl) (fun _ => rfl) rfl (by decide) dJ7_fill_53178_3 rfl ?_
  refine w_istore_n C [(3, .int 8), (2, .int 0), (0, .ref (ad 31)), (1, .int a1)] dJ7_fill_53178_4 rfl (by decide) rfl ?_
  refine w_sub (lv' := [(3, .int 8), (2, .int 0), (0, .ref (ad 31)), (1, .int a1)]) [0, 1, 2, 3] rfl ?_
  refine lp_w (fun v1 : St × Int32 => WP X (gC D cI ad) 4 0 5 v1.1 [(3, .int 8), (2, .int v1.2), (0, .ref (ad 31)), (1, .int a1)] []) (fun K2 hK3 v1 h => ?_) F _ h
  refine w_iload_n C dJ7_fill_53178_5 rfl 1 rfl ?_
  refine w_iload_n C dJ7_fill_53178_6 rfl 0 rfl ?_
  refine w_icmp_ge C (qt := 20) dJ7_fill_53178_7 (by decide) rfl h (fun _ h => ?_) (fun _ h => ?_)
  · exact w_rv hr h (by decide) dJ7_fill_53178_20
  · refine w_aload_n C dJ7_fill_53178_10 rfl 2 rfl ?_
    refine w_iload_n C dJ7_fill_53178_11 rfl 1 rfl ?_
    refine w_iload_n C dJ7_fill_53178_12 rfl 3 rfl ?_
    refine w_iast C 31 8 0 (Nat.le_of_ble_eq_true rfl) (fun _ => rfl) rfl h dJ7_fill_53178_13 rfl (fun h => ?_)
    refine w_nst h (fun u4 h => ?_)
    refine w_iinc (j := 1) C (v1.2 + 1) [(2, .int (v1.2 + 1)), (3, .int 8), (0, .ref (ad 31)), (1, .int a1)] dJ7_fill_53178_14 rfl rfl rfl (by decide) rfl ?_
    refine w_goto (q := 5) C dJ7_fill_53178_17 (by decide) ?_
    exact w_sub (lv' := [(3, .int 8), (2, .int (v1.2 + 1)), (0, .ref (ad 31)), (1, .int a1)]) [1, 0, 2, 3] rfl (hK3 ((u4, v1.2 + 1)) h)
theorem cfJ7_fill_53178 (D : va_G) (cI : ClassId) (ad : Nat → Nat) {l : Launch} (had : gAp (gC D cI ad)) {F : Nat} {σ : St} {a1 : Int32} {σ' : St} (h : fJ7_fill_53178 F σ a1 = some σ') : MV l yJ7_fill_53178 (wB yJ7_fill_53178 cJ7_fill_53178 4 none) 0 0 (gC D cI ad) [.ref (ad 31), .int a1] σ σ' := mk_MV had (by decide +kernel) (Nat.le_of_ble_eq_true rfl) (fun X hX C hr => wfJ7_fill_53178 C hr h)

def fJ7_fill_53178_2 (F : Nat) (σ : St) (a1 : Int32) : Option St := lp (fun (K2 : (St × Int32) → Option St) (v1 : St × Int32) => if (8 : Int32) ≤ v1.2 then (some v1.1) else ckI (v1.2) 8 (nm (up v1.1 32 (Int32.toNatClampNeg v1.2) a1) fun u4 => K2 ((u4, v1.2 + 1)))) F ((σ, 0))
set_option maxRecDepth 20000 in
theorem wfJ7_fill_53178_2 {X : XT} {D : va_G} {cI : ClassId} {ad : Nat → Nat} {F : Nat} {σ : St} {a1 : Int32} {σ' : St} (C : Cx X (gC D cI ad) cJ7_fill_53178 4 RJ7 0 0 0) (hr : RetV X (gC D cI ad) cJ7_fill_53178 4 0 σ') (h : fJ7_fill_53178_2 F σ a1 = some σ') : WP X (gC D cI ad) 4 0 0 σ [(0, .ref (ad 32)), (1, .int a1)] [] := by
  unfold fJ7_fill_53178_2 at h
  refine w_iconst C 0 dJ7_fill_53178_0 rfl (by decide) ?_
  refine w_istore_n C [(2, .int 0), (0, .ref (ad 32)), (1, .int a1)] dJ7_fill_53178_1 rfl (by decide) rfl ?_
  refine w_aload_n C dJ7_fill_53178_2 rfl 1 rfl ?_
  refine w_alen C 32 8 0 8 (Nat.le_of_ble_eq_true rfl) (fun _ => rfl) rfl (by decide) dJ7_fill_53178_3 rfl ?_
  refine w_istore_n C [(3, .int 8), (2, .int 0), (0, .ref (ad 32)), (1, .int a1)] dJ7_fill_53178_4 rfl (by decide) rfl ?_
  refine w_sub (lv' := [(3, .int 8), (2, .int 0), (0, .ref (ad 32)), (1, .int a1)]) [0, 1, 2, 3] rfl ?_
  refine lp_w (fun v1 : St × Int32 => WP X (gC D cI ad) 4 0 5 v1.1 [(3, .int 8), (2, .int v1.2), (0, .ref (ad 32)), (1, .int a1)] []) (fun K2 hK3 v1 h => ?_) F _ h
  refine w_iload_n C dJ7_fill_53178_5 rfl 1 rfl ?_
  refine w_iload_n C dJ7_fill_53178_6 rfl 0 rfl ?_
  refine w_icmp_ge C (qt := 20) dJ7_fill_53178_7 (by decide) rfl h (fun _ h => ?_) (fun _ h => ?_)
  · exact w_rv hr h (by decide) dJ7_fill_53178_20
  · refine w_aload_n C dJ7_fill_53178_10 rfl 2 rfl ?_
    refine w_iload_n C dJ7_fill_53178_11 rfl 1 rfl ?_
    refine w_iload_n C dJ7_fill_53178_12 rfl 3 rfl ?_
    refine w_iast C 32 8 0 (Nat.le_of_ble_eq_true rfl) (fun _ => rfl) rfl h dJ7_fill_53178_13 rfl (fun h => ?_)
    refine w_nst h (fun u4 h => ?_)
    refine w_iinc (j := 1) C (v1.2 + 1) [(2, .int (v1.2 + 1)), (3, .int 8), (0, .ref (ad 32)), (1, .int a1)] dJ7_fill_53178_14 rfl rfl rfl (by decide) rfl ?_
    refine w_goto (q := 5) C dJ7_fill_53178_17 (by decide) ?_
    exact w_sub (lv' := [(3, .int 8), (2, .int (v1.2 + 1)), (0, .ref (ad 32)), (1, .int a1)]) [1, 0, 2, 3] rfl (hK3 ((u4, v1.2 + 1)) h)
theorem cfJ7_fill_53178_2 (D : va_G) (cI : ClassId) (ad : Nat → Nat) {l : Launch} (had : gAp (gC D cI ad)) {F : Nat} {σ : St} {a1 : Int32} {σ' : St} (h : fJ7_fill_53178_2 F σ a1 = some σ') : MV l yJ7_fill_53178 (wB yJ7_fill_53178 cJ7_fill_53178 4 none) 0 0 (gC D cI ad) [.ref (ad 32), .int a1] σ σ' := mk_MV had (by decide +kernel) (Nat.le_of_ble_eq_true rfl) (fun X hX C hr => wfJ7_fill_53178_2 C hr h)

def fJ7_fill_53178_3 (F : Nat) (σ : St) (a1 : Int32) : Option St := lp (fun (K2 : (St × Int32) → Option St) (v1 : St × Int32) => if (48 : Int32) ≤ v1.2 then (some v1.1) else ckI (v1.2) 48 (nm (up v1.1 34 (Int32.toNatClampNeg v1.2) a1) fun u4 => K2 ((u4, v1.2 + 1)))) F ((σ, 0))
set_option maxRecDepth 20000 in
theorem wfJ7_fill_53178_3 {X : XT} {D : va_G} {cI : ClassId} {ad : Nat → Nat} {F : Nat} {σ : St} {a1 : Int32} {σ' : St} (C : Cx X (gC D cI ad) cJ7_fill_53178 4 RJ7 0 0 0) (hr : RetV X (gC D cI ad) cJ7_fill_53178 4 0 σ') (h : fJ7_fill_53178_3 F σ a1 = some σ') : WP X (gC D cI ad) 4 0 0 σ [(0, .ref (ad 34)), (1, .int a1)] [] := by
  unfold fJ7_fill_53178_3 at h
  refine w_iconst C 0 dJ7_fill_53178_0 rfl (by decide) ?_
  refine w_istore_n C [(2, .int 0), (0, .ref (ad 34)), (1, .int a1)] dJ7_fill_53178_1 rfl (by decide) rfl ?_
  refine w_aload_n C dJ7_fill_53178_2 rfl 1 rfl ?_
  refine w_alen C 34 48 0 48 (Nat.le_of_ble_eq_true rfl) (fun _ => rfl) rfl (by decide) dJ7_fill_53178_3 rfl ?_
  refine w_istore_n C [(3, .int 48), (2, .int 0), (0, .ref (ad 34)), (1, .int a1)] dJ7_fill_53178_4 rfl (by decide) rfl ?_
  refine w_sub (lv' := [(3, .int 48), (2, .int 0), (0, .ref (ad 34)), (1, .int a1)]) [0, 1, 2, 3] rfl ?_
  refine lp_w (fun v1 : St × Int32 => WP X (gC D cI ad) 4 0 5 v1.1 [(3, .int 48), (2, .int v1.2), (0, .ref (ad 34)), (1, .int a1)] []) (fun K2 hK3 v1 h => ?_) F _ h
  refine w_iload_n C dJ7_fill_53178_5 rfl 1 rfl ?_
  refine w_iload_n C dJ7_fill_53178_6 rfl 0 rfl ?_
  refine w_icmp_ge C (qt := 20) dJ7_fill_53178_7 (by decide) rfl h (fun _ h => ?_) (fun _ h => ?_)
  · exact w_rv hr h (by decide) dJ7_fill_53178_20
  · refine w_aload_n C dJ7_fill_53178_10 rfl 2 rfl ?_
    refine w_iload_n C dJ7_fill_53178_11 rfl 1 rfl ?_
    refine w_iload_n C dJ7_fill_53178_12 rfl 3 rfl ?_
    refine w_iast C 34 48 0 (Nat.le_of_ble_eq_true rfl) (fun _ => rfl) rfl h dJ7_fill_53178_13 rfl (fun h => ?_)
    refine w_nst h (fun u4 h => ?_)
    refine w_iinc (j := 1) C (v1.2 + 1) [(2, .int (v1.2 + 1)), (3, .int 48), (0, .ref (ad 34)), (1, .int a1)] dJ7_fill_53178_14 rfl rfl rfl (by decide) rfl ?_
    refine w_goto (q := 5) C dJ7_fill_53178_17 (by decide) ?_
    exact w_sub (lv' := [(3, .int 48), (2, .int (v1.2 + 1)), (0, .ref (ad 34)), (1, .int a1)]) [1, 0, 2, 3] rfl (hK3 ((u4, v1.2 + 1)) h)
theorem cfJ7_fill_53178_3 (D : va_G) (cI : ClassId) (ad : Nat → Nat) {l : Launch} (had : gAp (gC D cI ad)) {F : Nat} {σ : St} {a1 : Int32} {σ' : St} (h : fJ7_fill_53178_3 F σ a1 = some σ') : MV l yJ7_fill_53178 (wB yJ7_fill_53178 cJ7_fill_53178 4 none) 0 0 (gC D cI ad) [.ref (ad 34), .int a1] σ σ' := mk_MV had (by decide +kernel) (Nat.le_of_ble_eq_true rfl) (fun X hX C hr => wfJ7_fill_53178_3 C hr h)

def fX9_begin (F : Nat) (σ : St) : Option St := nm (up σ 30 0 0) fun u2 => nm (up u2 30 1 0) fun u4 => nm (up u4 30 2 0) fun u6 => bd1 (fJ7_fill_53178 F u6 0) fun u7 => bd1 (fJ7_fill_53178_2 F u7 0) fun u8 => bd1 (fJ7_fill_53178_3 F u8 0) fun u9 => nm (acp u9 10 0 33 0 80) fun u10 => some u10
set_option maxRecDepth 20000 in
theorem wfX9_begin {X : XT} {D : va_G} {cI : ClassId} {ad : Nat → Nat} {F : Nat} {σ : St}  {σ' : St} (C : Cx X (gC D cI ad) cX9_begin 2 RX9 1 40 0) (hr : RetV X (gC D cI ad) cX9_begin 2 0 σ') (h : fX9_begin F σ = some σ') : WP X (gC D cI ad) 2 0 0 σ [(0, .ref (ad 30)), (1, .ref (ad 2))] [] := by
  unfold fX9_begin at h
  refine w_aload_n C dX9_begin_0 rfl 0 rfl ?_
  refine w_iconst C 0 dX9_begin_1 rfl (by decide) ?_
  refine w_put C 30 0 0 (Nat.le_of_ble_eq_true rfl) rfl rfl inB_X9 tyX9_ok nmX9 (by decide) tw1_189 rfl rfl rfl (Nat.le_of_ble_eq_true rfl) rfl dX9_begin_2 rfl ?_
  refine w_nst h (fun u2 h => ?_)
  refine w_aload_n C dX9_begin_5 rfl 0 rfl ?_
  refine w_iconst C 0 dX9_begin_6 rfl (by decide) ?_
  refine w_put C 30 1 0 (Nat.le_of_ble_eq_true rfl) rfl rfl inB_X9 tyX9_ok nmX9 (by decide) tw1_192 rfl rfl rfl (Nat.le_of_ble_eq_true rfl) rfl dX9_begin_7 rfl ?_
  refine w_nst h (fun u4 h => ?_)
  refine w_aload_n C dX9_begin_10 rfl 0 rfl ?_
  refine w_iconst C 0 dX9_begin_11 rfl (by decide) ?_
  refine w_put C 30 2 0 (Nat.le_of_ble_eq_true rfl) rfl rfl inB_X9 tyX9_ok nmX9 (by decide) tw1_194 rfl rfl rfl (Nat.le_of_ble_eq_true rfl) rfl dX9_begin_12 rfl ?_
  refine w_nst h (fun u6 h => ?_)
  refine w_aload_n C dX9_begin_15 rfl 0 rfl ?_
  refine w_get C 30 3 (Nat.le_of_ble_eq_true rfl) rfl rfl inB_X9 (by decide) tw1_197 rfl dX9_begin_16 rfl ?_
  refine w_iconst C 0 dX9_begin_19 rfl (by decide) ?_
  refine bd1_w h (fun u7 hc h => ?_)
  refine w_callSv C (n := 2) (As := [.ref (ad 31), .int 0]) (st := []) (cfJ7_fill_53178 D cI ad (l := X.2.1) C.2.2.1 hc) tw4_77 cs_J7_fill_53178 (by decide +kernel) ⟨Nat.le_of_ble_eq_true rfl, Nat.le_of_ble_eq_true rfl⟩ (by decide) rfl rfl (Nat.le_of_ble_eq_true rfl) dX9_begin_20 rfl ?_
  refine w_aload_n C dX9_begin_23 rfl 0 rfl ?_
  refine w_get C 30 4 (Nat.le_of_ble_eq_true rfl) rfl rfl inB_X9 (by decide) tw1_199 rfl dX9_begin_24 rfl ?_
  refine w_iconst C 0 dX9_begin_27 rfl (by decide) ?_
  refine bd1_w h (fun u8 hc h => ?_)
  refine w_callSv C (n := 2) (As := [.ref (ad 32), .int 0]) (st := []) (cfJ7_fill_53178_2 D cI ad (l := X.2.1) C.2.2.1 hc) tw4_77 cs_J7_fill_53178 (by decide +kernel) ⟨Nat.le_of_ble_eq_true rfl, Nat.le_of_ble_eq_true rfl⟩ (by decide) rfl rfl (Nat.le_of_ble_eq_true rfl) dX9_begin_28 rfl ?_
  refine w_aload_n C dX9_begin_31 rfl 0 rfl ?_
  refine w_get C 30 6 (Nat.le_of_ble_eq_true rfl) rfl rfl inB_X9 (by decide) tw1_207 rfl dX9_begin_32 rfl ?_
  refine w_iconst C 0 dX9_begin_35 rfl (by decide) ?_
  refine bd1_w h (fun u9 hc h => ?_)
  refine w_callSv C (n := 2) (As := [.ref (ad 34), .int 0]) (st := []) (cfJ7_fill_53178_3 D cI ad (l := X.2.1) C.2.2.1 hc) tw4_77 cs_J7_fill_53178 (by decide +kernel) ⟨Nat.le_of_ble_eq_true rfl, Nat.le_of_ble_eq_true rfl⟩ (by decide) rfl rfl (Nat.le_of_ble_eq_true rfl) dX9_begin_36 rfl ?_
  refine w_aload_n C dX9_begin_39 rfl 1 rfl ?_
  refine w_get C 2 12 (Nat.le_of_ble_eq_true rfl) rfl rfl inB_X0 (by decide) tw1_110 rfl dX9_begin_40 rfl ?_
  refine w_iconst C 0 dX9_begin_43 rfl (by decide) ?_
  refine w_aload_n C dX9_begin_44 rfl 0 rfl ?_
  refine w_get C 30 5 (Nat.le_of_ble_eq_true rfl) rfl rfl inB_X9 (by decide) tw1_203 rfl dX9_begin_45 rfl ?_
  refine w_iconst C 0 dX9_begin_48 rfl (by decide) ?_
  refine w_bipush C 80 dX9_begin_49 rfl (by decide) ?_
  refine w_acopy C 10 33 80 80 0 0 0 80 (all4 tw3_2 tw3_4 tw3_3 tw1_22) (Nat.le_of_ble_eq_true rfl) (Nat.le_of_ble_eq_true rfl) (fun _ => rfl) (fun _ => rfl) rfl ⟨by decide, by decide⟩ ⟨by decide, by decide⟩ ⟨by decide, by decide⟩ (by decide) (by decide) ⟨Nat.le_of_ble_eq_true rfl, Nat.le_of_ble_eq_true rfl⟩ dX9_begin_51 rfl ?_
  refine w_nst h (fun u10 h => ?_)
  exact w_rv hr h (by decide) dX9_begin_54
theorem cfX9_begin (D : va_G) (cI : ClassId) (ad : Nat → Nat) {l : Launch} (had : gAp (gC D cI ad)) {F : Nat} {σ : St}  {σ' : St} (h : fX9_begin F σ = some σ') : MV l yX9_begin (wB yX9_begin cX9_begin 2 none) 1 40 (gC D cI ad) [.ref (ad 30), .ref (ad 2)] σ σ' := mk_MV had (by decide +kernel) (Nat.le_of_ble_eq_true rfl) (fun X hX C hr => wfX9_begin C hr h)

def fX10_ball (F : Nat) (σ : St) (a0 : Int32) : Option (Nat × Int32 × St) := jn (fun v1 : Unit => some (2, 0, σ)) fun J2 => if a0 < 0 then (J2 (())) else if a0 ≤ (σ 0 1) then (nm (up σ 0 1 0) fun u5 => bd2 (fX7_readText F u5 a0) fun r6 u7 => if r6 = 0 then (nm (up u7 0 2 (u7 28 7)) fun u15 => nm (up u15 41 0 ((u15 41 0) + 1)) fun u16 => some (0, u16 28 6, u16)) else nm (up u7 0 2 ((-1))) fun u9 => bd1 (fX0_become F u9) fun u10 => bd1 (fX9_begin F u10) fun u11 => nm (up u11 0 3 0) fun u13 => some (0, 0, u13)) else J2 (())
set_option maxRecDepth 20000 in
theorem wfX10_ball {X : XT} {D : va_G} {cI : ClassId} {ad : Nat → Nat} {F : Nat} {σ : St} {a0 : Int32} {res : Nat × Int32 × St} (C : Cx X (gC D cI ad) cX10_ball 2 RX10 124 2705 1) (hr : RetXi X (gC D cI ad) cX10_ball 2 1 res) (hx : ThrX X (gC D cI ad) cX10_ball 2 1 res) (h : fX10_ball F σ a0 = some res) : WP X (gC D cI ad) 2 0 0 σ [(0, .ref (ad 0)), (1, .int a0)] [] := by
  unfold fX10_ball at h
  refine w_iload_n C dX10_ball_0 rfl 1 rfl ?_
  refine jn_w (fun v1 : Unit => WP X (gC D cI ad) 2 0 12 σ [] []) h (fun v1 h => ?_) (fun J2 hJ3 h => ?_)
  · exact w_thr2 hx (tx := "the tape has not so many bytes") 100 (by decide) h (by decide) dX10_ball_12 dX10_ball_15 dX10_ball_16 dX10_ball_18 dX10_ball_21
  · refine w_if_lt C (qt := 12) dX10_ball_1 (by decide) rfl h (fun _ h => ?_) (fun _ h => ?_)
    · exact w_sub (lv' := []) [] rfl (hJ3 (()) h)
    · refine w_iload_n C dX10_ball_4 rfl 1 rfl ?_
      refine w_aload_n C dX10_ball_5 rfl 0 rfl ?_
      refine w_get C 0 1 (Nat.le_of_ble_eq_true rfl) rfl rfl inB_X10 (by decide) tw2_173 rfl dX10_ball_6 rfl ?_
      refine w_icmp_le C (qt := 22) dX10_ball_9 (by decide) rfl h (fun _ h => ?_) (fun _ h => ?_)
      · refine w_aload_n C dX10_ball_22 rfl 0 rfl ?_
        refine w_iconst C 0 dX10_ball_23 rfl (by decide) ?_
        refine w_put C 0 1 0 (Nat.le_of_ble_eq_true rfl) rfl rfl inB_X10 tyX10_ok nmX10 (by decide) tw2_173 rfl rfl rfl (Nat.le_of_ble_eq_true rfl) rfl dX10_ball_24 rfl ?_
        refine w_nst h (fun u5 h => ?_)
        refine w_aload_n C dX10_ball_27 rfl 0 rfl ?_
        refine w_get C 0 6 (Nat.le_of_ble_eq_true rfl) rfl rfl inB_X10 (by decide) tw2_178 rfl dX10_ball_28 rfl ?_
        refine w_aload_n C dX10_ball_31 rfl 0 rfl ?_
        refine w_get C 0 0 (Nat.le_of_ble_eq_true rfl) rfl rfl inB_X10 (by decide) tw2_172 rfl dX10_ball_32 rfl ?_
        refine w_iload_n C dX10_ball_35 rfl 1 rfl ?_
        refine bd2_w h (fun r6 u7 hc h => ?_)
        refine w_callVi C (n := 2) (As := [.ref (ad 1), .int a0]) (st := []) 28 (Nat.le_of_ble_eq_true rfl) rfl rfl (cfX7_readText D cI ad (l := X.2.1) C.2.2.1 hc) tw3_107 cy_X7_readText (by decide +kernel) ⟨Nat.le_of_ble_eq_true rfl, Nat.le_of_ble_eq_true rfl⟩ (by decide) rfl rfl (Nat.le_of_ble_eq_true rfl) dX10_ball_36 rfl ?_
        refine w_if_ne C (qt := 74) dX10_ball_39 (by decide) rfl h (fun _ h => ?_) (fun _ h => ?_)
        · refine w_aload_n C dX10_ball_74 rfl 0 rfl ?_
          refine w_iconst C (-1) dX10_ball_75 rfl (by decide) ?_
          refine w_put C 0 2 ((-1)) (Nat.le_of_ble_eq_true rfl) rfl rfl inB_X10 tyX10_ok nmX10 (by decide) tw2_174 rfl rfl rfl (Nat.le_of_ble_eq_true rfl) rfl dX10_ball_76 rfl ?_
          refine w_nst h (fun u9 h => ?_)
          refine w_aload_n C dX10_ball_79 rfl 0 rfl ?_
          refine w_get C 0 4 (Nat.le_of_ble_eq_true rfl) rfl rfl inB_X10 (by decide) tw2_176 rfl dX10_ball_80 rfl ?_
          refine w_aload_n C dX10_ball_83 rfl 0 rfl ?_
          refine w_get C 0 5 (Nat.le_of_ble_eq_true rfl) rfl rfl inB_X10 (by decide) tw2_177 rfl dX10_ball_84 rfl ?_
          refine bd1_w h (fun u10 hc h => ?_)
          refine w_callVv C (n := 1) (As := [.ref (ad 15)]) (st := []) 2 (Nat.le_of_ble_eq_true rfl) rfl rfl (cfX0_become D cI ad (l := X.2.1) C.2.2.1 hc) tw4_63 cy_X0_become (by decide +kernel) ⟨Nat.le_of_ble_eq_true rfl, Nat.le_of_ble_eq_true rfl⟩ (by decide) rfl rfl (Nat.le_of_ble_eq_true rfl) dX10_ball_87 rfl ?_
          refine w_aload_n C dX10_ball_90 rfl 0 rfl ?_
          refine w_get C 0 7 (Nat.le_of_ble_eq_true rfl) rfl rfl inB_X10 (by decide) tw2_179 rfl dX10_ball_91 rfl ?_
          refine w_aload_n C dX10_ball_94 rfl 0 rfl ?_
          refine w_get C 0 4 (Nat.le_of_ble_eq_true rfl) rfl rfl inB_X10 (by decide) tw2_176 rfl dX10_ball_95 rfl ?_
          refine bd1_w h (fun u11 hc h => ?_)
          refine w_callVv C (n := 1) (As := [.ref (ad 2)]) (st := []) 30 (Nat.le_of_ble_eq_true rfl) rfl rfl (cfX9_begin D cI ad (l := X.2.1) C.2.2.1 hc) tw4_73 cy_X9_begin (by decide +kernel) ⟨Nat.le_of_ble_eq_true rfl, Nat.le_of_ble_eq_true rfl⟩ (by decide) rfl rfl (Nat.le_of_ble_eq_true rfl) dX10_ball_98 rfl ?_
          refine w_aload_n C dX10_ball_101 rfl 0 rfl ?_
          refine w_iconst C 0 dX10_ball_102 rfl (by decide) ?_
          refine w_put C 0 3 0 (Nat.le_of_ble_eq_true rfl) rfl rfl inB_X10 tyX10_ok nmX10 (by decide) tw2_175 rfl rfl rfl (Nat.le_of_ble_eq_true rfl) rfl dX10_ball_103 rfl ?_
          refine w_nst h (fun u13 h => ?_)
          refine w_iconst C 0 dX10_ball_106 rfl (by decide) ?_
          exact w_rxi hr h (by decide) dX10_ball_107
        · refine w_aload_n C dX10_ball_42 rfl 0 rfl ?_
          refine w_aload_n C dX10_ball_43 rfl 0 rfl ?_
          refine w_get C 0 6 (Nat.le_of_ble_eq_true rfl) rfl rfl inB_X10 (by decide) tw2_178 rfl dX10_ball_44 rfl ?_
          refine w_get C 28 7 (Nat.le_of_ble_eq_true rfl) rfl rfl inB_X7 (by decide) tw1_165 rfl dX10_ball_47 rfl ?_
          refine w_put C 0 2 (u7 28 7) (Nat.le_of_ble_eq_true rfl) rfl rfl inB_X10 tyX10_ok nmX10 (by decide) tw2_174 rfl rfl rfl (Nat.le_of_ble_eq_true rfl) rfl dX10_ball_50 rfl ?_
          refine w_nst h (fun u15 h => ?_)
          refine w_aload_n C dX10_ball_53 rfl 0 rfl ?_
          refine w_get C 0 7 (Nat.le_of_ble_eq_true rfl) rfl rfl inB_X10 (by decide) tw2_179 rfl dX10_ball_54 rfl ?_
          refine w_get C 30 13 (Nat.le_of_ble_eq_true rfl) rfl rfl inB_X9 (by decide) tw1_222 rfl dX10_ball_57 rfl ?_
          refine w_iconst C 0 dX10_ball_60 rfl (by decide) ?_
          refine w_dup2 C rfl rfl dX10_ball_61 rfl ?_
          refine w_ialdc C 41 3 0 0 (Nat.le_of_ble_eq_true rfl) (fun _ => rfl) rfl (by decide) (by show ¬ (_ ∨ _); decide) dX10_ball_62 rfl ?_
          refine w_iconst C 1 dX10_ball_63 rfl (by decide) ?_
          refine w_iadd C dX10_ball_64 rfl ?_
          refine w_iastc C 41 3 0 0 (Nat.le_of_ble_eq_true rfl) (fun _ => rfl) rfl (by decide) (by show ¬ (_ ∨ _); decide) dX10_ball_65 rfl ?_
          refine w_nst h (fun u16 h => ?_)
          refine w_aload_n C dX10_ball_66 rfl 0 rfl ?_
          refine w_get C 0 6 (Nat.le_of_ble_eq_true rfl) rfl rfl inB_X10 (by decide) tw2_178 rfl dX10_ball_67 rfl ?_
          refine w_get C 28 6 (Nat.le_of_ble_eq_true rfl) rfl rfl inB_X7 (by decide) tw1_163 rfl dX10_ball_70 rfl ?_
          exact w_rxi hr h (by decide) dX10_ball_73
      · exact w_sub (lv' := []) [] rfl (hJ3 (()) h)
theorem cfX10_ball (D : va_G) (cI : ClassId) (ad : Nat → Nat) {l : Launch} (had : gAp (gC D cI ad)) (hst : l.stackTraces = false) {F : Nat} {σ : St} {a0 : Int32} {res : Nat × Int32 × St} (h : fX10_ball F σ a0 = some res) : MX l yX10_ball (wB yX10_ball cX10_ball 2 (some .int)) 124 2705 1 (gC D cI ad) [.ref (ad 0), .int a0] σ res := mk_MX had (by decide +kernel) (Nat.le_of_ble_eq_true rfl) hst rfl (by decide) (by decide) (fun X hX C hr hx => wfX10_ball C hr hx h)

