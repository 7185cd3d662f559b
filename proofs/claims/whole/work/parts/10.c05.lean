def fX6_countOf (F : Nat) (σ : St) (a0 : Int32) (a1 : Int32) (a2 : Int32) : Option Int32 := lp (fun (K2 : (Int32 × Int32) → Option Int32) (v1 : Int32 × Int32) => if (σ 2 1) ≤ v1.1 then (some v1.2) else bd1 (fX6_sideOf F σ v1.1 a0) fun r4 => if r4 = ((-1)) then (K2 ((v1.1 + 1, v1.2))) else if ((a2 >>> (v1.1 &&& 31)) &&& 1) = 0 then (K2 ((v1.1 + 1, v1.2))) else bd1 (fX6_countIn F σ v1.1 r4 a1) fun r5 => nm (v1.2 + r5) fun x6 => K2 ((v1.1 + 1, x6))) F ((0, 0))
set_option maxRecDepth 20000 in
theorem wfX6_countOf {X : XT} {D : va_G} {cI : ClassId} {ad : Nat → Nat} {F : Nat} {σ : St} {a0 : Int32} {a1 : Int32} {a2 : Int32} {r : Int32} (C : Cx X (gC D cI ad) cX6_countOf 7 RX6 5 120 0) (hr : RetI X (gC D cI ad) cX6_countOf 7 0 r σ) (h : fX6_countOf F σ a0 a1 a2 = some r) : WP X (gC D cI ad) 7 0 0 σ [(0, .ref (ad 81)), (1, .int a0), (2, .int a1), (3, .int a2)] [] := by
  unfold fX6_countOf at h
  refine w_iconst C 0 dX6_countOf_0 rfl (by decide) ?_
  refine w_istore C [(4, .int 0), (0, .ref (ad 81)), (1, .int a0), (2, .int a1), (3, .int a2)] dX6_countOf_1 rfl (by decide) rfl ?_
  refine w_iconst C 0 dX6_countOf_3 rfl (by decide) ?_
  refine w_istore C [(5, .int 0), (4, .int 0), (0, .ref (ad 81)), (1, .int a0), (2, .int a1), (3, .int a2)] dX6_countOf_4 rfl (by decide) rfl ?_
  refine w_sub [0, 1, 2, 3, 4, 5] rfl ?_
  refine lp_w (fun v1 : Int32 × Int32 => WP X (gC D cI ad) 7 0 6 σ [(5, .int v1.1), (4, .int v1.2), (0, .ref (ad 81)), (1, .int a0), (2, .int a1), (3, .int a2)] []) (fun K2 hK3 v1 h => ?_) F _ h
  refine w_iload C dX6_countOf_6 rfl 0 rfl ?_
  refine w_aload_n C dX6_countOf_8 rfl 2 rfl ?_
  refine w_get C 81 0 (Nat.le_of_ble_eq_true rfl) rfl rfl inB_X6 (by decide) tw2_101 rfl dX6_countOf_9 rfl ?_
  refine w_get C 2 1 (Nat.le_of_ble_eq_true rfl) rfl rfl inB_X0 (by decide) tw1_65 rfl dX6_countOf_12 rfl ?_
  refine w_icmp_ge C (qt := 62) dX6_countOf_15 (by decide) rfl h (fun _ h => ?_) (fun _ h => ?_)
  · refine w_iload C dX6_countOf_62 rfl 1 rfl ?_
    exact w_ri1 hr h (by decide) dX6_countOf_64
  · refine w_aload_n C dX6_countOf_18 rfl 2 rfl ?_
    refine w_iload C dX6_countOf_19 rfl 0 rfl ?_
    refine w_iload_n C dX6_countOf_21 rfl 3 rfl ?_
    refine bd1_w h (fun r4 hc h => ?_)
    refine w_callVi C (As := [.int v1.1, .int a0]) (st := []) 81 (Nat.le_of_ble_eq_true rfl) rfl rfl (cfX6_sideOf D cI ad (l := X.2.1) C.2.2.1 hc) tw4_213 cy_X6_sideOf (by decide +kernel) ⟨Nat.le_of_ble_eq_true rfl, Nat.le_of_ble_eq_true rfl⟩ (by decide) rfl rfl (Nat.le_of_ble_eq_true rfl) dX6_countOf_22 rfl ?_
    refine w_istore C [(6, .int r4), (5, .int v1.1), (4, .int v1.2), (0, .ref (ad 81)), (1, .int a0), (2, .int a1), (3, .int a2)] dX6_countOf_25 rfl (by decide) rfl ?_
    refine w_iload C dX6_countOf_27 rfl 0 rfl ?_
    refine w_iconst C (-1) dX6_countOf_29 rfl (by decide) ?_
    refine w_icmp_eq C (qt := 56) dX6_countOf_30 (by decide) rfl h (fun _ h => ?_) (fun _ h => ?_)
    · refine w_iinc (j := 1) C (v1.1 + 1) [(5, .int (v1.1 + 1)), (6, .int r4), (4, .int v1.2), (0, .ref (ad 81)), (1, .int a0), (2, .int a1), (3, .int a2)] dX6_countOf_56 rfl rfl rfl (by decide) rfl ?_
      refine w_goto (q := 6) C dX6_countOf_59 (by decide) ?_
      exact w_sub [0, 2, 3, 4, 5, 6] rfl (hK3 _ h)
    · refine w_iload_n C dX6_countOf_33 rfl 6 rfl ?_
      refine w_iload C dX6_countOf_34 rfl 1 rfl ?_
      refine w_ishr C dX6_countOf_36 rfl ?_
      refine w_iconst C 1 dX6_countOf_37 rfl (by decide) ?_
      refine w_iand C dX6_countOf_38 rfl ?_
      refine w_if_eq C (qt := 56) dX6_countOf_39 (by decide) rfl h (fun _ h => ?_) (fun _ h => ?_)
      · refine w_iinc (j := 1) C (v1.1 + 1) [(5, .int (v1.1 + 1)), (6, .int r4), (4, .int v1.2), (0, .ref (ad 81)), (1, .int a0), (2, .int a1), (3, .int a2)] dX6_countOf_56 rfl rfl rfl (by decide) rfl ?_
        refine w_goto (q := 6) C dX6_countOf_59 (by decide) ?_
        exact w_sub [0, 2, 3, 4, 5, 6] rfl (hK3 _ h)
      · refine w_iload C dX6_countOf_42 rfl 2 rfl ?_
        refine w_aload_n C dX6_countOf_44 rfl 3 rfl ?_
        refine w_iload C dX6_countOf_45 rfl 1 rfl ?_
        refine w_iload C dX6_countOf_47 rfl 0 rfl ?_
        refine w_iload_n C dX6_countOf_49 rfl 5 rfl ?_
        refine bd1_w h (fun r5 hc h => ?_)
        refine w_callVi C (As := [.int v1.1, .int r4, .int a1]) (st := [.int v1.2]) 81 (Nat.le_of_ble_eq_true rfl) rfl rfl (cfX6_countIn D cI ad (l := X.2.1) C.2.2.1 hc) tw5_78 cy_X6_countIn (by decide +kernel) ⟨Nat.le_of_ble_eq_true rfl, Nat.le_of_ble_eq_true rfl⟩ (by decide) rfl rfl (Nat.le_of_ble_eq_true rfl) dX6_countOf_50 rfl ?_
        refine w_iadd C dX6_countOf_53 rfl ?_
        refine w_nm h (fun x6 h => ?_)
        refine w_istore C [(4, .int x6), (6, .int r4), (5, .int v1.1), (0, .ref (ad 81)), (1, .int a0), (2, .int a1), (3, .int a2)] dX6_countOf_54 rfl (by decide) rfl ?_
        refine w_iinc (j := 2) C (v1.1 + 1) [(5, .int (v1.1 + 1)), (4, .int x6), (6, .int r4), (0, .ref (ad 81)), (1, .int a0), (2, .int a1), (3, .int a2)] dX6_countOf_56 rfl rfl rfl (by decide) rfl ?_
        refine w_goto (q := 6) C dX6_countOf_59 (by decide) ?_
        exact w_sub [0, 1, 3, 4, 5, 6] rfl (hK3 _ h)
theorem cfX6_countOf (D : va_G) (cI : ClassId) (ad : Nat → Nat) {l : Launch} (had : gAp (gC D cI ad)) {F : Nat} {σ : St} {a0 : Int32} {a1 : Int32} {a2 : Int32} {r : Int32} (h : fX6_countOf F σ a0 a1 a2 = some r) : MI l yX6_countOf (wB yX6_countOf cX6_countOf 7 (some .int)) 5 120 (gC D cI ad) [.ref (ad 81), .int a0, .int a1, .int a2] σ r σ := mk_MI had (by decide +kernel) (Nat.le_of_ble_eq_true rfl) (fun X hX C hr => wfX6_countOf C hr h)

def fX10_clauses (F : Nat) (σ : St) (a0 : Int32) (a1 : Int32) : Option (Nat × Int32 × St) := bd1 (fX10_checkValley F σ a0) fun t1 => if t1 = 0 then (bd1 (fX10_checkBelow F σ a1 3) fun t2 => if t2 = 0 then (bd2 (fX2_bindingBits F σ 0) fun r3 u4 => bd1 (fX6_countOf F u4 a0 a1 r3) fun r5 => some (0, r5, u4)) else some (t2, 0, σ)) else some (t1, 0, σ)
set_option maxRecDepth 20000 in
theorem wfX10_clauses {X : XT} {D : va_G} {cI : ClassId} {ad : Nat → Nat} {F : Nat} {σ : St} {a0 : Int32} {a1 : Int32} {res : Nat × Int32 × St} (C : Cx X (gC D cI ad) cX10_clauses 3 RX10 8 146 2) (hr : RetXi X (gC D cI ad) cX10_clauses 3 2 res) (hx : ThrX X (gC D cI ad) cX10_clauses 3 2 res) (h : fX10_clauses F σ a0 a1 = some res) : WP X (gC D cI ad) 3 0 0 σ [(0, .ref (ad 0)), (1, .int a0), (2, .int a1)] [] := by
  unfold fX10_clauses at h
  refine w_aload_n C dX10_clauses_0 rfl 0 rfl ?_
  refine w_iload_n C dX10_clauses_1 rfl 1 rfl ?_
  refine bd1_w h (fun t1 hc h => ?_)
  refine w_callX C hx (As := [.int a0]) (st := []) 0 (by decide) rfl rfl (cfX10_checkValley D cI ad (l := X.2.1) C.2.2.1 hc) tw5_0 cy_X10_checkValley (by decide +kernel) ⟨by decide, by decide⟩ (by decide) rfl rfl (by decide) dX10_clauses_2 rfl h (fun h => ?_)
  refine w_aload_n C dX10_clauses_5 rfl 0 rfl ?_
  refine w_iload_n C dX10_clauses_6 rfl 2 rfl ?_
  refine w_iconst C 3 dX10_clauses_7 rfl (by decide) ?_
  refine bd1_w h (fun t2 hc h => ?_)
  refine w_callX C hx (As := [.int a1, .int 3]) (st := []) 0 (by decide) rfl rfl (cfX10_checkBelow D cI ad (l := X.2.1) C.2.2.1 hc) tw5_51 cy_X10_checkBelow (by decide +kernel) ⟨by decide, by decide⟩ (by decide) rfl rfl (by decide) dX10_clauses_8 rfl h (fun h => ?_)
  refine w_aload_n C dX10_clauses_11 rfl 0 rfl ?_
  refine w_get C 0 12 (Nat.le_of_ble_eq_true rfl) rfl rfl inB_X10 (by decide) tw2_184 rfl dX10_clauses_12 rfl ?_
  refine w_iload_n C dX10_clauses_15 rfl 1 rfl ?_
  refine w_iload_n C dX10_clauses_16 rfl 2 rfl ?_
  refine w_aload_n C dX10_clauses_17 rfl 0 rfl ?_
  refine w_get C 0 10 (Nat.le_of_ble_eq_true rfl) rfl rfl inB_X10 (by decide) tw2_182 rfl dX10_clauses_18 rfl ?_
  refine w_aload_n C dX10_clauses_21 rfl 0 rfl ?_
  refine w_get C 0 7 (Nat.le_of_ble_eq_true rfl) rfl rfl inB_X10 (by decide) tw2_179 rfl dX10_clauses_22 rfl ?_
  refine w_iconst C 0 dX10_clauses_25 rfl (by decide) ?_
  refine bd2_w h (fun r3 u4 hc h => ?_)
  refine w_callVi C (As := [.ref (ad 30), .int 0]) (st := [.int a1, .int a0, .ref (ad 81)]) 66 (Nat.le_of_ble_eq_true rfl) rfl rfl (cfX2_bindingBits D cI ad (l := X.2.1) C.2.2.1 hc) tw4_88 cy_X2_bindingBits (by decide +kernel) ⟨Nat.le_of_ble_eq_true rfl, Nat.le_of_ble_eq_true rfl⟩ (by decide) rfl rfl (Nat.le_of_ble_eq_true rfl) dX10_clauses_26 rfl ?_
  refine bd1_w h (fun r5 hc h => ?_)
  refine w_callVi C (As := [.int a0, .int a1, .int r3]) (st := []) 81 (Nat.le_of_ble_eq_true rfl) rfl rfl (cfX6_countOf D cI ad (l := X.2.1) C.2.2.1 hc) tw5_74 cy_X6_countOf (by decide +kernel) ⟨Nat.le_of_ble_eq_true rfl, Nat.le_of_ble_eq_true rfl⟩ (by decide) rfl rfl (Nat.le_of_ble_eq_true rfl) dX10_clauses_29 rfl ?_
  exact w_rxi hr h (by decide) dX10_clauses_32
theorem cfX10_clauses (D : va_G) (cI : ClassId) (ad : Nat → Nat) {l : Launch} (had : gAp (gC D cI ad)) {F : Nat} {σ : St} {a0 : Int32} {a1 : Int32} {res : Nat × Int32 × St} (h : fX10_clauses F σ a0 a1 = some res) : MX l yX10_clauses (wB yX10_clauses cX10_clauses 3 (some .int)) 8 146 2 (gC D cI ad) [.ref (ad 0), .int a0, .int a1] σ res := mk_MX had (by decide +kernel) (Nat.le_of_ble_eq_true rfl) (fun X hX C hr hx => wfX10_clauses C hr hx h)

def fX10_done (F : Nat) (σ : St) (a0 : Int32) (a1 : Int32) (a2 : Int32) : Option (Nat × Int32 × St) := bd1 (fX10_checkValley F σ a0) fun t1 => if t1 = 0 then (bd1 (fX10_checkBelow F σ a1 8) fun t2 => if t2 = 0 then (bd1 (fX10_checkBelow F σ a2 2) fun t3 => if t3 = 0 then (if a2 = 0 then (ckI ((a0 * 8) + a1) 48 (some (0, σ 34 (Int32.toNatClampNeg ((a0 * 8) + a1)), σ))) else bd2 (fX2_bindingBits F σ 0) fun r4 u5 => bd1 (fX6_weighAll F u5 r4) fun u6 => bd1 (fX6_hasStamped F u6 a0 a1 0) fun r7 => if r7 = 0 then (some (0, 0, u6)) else some (0, 1, u6)) else some (t3, 0, σ)) else some (t2, 0, σ)) else some (t1, 0, σ)
set_option maxRecDepth 20000 in
theorem wfX10_done {X : XT} {D : va_G} {cI : ClassId} {ad : Nat → Nat} {F : Nat} {σ : St} {a0 : Int32} {a1 : Int32} {a2 : Int32} {res : Nat × Int32 × St} (C : Cx X (gC D cI ad) cX10_done 4 RX10 8 140 3) (hr : RetXi X (gC D cI ad) cX10_done 4 3 res) (hx : ThrX X (gC D cI ad) cX10_done 4 3 res) (h : fX10_done F σ a0 a1 a2 = some res) : WP X (gC D cI ad) 4 0 0 σ [(0, .ref (ad 0)), (1, .int a0), (2, .int a1), (3, .int a2)] [] := by
  unfold fX10_done at h
  refine w_aload_n C dX10_done_0 rfl 0 rfl ?_
  refine w_iload_n C dX10_done_1 rfl 1 rfl ?_
  refine bd1_w h (fun t1 hc h => ?_)
  refine w_callX C hx (As := [.int a0]) (st := []) 0 (by decide) rfl rfl (cfX10_checkValley D cI ad (l := X.2.1) C.2.2.1 hc) tw5_0 cy_X10_checkValley (by decide +kernel) ⟨by decide, by decide⟩ (by decide) rfl rfl (by decide) dX10_done_2 rfl h (fun h => ?_)
  refine w_aload_n C dX10_done_5 rfl 0 rfl ?_
  refine w_iload_n C dX10_done_6 rfl 2 rfl ?_
  refine w_bipush C 8 dX10_done_7 rfl (by decide) ?_
  refine bd1_w h (fun t2 hc h => ?_)
  refine w_callX C hx (As := [.int a1, .int 8]) (st := []) 0 (by decide) rfl rfl (cfX10_checkBelow D cI ad (l := X.2.1) C.2.2.1 hc) tw5_51 cy_X10_checkBelow (by decide +kernel) ⟨by decide, by decide⟩ (by decide) rfl rfl (by decide) dX10_done_9 rfl h (fun h => ?_)
  refine w_aload_n C dX10_done_12 rfl 0 rfl ?_
  refine w_iload_n C dX10_done_13 rfl 3 rfl ?_
  refine w_iconst C 2 dX10_done_14 rfl (by decide) ?_
  refine bd1_w h (fun t3 hc h => ?_)
  refine w_callX C hx (As := [.int a2, .int 2]) (st := []) 0 (by decide) rfl rfl (cfX10_checkBelow D cI ad (l := X.2.1) C.2.2.1 hc) tw5_51 cy_X10_checkBelow (by decide +kernel) ⟨by decide, by decide⟩ (by decide) rfl rfl (by decide) dX10_done_15 rfl h (fun h => ?_)
  refine w_iload_n C dX10_done_18 rfl 3 rfl ?_
  refine w_if_ne C (qt := 37) dX10_done_19 (by decide) rfl h (fun _ h => ?_) (fun _ h => ?_)
  · refine w_aload_n C dX10_done_37 rfl 0 rfl ?_
    refine w_get C 0 12 (Nat.le_of_ble_eq_true rfl) rfl rfl inB_X10 (by decide) tw2_184 rfl dX10_done_38 rfl ?_
    refine w_aload_n C dX10_done_41 rfl 0 rfl ?_
    refine w_get C 0 10 (Nat.le_of_ble_eq_true rfl) rfl rfl inB_X10 (by decide) tw2_182 rfl dX10_done_42 rfl ?_
    refine w_aload_n C dX10_done_45 rfl 0 rfl ?_
    refine w_get C 0 7 (Nat.le_of_ble_eq_true rfl) rfl rfl inB_X10 (by decide) tw2_179 rfl dX10_done_46 rfl ?_
    refine w_iconst C 0 dX10_done_49 rfl (by decide) ?_
    refine bd2_w h (fun r4 u5 hc h => ?_)
    refine w_callVi C (As := [.ref (ad 30), .int 0]) (st := [.ref (ad 81)]) 66 (Nat.le_of_ble_eq_true rfl) rfl rfl (cfX2_bindingBits D cI ad (l := X.2.1) C.2.2.1 hc) tw4_88 cy_X2_bindingBits (by decide +kernel) ⟨Nat.le_of_ble_eq_true rfl, Nat.le_of_ble_eq_true rfl⟩ (by decide) rfl rfl (Nat.le_of_ble_eq_true rfl) dX10_done_50 rfl ?_
    refine bd1_w h (fun u6 hc h => ?_)
    refine w_callVv C (As := [.int r4]) (st := []) 81 (Nat.le_of_ble_eq_true rfl) rfl rfl (cfX6_weighAll D cI ad (l := X.2.1) C.2.2.1 hc) tw4_149 cy_X6_weighAll (by decide +kernel) ⟨Nat.le_of_ble_eq_true rfl, Nat.le_of_ble_eq_true rfl⟩ (by decide) rfl rfl (Nat.le_of_ble_eq_true rfl) dX10_done_53 rfl ?_
    refine w_aload_n C dX10_done_56 rfl 0 rfl ?_
    refine w_get C 0 12 (Nat.le_of_ble_eq_true rfl) rfl rfl inB_X10 (by decide) tw2_184 rfl dX10_done_57 rfl ?_
    refine w_iload_n C dX10_done_60 rfl 1 rfl ?_
    refine w_iload_n C dX10_done_61 rfl 2 rfl ?_
    refine w_iconst C 0 dX10_done_62 rfl (by decide) ?_
    refine bd1_w h (fun r7 hc h => ?_)
    refine w_callVi C (As := [.int a0, .int a1, .int 0]) (st := []) 81 (Nat.le_of_ble_eq_true rfl) rfl rfl (cfX6_hasStamped D cI ad (l := X.2.1) C.2.2.1 hc) tw5_89 cy_X6_hasStamped (by decide +kernel) ⟨Nat.le_of_ble_eq_true rfl, Nat.le_of_ble_eq_true rfl⟩ (by decide) rfl rfl (Nat.le_of_ble_eq_true rfl) dX10_done_63 rfl ?_
    refine w_if_eq C (qt := 73) dX10_done_66 (by decide) rfl h (fun _ h => ?_) (fun _ h => ?_)
    · refine w_iconst C 0 dX10_done_73 rfl (by decide) ?_
      exact w_rxi hr h (by decide) dX10_done_74
    · refine w_iconst C 1 dX10_done_69 rfl (by decide) ?_
      refine w_goto (q := 74) C dX10_done_70 (by decide) ?_
      exact w_rxi hr h (by decide) dX10_done_74
  · refine w_aload_n C dX10_done_22 rfl 0 rfl ?_
    refine w_get C 0 7 (Nat.le_of_ble_eq_true rfl) rfl rfl inB_X10 (by decide) tw2_179 rfl dX10_done_23 rfl ?_
    refine w_get C 30 6 (Nat.le_of_ble_eq_true rfl) rfl rfl inB_X9 (by decide) tw1_209 rfl dX10_done_26 rfl ?_
    refine w_iload_n C dX10_done_29 rfl 1 rfl ?_
    refine w_bipush C 8 dX10_done_30 rfl (by decide) ?_
    refine w_imul C dX10_done_32 rfl ?_
    refine w_iload_n C dX10_done_33 rfl 2 rfl ?_
    refine w_iadd C dX10_done_34 rfl ?_
    refine w_iald C 34 48 0 (Nat.le_of_ble_eq_true rfl) (fun _ => rfl) rfl h dX10_done_35 rfl (fun h => ?_)
    exact w_rxi hr h (by decide) dX10_done_36
theorem cfX10_done (D : va_G) (cI : ClassId) (ad : Nat → Nat) {l : Launch} (had : gAp (gC D cI ad)) {F : Nat} {σ : St} {a0 : Int32} {a1 : Int32} {a2 : Int32} {res : Nat × Int32 × St} (h : fX10_done F σ a0 a1 a2 = some res) : MX l yX10_done (wB yX10_done cX10_done 4 (some .int)) 8 140 3 (gC D cI ad) [.ref (ad 0), .int a0, .int a1, .int a2] σ res := mk_MX had (by decide +kernel) (Nat.le_of_ble_eq_true rfl) (fun X hX C hr hx => wfX10_done C hr hx h)

def fX10_refuse (F : Nat) (σ : St) (a0 : Int32) : Option (Int32 × St) := ckI (a0) 3 (ckI (a0) 3 (nm (up σ 41 (Int32.toNatClampNeg a0) ((σ 41 (Int32.toNatClampNeg a0)) + 1)) fun u1 => some ((-1), u1)))
set_option maxRecDepth 20000 in
theorem wfX10_refuse {X : XT} {D : va_G} {cI : ClassId} {ad : Nat → Nat} {F : Nat} {σ : St} {a0 : Int32} {r : Int32} {σ' : St} (C : Cx X (gC D cI ad) cX10_refuse 2 RX10 0 0 0) (hr : RetI X (gC D cI ad) cX10_refuse 2 0 r σ') (h : fX10_refuse F σ a0 = some (r, σ')) : WP X (gC D cI ad) 2 0 0 σ [(0, .ref (ad 0)), (1, .int a0)] [] := by
  unfold fX10_refuse at h
  refine w_aload_n C dX10_refuse_0 rfl 0 rfl ?_
  refine w_get C 0 7 (Nat.le_of_ble_eq_true rfl) rfl rfl inB_X10 (by decide) tw2_179 rfl dX10_refuse_1 rfl ?_
  refine w_get C 30 13 (Nat.le_of_ble_eq_true rfl) rfl rfl inB_X9 (by decide) tw1_222 rfl dX10_refuse_4 rfl ?_
  refine w_iload_n C dX10_refuse_7 rfl 1 rfl ?_
  refine w_dup2 C rfl rfl dX10_refuse_8 rfl ?_
  refine w_iald C 41 3 0 (Nat.le_of_ble_eq_true rfl) (fun _ => rfl) rfl h dX10_refuse_9 rfl (fun h => ?_)
  refine w_iconst C 1 dX10_refuse_10 rfl (by decide) ?_
  refine w_iadd C dX10_refuse_11 rfl ?_
  refine w_iast C 41 3 0 (Nat.le_of_ble_eq_true rfl) (fun _ => rfl) rfl h dX10_refuse_12 rfl (fun h => ?_)
  refine w_nst h (fun u1 h => ?_)
  refine w_iconst C (-1) dX10_refuse_13 rfl (by decide) ?_
  exact w_ri2 hr h (by decide) dX10_refuse_14
theorem cfX10_refuse (D : va_G) (cI : ClassId) (ad : Nat → Nat) {l : Launch} (had : gAp (gC D cI ad)) {F : Nat} {σ : St} {a0 : Int32} {r : Int32} {σ' : St} (h : fX10_refuse F σ a0 = some (r, σ')) : MI l yX10_refuse (wB yX10_refuse cX10_refuse 2 (some .int)) 0 0 (gC D cI ad) [.ref (ad 0), .int a0] σ r σ' := mk_MI had (by decide +kernel) (Nat.le_of_ble_eq_true rfl) (fun X hX C hr => wfX10_refuse C hr h)

def fX9_note (F : Nat) (σ : St) (a0 : Int32) (a1 : Int32) (a2 : Int32) (a3 : Int32) : Option St := jn (fun v1 : St => nm ((v1 30 1) * 4) fun x4 => ckI (x4) 160 (nm (up v1 35 (Int32.toNatClampNeg x4) a0) fun u5 => ckI (x4 + 1) 160 (nm (up u5 35 (Int32.toNatClampNeg (x4 + 1)) a1) fun u6 => ckI (x4 + 2) 160 (nm (up u6 35 (Int32.toNatClampNeg (x4 + 2)) a2) fun u7 => ckI (x4 + 3) 160 (nm (up u7 35 (Int32.toNatClampNeg (x4 + 3)) a3) fun u8 => nm (up u8 30 1 ((u8 30 1) + 1)) fun u10 => some u10))))) fun J2 => if (σ 30 1) < 40 then (J2 σ) else nm (acp σ 35 4 35 0 156) fun u11 => nm (up u11 30 1 39) fun u13 => J2 u13
set_option maxRecDepth 20000 in
theorem wfX9_note {X : XT} {D : va_G} {cI : ClassId} {ad : Nat → Nat} {F : Nat} {σ : St} {a0 : Int32} {a1 : Int32} {a2 : Int32} {a3 : Int32} {σ' : St} (C : Cx X (gC D cI ad) cX9_note 6 RX9 1 40 0) (hr : RetV X (gC D cI ad) cX9_note 6 0 σ') (h : fX9_note F σ a0 a1 a2 a3 = some σ') : WP X (gC D cI ad) 6 0 0 σ [(0, .ref (ad 30)), (1, .int a0), (2, .int a1), (3, .int a2), (4, .int a3)] [] := by
  unfold fX9_note at h
  refine w_aload_n C dX9_note_0 rfl 0 rfl ?_
  refine w_get C 30 1 (Nat.le_of_ble_eq_true rfl) rfl rfl inB_X9 (by decide) tw1_192 rfl dX9_note_1 rfl ?_
  refine w_bipush C 40 dX9_note_4 rfl (by decide) ?_
  refine jn_w (fun v1 : St => WP X (gC D cI ad) 6 0 31 v1 [(0, .ref (ad 30)), (1, .int a0), (2, .int a1), (3, .int a2), (4, .int a3)] []) h (fun v1 h => ?_) (fun J2 hJ3 h => ?_)
  · refine w_aload_n C dX9_note_31 rfl 0 rfl ?_
    refine w_get C 30 1 (Nat.le_of_ble_eq_true rfl) rfl rfl inB_X9 (by decide) tw1_192 rfl dX9_note_32 rfl ?_
    refine w_iconst C 4 dX9_note_35 rfl (by decide) ?_
    refine w_imul C dX9_note_36 rfl ?_
    refine w_nm h (fun x4 h => ?_)
    refine w_istore C [(5, .int x4), (0, .ref (ad 30)), (1, .int a0), (2, .int a1), (3, .int a2), (4, .int a3)] dX9_note_37 rfl (by decide) rfl ?_
    refine w_aload_n C dX9_note_39 rfl 1 rfl ?_
    refine w_get C 30 7 (Nat.le_of_ble_eq_true rfl) rfl rfl inB_X9 (by decide) tw1_210 rfl dX9_note_40 rfl ?_
    refine w_iload C dX9_note_43 rfl 0 rfl ?_
    refine w_iload_n C dX9_note_45 rfl 2 rfl ?_
    refine w_iast C 35 160 0 (Nat.le_of_ble_eq_true rfl) (fun _ => rfl) rfl h dX9_note_46 rfl (fun h => ?_)
    refine w_nst h (fun u5 h => ?_)
    refine w_aload_n C dX9_note_47 rfl 1 rfl ?_
    refine w_get C 30 7 (Nat.le_of_ble_eq_true rfl) rfl rfl inB_X9 (by decide) tw1_210 rfl dX9_note_48 rfl ?_
    refine w_iload C dX9_note_51 rfl 0 rfl ?_
    refine w_iconst C 1 dX9_note_53 rfl (by decide) ?_
    refine w_iadd C dX9_note_54 rfl ?_
    refine w_iload_n C dX9_note_55 rfl 3 rfl ?_
    refine w_iast C 35 160 0 (Nat.le_of_ble_eq_true rfl) (fun _ => rfl) rfl h dX9_note_56 rfl (fun h => ?_)
    refine w_nst h (fun u6 h => ?_)
    refine w_aload_n C dX9_note_57 rfl 1 rfl ?_
    refine w_get C 30 7 (Nat.le_of_ble_eq_true rfl) rfl rfl inB_X9 (by decide) tw1_210 rfl dX9_note_58 rfl ?_
    refine w_iload C dX9_note_61 rfl 0 rfl ?_
    refine w_iconst C 2 dX9_note_63 rfl (by decide) ?_
    refine w_iadd C dX9_note_64 rfl ?_
    refine w_iload_n C dX9_note_65 rfl 4 rfl ?_
    refine w_iast C 35 160 0 (Nat.le_of_ble_eq_true rfl) (fun _ => rfl) rfl h dX9_note_66 rfl (fun h => ?_)
    refine w_nst h (fun u7 h => ?_)
    refine w_aload_n C dX9_note_67 rfl 1 rfl ?_
    refine w_get C 30 7 (Nat.le_of_ble_eq_true rfl) rfl rfl inB_X9 (by decide) tw1_210 rfl dX9_note_68 rfl ?_
    refine w_iload C dX9_note_71 rfl 0 rfl ?_
    refine w_iconst C 3 dX9_note_73 rfl (by decide) ?_
    refine w_iadd C dX9_note_74 rfl ?_
    refine w_iload C dX9_note_75 rfl 5 rfl ?_
    refine w_iast C 35 160 0 (Nat.le_of_ble_eq_true rfl) (fun _ => rfl) rfl h dX9_note_77 rfl (fun h => ?_)
    refine w_nst h (fun u8 h => ?_)
    refine w_aload_n C dX9_note_78 rfl 1 rfl ?_
    refine w_dup C rfl dX9_note_79 rfl ?_
    refine w_get C 30 1 (Nat.le_of_ble_eq_true rfl) rfl rfl inB_X9 (by decide) tw1_192 rfl dX9_note_80 rfl ?_
    refine w_iconst C 1 dX9_note_83 rfl (by decide) ?_
    refine w_iadd C dX9_note_84 rfl ?_
    refine w_put C 30 1 ((u8 30 1) + 1) (Nat.le_of_ble_eq_true rfl) rfl rfl inB_X9 tyX9_ok nmX9 (by decide) tw1_192 rfl rfl rfl (Nat.le_of_ble_eq_true rfl) rfl dX9_note_85 rfl ?_
    refine w_nst h (fun u10 h => ?_)
    exact w_rv hr h (by decide) dX9_note_88
  · refine w_icmp_lt C (qt := 31) dX9_note_6 (by decide) rfl h (fun _ h => ?_) (fun _ h => ?_)
    · exact w_sub [0, 1, 2, 3, 4] rfl (hJ3 _ h)
    · refine w_aload_n C dX9_note_9 rfl 0 rfl ?_
      refine w_get C 30 7 (Nat.le_of_ble_eq_true rfl) rfl rfl inB_X9 (by decide) tw1_210 rfl dX9_note_10 rfl ?_
      refine w_iconst C 4 dX9_note_13 rfl (by decide) ?_
      refine w_aload_n C dX9_note_14 rfl 0 rfl ?_
      refine w_get C 30 7 (Nat.le_of_ble_eq_true rfl) rfl rfl inB_X9 (by decide) tw1_210 rfl dX9_note_15 rfl ?_
      refine w_iconst C 0 dX9_note_18 rfl (by decide) ?_
      refine w_sipush C 156 dX9_note_19 rfl (by decide) ?_
      refine w_acopy C 35 35 160 160 0 4 0 156 (by intro w hw; simp only [List.mem_cons, List.not_mem_nil, or_false] at hw; rcases hw with rfl | rfl | rfl | rfl; exacts [tw3_2, tw3_4, tw3_3, tw1_22]) (Nat.le_of_ble_eq_true rfl) (Nat.le_of_ble_eq_true rfl) (fun _ => rfl) (fun _ => rfl) rfl ⟨by decide, by decide⟩ ⟨by decide, by decide⟩ ⟨by decide, by decide⟩ (by decide) (by decide) ⟨Nat.le_of_ble_eq_true rfl, Nat.le_of_ble_eq_true rfl⟩ dX9_note_22 rfl ?_
      refine w_nst h (fun u11 h => ?_)
      refine w_aload_n C dX9_note_25 rfl 0 rfl ?_
      refine w_bipush C 39 dX9_note_26 rfl (by decide) ?_
      refine w_put C 30 1 39 (Nat.le_of_ble_eq_true rfl) rfl rfl inB_X9 tyX9_ok nmX9 (by decide) tw1_192 rfl rfl rfl (Nat.le_of_ble_eq_true rfl) rfl dX9_note_28 rfl ?_
      refine w_nst h (fun u13 h => ?_)
      exact w_sub [0, 1, 2, 3, 4] rfl (hJ3 _ h)
theorem cfX9_note (D : va_G) (cI : ClassId) (ad : Nat → Nat) {l : Launch} (had : gAp (gC D cI ad)) {F : Nat} {σ : St} {a0 : Int32} {a1 : Int32} {a2 : Int32} {a3 : Int32} {σ' : St} (h : fX9_note F σ a0 a1 a2 a3 = some σ') : MV l yX9_note (wB yX9_note cX9_note 6 none) 1 40 (gC D cI ad) [.ref (ad 30), .int a0, .int a1, .int a2, .int a3] σ σ' := mk_MV had (by decide +kernel) (Nat.le_of_ble_eq_true rfl) (fun X hX C hr => wfX9_note C hr h)

def fX10_years (F : Nat) (σ : St) (a0 : Int32) : Option (Int32 × St) := jn (fun v1 : Unit => bd2 (fX10_refuse F σ 1) fun r4 u5 => some (r4, u5)) fun J2 => if a0 < 1 then (J2 (())) else if 50 < a0 then (J2 (())) else if ((σ 30 0) + a0) ≤ 999 then (nm (up σ 30 0 ((σ 30 0) + a0)) fun u7 => bd1 (fX9_note F u7 0 a0 0 0) fun u8 => some (u8 30 0, u8)) else J2 (())
set_option maxRecDepth 20000 in
theorem wfX10_years {X : XT} {D : va_G} {cI : ClassId} {ad : Nat → Nat} {F : Nat} {σ : St} {a0 : Int32} {r : Int32} {σ' : St} (C : Cx X (gC D cI ad) cX10_years 2 RX10 2 65 0) (hr : RetI X (gC D cI ad) cX10_years 2 0 r σ') (h : fX10_years F σ a0 = some (r, σ')) : WP X (gC D cI ad) 2 0 0 σ [(0, .ref (ad 0)), (1, .int a0)] [] := by
  unfold fX10_years at h
  refine w_iload_n C dX10_years_0 rfl 1 rfl ?_
  refine w_iconst C 1 dX10_years_1 rfl (by decide) ?_
  refine jn_w (fun v1 : Unit => WP X (gC D cI ad) 2 0 26 σ [(0, .ref (ad 0))] []) h (fun v1 h => ?_) (fun J2 hJ3 h => ?_)
  · refine w_aload_n C dX10_years_26 rfl 0 rfl ?_
    refine w_iconst C 1 dX10_years_27 rfl (by decide) ?_
    refine bd2_w h (fun r4 u5 hc h => ?_)
    refine w_callVi C (As := [.int 1]) (st := []) 0 (Nat.le_of_ble_eq_true rfl) rfl rfl (cfX10_refuse D cI ad (l := X.2.1) C.2.2.1 hc) tw2_234 cy_X10_refuse (by decide +kernel) ⟨Nat.le_of_ble_eq_true rfl, Nat.le_of_ble_eq_true rfl⟩ (by decide) rfl rfl (Nat.le_of_ble_eq_true rfl) dX10_years_28 rfl ?_
    exact w_ri2 hr h (by decide) dX10_years_31
  · refine w_icmp_lt C (qt := 26) dX10_years_2 (by decide) rfl h (fun _ h => ?_) (fun _ h => ?_)
    · exact w_sub [0] rfl (hJ3 _ h)
    · refine w_iload_n C dX10_years_5 rfl 1 rfl ?_
      refine w_bipush C 50 dX10_years_6 rfl (by decide) ?_
      refine w_icmp_gt C (qt := 26) dX10_years_8 (by decide) rfl h (fun _ h => ?_) (fun _ h => ?_)
      · exact w_sub [0] rfl (hJ3 _ h)
      · refine w_aload_n C dX10_years_11 rfl 0 rfl ?_
        refine w_get C 0 7 (Nat.le_of_ble_eq_true rfl) rfl rfl inB_X10 (by decide) tw2_179 rfl dX10_years_12 rfl ?_
        refine w_get C 30 0 (Nat.le_of_ble_eq_true rfl) rfl rfl inB_X9 (by decide) tw1_191 rfl dX10_years_15 rfl ?_
        refine w_iload_n C dX10_years_18 rfl 1 rfl ?_
        refine w_iadd C dX10_years_19 rfl ?_
        refine w_sipush C 999 dX10_years_20 rfl (by decide) ?_
        refine w_icmp_le C (qt := 32) dX10_years_23 (by decide) rfl h (fun _ h => ?_) (fun _ h => ?_)
        · refine w_aload_n C dX10_years_32 rfl 0 rfl ?_
          refine w_get C 0 7 (Nat.le_of_ble_eq_true rfl) rfl rfl inB_X10 (by decide) tw2_179 rfl dX10_years_33 rfl ?_
          refine w_dup C rfl dX10_years_36 rfl ?_
          refine w_get C 30 0 (Nat.le_of_ble_eq_true rfl) rfl rfl inB_X9 (by decide) tw1_191 rfl dX10_years_37 rfl ?_
          refine w_iload_n C dX10_years_40 rfl 1 rfl ?_
          refine w_iadd C dX10_years_41 rfl ?_
          refine w_put C 30 0 ((σ 30 0) + a0) (Nat.le_of_ble_eq_true rfl) rfl rfl inB_X9 tyX9_ok nmX9 (by decide) tw1_191 rfl rfl rfl (Nat.le_of_ble_eq_true rfl) rfl dX10_years_42 rfl ?_
          refine w_nst h (fun u7 h => ?_)
          refine w_aload_n C dX10_years_45 rfl 0 rfl ?_
          refine w_get C 0 7 (Nat.le_of_ble_eq_true rfl) rfl rfl inB_X10 (by decide) tw2_179 rfl dX10_years_46 rfl ?_
          refine w_iconst C 0 dX10_years_49 rfl (by decide) ?_
          refine w_iload_n C dX10_years_50 rfl 1 rfl ?_
          refine w_iconst C 0 dX10_years_51 rfl (by decide) ?_
          refine w_iconst C 0 dX10_years_52 rfl (by decide) ?_
          refine bd1_w h (fun u8 hc h => ?_)
          refine w_callVv C (As := [.int 0, .int a0, .int 0, .int 0]) (st := []) 30 (Nat.le_of_ble_eq_true rfl) rfl rfl (cfX9_note D cI ad (l := X.2.1) C.2.2.1 hc) tw2_238 cy_X9_note (by decide +kernel) ⟨Nat.le_of_ble_eq_true rfl, Nat.le_of_ble_eq_true rfl⟩ (by decide) rfl rfl (Nat.le_of_ble_eq_true rfl) dX10_years_53 rfl ?_
          refine w_aload_n C dX10_years_56 rfl 0 rfl ?_
          refine w_get C 0 7 (Nat.le_of_ble_eq_true rfl) rfl rfl inB_X10 (by decide) tw2_179 rfl dX10_years_57 rfl ?_
          refine w_get C 30 0 (Nat.le_of_ble_eq_true rfl) rfl rfl inB_X9 (by decide) tw1_191 rfl dX10_years_60 rfl ?_
          exact w_ri2 hr h (by decide) dX10_years_63
        · exact w_sub [0] rfl (hJ3 _ h)
theorem cfX10_years (D : va_G) (cI : ClassId) (ad : Nat → Nat) {l : Launch} (had : gAp (gC D cI ad)) {F : Nat} {σ : St} {a0 : Int32} {r : Int32} {σ' : St} (h : fX10_years F σ a0 = some (r, σ')) : MI l yX10_years (wB yX10_years cX10_years 2 (some .int)) 2 65 (gC D cI ad) [.ref (ad 0), .int a0] σ r σ' := mk_MI had (by decide +kernel) (Nat.le_of_ble_eq_true rfl) (fun X hX C hr => wfX10_years C hr h)

def fX9_renew (F : Nat) (σ : St) (a0 : Int32) : Option St := ckI (a0) 8 (nm (up σ 31 (Int32.toNatClampNeg a0) (σ 30 0)) fun u1 => ckI (a0) 8 (nm (up u1 32 (Int32.toNatClampNeg a0) 0) fun u2 => some u2))
set_option maxRecDepth 20000 in
theorem wfX9_renew {X : XT} {D : va_G} {cI : ClassId} {ad : Nat → Nat} {F : Nat} {σ : St} {a0 : Int32} {σ' : St} (C : Cx X (gC D cI ad) cX9_renew 2 RX9 0 0 0) (hr : RetV X (gC D cI ad) cX9_renew 2 0 σ') (h : fX9_renew F σ a0 = some σ') : WP X (gC D cI ad) 2 0 0 σ [(0, .ref (ad 30)), (1, .int a0)] [] := by
  unfold fX9_renew at h
  refine w_aload_n C dX9_renew_0 rfl 0 rfl ?_
  refine w_get C 30 3 (Nat.le_of_ble_eq_true rfl) rfl rfl inB_X9 (by decide) tw1_197 rfl dX9_renew_1 rfl ?_
  refine w_iload_n C dX9_renew_4 rfl 1 rfl ?_
  refine w_aload_n C dX9_renew_5 rfl 0 rfl ?_
  refine w_get C 30 0 (Nat.le_of_ble_eq_true rfl) rfl rfl inB_X9 (by decide) tw1_189 rfl dX9_renew_6 rfl ?_
  refine w_iast C 31 8 0 (Nat.le_of_ble_eq_true rfl) (fun _ => rfl) rfl h dX9_renew_9 rfl (fun h => ?_)
  refine w_nst h (fun u1 h => ?_)
  refine w_aload_n C dX9_renew_10 rfl 0 rfl ?_
  refine w_get C 30 4 (Nat.le_of_ble_eq_true rfl) rfl rfl inB_X9 (by decide) tw1_199 rfl dX9_renew_11 rfl ?_
  refine w_iload_n C dX9_renew_14 rfl 1 rfl ?_
  refine w_iconst C 0 dX9_renew_15 rfl (by decide) ?_
  refine w_iast C 32 8 0 (Nat.le_of_ble_eq_true rfl) (fun _ => rfl) rfl h dX9_renew_16 rfl (fun h => ?_)
  refine w_nst h (fun u2 h => ?_)
  exact w_rv hr h (by decide) dX9_renew_17
theorem cfX9_renew (D : va_G) (cI : ClassId) (ad : Nat → Nat) {l : Launch} (had : gAp (gC D cI ad)) {F : Nat} {σ : St} {a0 : Int32} {σ' : St} (h : fX9_renew F σ a0 = some σ') : MV l yX9_renew (wB yX9_renew cX9_renew 2 none) 0 0 (gC D cI ad) [.ref (ad 30), .int a0] σ σ' := mk_MV had (by decide +kernel) (Nat.le_of_ble_eq_true rfl) (fun X hX C hr => wfX9_renew C hr h)

def fX10_again (F : Nat) (σ : St) (a0 : Int32) : Option (Nat × Int32 × St) := bd1 (fX10_checkDance F σ a0) fun t1 => if t1 = 0 then (bd1 (fX9_since F σ a0) fun r2 => ckI (a0) 8 (ckI (a0) 8 (bd1 (fX9_note F σ 1 a0 (σ 32 (Int32.toNatClampNeg a0)) (σ 31 (Int32.toNatClampNeg a0))) fun u3 => bd1 (fX9_renew F u3 a0) fun u4 => some (0, r2, u4)))) else some (t1, 0, σ)
set_option maxRecDepth 20000 in
theorem wfX10_again {X : XT} {D : va_G} {cI : ClassId} {ad : Nat → Nat} {F : Nat} {σ : St} {a0 : Int32} {res : Nat × Int32 × St} (C : Cx X (gC D cI ad) cX10_again 3 RX10 8 131 1) (hr : RetXi X (gC D cI ad) cX10_again 3 1 res) (hx : ThrX X (gC D cI ad) cX10_again 3 1 res) (h : fX10_again F σ a0 = some res) : WP X (gC D cI ad) 3 0 0 σ [(0, .ref (ad 0)), (1, .int a0)] [] := by
  unfold fX10_again at h
  refine w_aload_n C dX10_again_0 rfl 0 rfl ?_
  refine w_iload_n C dX10_again_1 rfl 1 rfl ?_
  refine bd1_w h (fun t1 hc h => ?_)
  refine w_callX C hx (As := [.int a0]) (st := []) 0 (by decide) rfl rfl (cfX10_checkDance D cI ad (l := X.2.1) C.2.2.1 hc) tw5_12 cy_X10_checkDance (by decide +kernel) ⟨by decide, by decide⟩ (by decide) rfl rfl (by decide) dX10_again_2 rfl h (fun h => ?_)
  refine w_aload_n C dX10_again_5 rfl 0 rfl ?_
  refine w_get C 0 7 (Nat.le_of_ble_eq_true rfl) rfl rfl inB_X10 (by decide) tw2_179 rfl dX10_again_6 rfl ?_
  refine w_iload_n C dX10_again_9 rfl 1 rfl ?_
  refine bd1_w h (fun r2 hc h => ?_)
  refine w_callVi C (As := [.int a0]) (st := []) 30 (Nat.le_of_ble_eq_true rfl) rfl rfl (cfX9_since D cI ad (l := X.2.1) C.2.2.1 hc) tw5_18 cy_X9_since (by decide +kernel) ⟨Nat.le_of_ble_eq_true rfl, Nat.le_of_ble_eq_true rfl⟩ (by decide) rfl rfl (Nat.le_of_ble_eq_true rfl) dX10_again_10 rfl ?_
  refine w_istore_n C [(2, .int r2), (0, .ref (ad 0)), (1, .int a0)] dX10_again_13 rfl (by decide) rfl ?_
  refine w_aload_n C dX10_again_14 rfl 1 rfl ?_
  refine w_get C 0 7 (Nat.le_of_ble_eq_true rfl) rfl rfl inB_X10 (by decide) tw2_179 rfl dX10_again_15 rfl ?_
  refine w_iconst C 1 dX10_again_18 rfl (by decide) ?_
  refine w_iload_n C dX10_again_19 rfl 2 rfl ?_
  refine w_aload_n C dX10_again_20 rfl 1 rfl ?_
  refine w_get C 0 7 (Nat.le_of_ble_eq_true rfl) rfl rfl inB_X10 (by decide) tw2_179 rfl dX10_again_21 rfl ?_
  refine w_get C 30 4 (Nat.le_of_ble_eq_true rfl) rfl rfl inB_X9 (by decide) tw1_202 rfl dX10_again_24 rfl ?_
  refine w_iload_n C dX10_again_27 rfl 2 rfl ?_
  refine w_iald C 32 8 0 (Nat.le_of_ble_eq_true rfl) (fun _ => rfl) rfl h dX10_again_28 rfl (fun h => ?_)
  refine w_aload_n C dX10_again_29 rfl 1 rfl ?_
  refine w_get C 0 7 (Nat.le_of_ble_eq_true rfl) rfl rfl inB_X10 (by decide) tw2_179 rfl dX10_again_30 rfl ?_
  refine w_get C 30 3 (Nat.le_of_ble_eq_true rfl) rfl rfl inB_X9 (by decide) tw1_198 rfl dX10_again_33 rfl ?_
  refine w_iload_n C dX10_again_36 rfl 2 rfl ?_
  refine w_iald C 31 8 0 (Nat.le_of_ble_eq_true rfl) (fun _ => rfl) rfl h dX10_again_37 rfl (fun h => ?_)
  refine bd1_w h (fun u3 hc h => ?_)
  refine w_callVv C (As := [.int 1, .int a0, .int (σ 32 (Int32.toNatClampNeg a0)), .int (σ 31 (Int32.toNatClampNeg a0))]) (st := []) 30 (Nat.le_of_ble_eq_true rfl) rfl rfl (cfX9_note D cI ad (l := X.2.1) C.2.2.1 hc) tw2_238 cy_X9_note (by decide +kernel) ⟨Nat.le_of_ble_eq_true rfl, Nat.le_of_ble_eq_true rfl⟩ (by decide) rfl rfl (Nat.le_of_ble_eq_true rfl) dX10_again_38 rfl ?_
  refine w_aload_n C dX10_again_41 rfl 1 rfl ?_
  refine w_get C 0 7 (Nat.le_of_ble_eq_true rfl) rfl rfl inB_X10 (by decide) tw2_179 rfl dX10_again_42 rfl ?_
  refine w_iload_n C dX10_again_45 rfl 2 rfl ?_
  refine bd1_w h (fun u4 hc h => ?_)
  refine w_callVv C (As := [.int a0]) (st := []) 30 (Nat.le_of_ble_eq_true rfl) rfl rfl (cfX9_renew D cI ad (l := X.2.1) C.2.2.1 hc) tw5_97 cy_X9_renew (by decide +kernel) ⟨Nat.le_of_ble_eq_true rfl, Nat.le_of_ble_eq_true rfl⟩ (by decide) rfl rfl (Nat.le_of_ble_eq_true rfl) dX10_again_46 rfl ?_
  refine w_iload_n C dX10_again_49 rfl 0 rfl ?_
  exact w_rxi hr h (by decide) dX10_again_50
theorem cfX10_again (D : va_G) (cI : ClassId) (ad : Nat → Nat) {l : Launch} (had : gAp (gC D cI ad)) {F : Nat} {σ : St} {a0 : Int32} {res : Nat × Int32 × St} (h : fX10_again F σ a0 = some res) : MX l yX10_again (wB yX10_again cX10_again 3 (some .int)) 8 131 1 (gC D cI ad) [.ref (ad 0), .int a0] σ res := mk_MX had (by decide +kernel) (Nat.le_of_ble_eq_true rfl) (fun X hX C hr hx => wfX10_again C hr hx h)

def fX10_breaks (F : Nat) (σ : St) (a0 : Int32) : Option (Nat × Int32 × St) := bd1 (fX10_checkDance F σ a0) fun t1 => if t1 = 0 then (ckI (a0) 8 (if (σ 32 (Int32.toNatClampNeg a0)) = 0 then (ckI (a0) 8 (nm (up σ 32 (Int32.toNatClampNeg a0) 1) fun u2 => bd1 (fX9_note F u2 2 a0 0 0) fun u3 => some (0, 1, u3))) else bd2 (fX10_refuse F σ 1) fun r4 u5 => some (0, 0, u5))) else some (t1, 0, σ)
set_option maxRecDepth 20000 in
theorem wfX10_breaks {X : XT} {D : va_G} {cI : ClassId} {ad : Nat → Nat} {F : Nat} {σ : St} {a0 : Int32} {res : Nat × Int32 × St} (C : Cx X (gC D cI ad) cX10_breaks 2 RX10 8 131 1) (hr : RetXz X (gC D cI ad) cX10_breaks 2 1 res) (hx : ThrX X (gC D cI ad) cX10_breaks 2 1 res) (h : fX10_breaks F σ a0 = some res) : WP X (gC D cI ad) 2 0 0 σ [(0, .ref (ad 0)), (1, .int a0)] [] := by
  unfold fX10_breaks at h
  refine w_aload_n C dX10_breaks_0 rfl 0 rfl ?_
  refine w_iload_n C dX10_breaks_1 rfl 1 rfl ?_
  refine bd1_w h (fun t1 hc h => ?_)
  refine w_callX C hx (As := [.int a0]) (st := []) 0 (by decide) rfl rfl (cfX10_checkDance D cI ad (l := X.2.1) C.2.2.1 hc) tw5_12 cy_X10_checkDance (by decide +kernel) ⟨by decide, by decide⟩ (by decide) rfl rfl (by decide) dX10_breaks_2 rfl h (fun h => ?_)
  refine w_aload_n C dX10_breaks_5 rfl 0 rfl ?_
  refine w_get C 0 7 (Nat.le_of_ble_eq_true rfl) rfl rfl inB_X10 (by decide) tw2_179 rfl dX10_breaks_6 rfl ?_
  refine w_get C 30 4 (Nat.le_of_ble_eq_true rfl) rfl rfl inB_X9 (by decide) tw1_202 rfl dX10_breaks_9 rfl ?_
  refine w_iload_n C dX10_breaks_12 rfl 1 rfl ?_
  refine w_iald C 32 8 0 (Nat.le_of_ble_eq_true rfl) (fun _ => rfl) rfl h dX10_breaks_13 rfl (fun h => ?_)
  refine w_if_eq C (qt := 25) dX10_breaks_14 (by decide) rfl h (fun _ h => ?_) (fun _ h => ?_)
  · refine w_aload_n C dX10_breaks_25 rfl 0 rfl ?_
    refine w_get C 0 7 (Nat.le_of_ble_eq_true rfl) rfl rfl inB_X10 (by decide) tw2_179 rfl dX10_breaks_26 rfl ?_
    refine w_get C 30 4 (Nat.le_of_ble_eq_true rfl) rfl rfl inB_X9 (by decide) tw1_202 rfl dX10_breaks_29 rfl ?_
    refine w_iload_n C dX10_breaks_32 rfl 1 rfl ?_
    refine w_iconst C 1 dX10_breaks_33 rfl (by decide) ?_
    refine w_iast C 32 8 0 (Nat.le_of_ble_eq_true rfl) (fun _ => rfl) rfl h dX10_breaks_34 rfl (fun h => ?_)
    refine w_nst h (fun u2 h => ?_)
    refine w_aload_n C dX10_breaks_35 rfl 0 rfl ?_
    refine w_get C 0 7 (Nat.le_of_ble_eq_true rfl) rfl rfl inB_X10 (by decide) tw2_179 rfl dX10_breaks_36 rfl ?_
    refine w_iconst C 2 dX10_breaks_39 rfl (by decide) ?_
    refine w_iload_n C dX10_breaks_40 rfl 1 rfl ?_
    refine w_iconst C 0 dX10_breaks_41 rfl (by decide) ?_
    refine w_iconst C 0 dX10_breaks_42 rfl (by decide) ?_
    refine bd1_w h (fun u3 hc h => ?_)
    refine w_callVv C (As := [.int 2, .int a0, .int 0, .int 0]) (st := []) 30 (Nat.le_of_ble_eq_true rfl) rfl rfl (cfX9_note D cI ad (l := X.2.1) C.2.2.1 hc) tw2_238 cy_X9_note (by decide +kernel) ⟨Nat.le_of_ble_eq_true rfl, Nat.le_of_ble_eq_true rfl⟩ (by decide) rfl rfl (Nat.le_of_ble_eq_true rfl) dX10_breaks_43 rfl ?_
    refine w_iconst C 1 dX10_breaks_46 rfl (by decide) ?_
    exact w_rxz hr (by decide) h (by decide) dX10_breaks_47
  · refine w_aload_n C dX10_breaks_17 rfl 0 rfl ?_
    refine w_iconst C 1 dX10_breaks_18 rfl (by decide) ?_
    refine bd2_w h (fun r4 u5 hc h => ?_)
    refine w_callVi C (As := [.int 1]) (st := []) 0 (Nat.le_of_ble_eq_true rfl) rfl rfl (cfX10_refuse D cI ad (l := X.2.1) C.2.2.1 hc) tw2_234 cy_X10_refuse (by decide +kernel) ⟨Nat.le_of_ble_eq_true rfl, Nat.le_of_ble_eq_true rfl⟩ (by decide) rfl rfl (Nat.le_of_ble_eq_true rfl) dX10_breaks_19 rfl ?_
    refine w_pop C rfl dX10_breaks_22 rfl ?_
    refine w_iconst C 0 dX10_breaks_23 rfl (by decide) ?_
    exact w_rxz hr (by decide) h (by decide) dX10_breaks_24
theorem cfX10_breaks (D : va_G) (cI : ClassId) (ad : Nat → Nat) {l : Launch} (had : gAp (gC D cI ad)) {F : Nat} {σ : St} {a0 : Int32} {res : Nat × Int32 × St} (h : fX10_breaks F σ a0 = some res) : MX l yX10_breaks (wB yX10_breaks cX10_breaks 2 (some .boolean)) 8 131 1 (gC D cI ad) [.ref (ad 0), .int a0] σ res := mk_MXz had (by decide +kernel) (Nat.le_of_ble_eq_true rfl) (fun X hX C hr hx => wfX10_breaks C hr hx h)

def fX0_changes (F : Nat) (σ : St) (a0 : Int32) (a1 : Int32) : Option Int32 := bd1 (fX10_placeOf F σ a0 a1) fun r1 => ckI (r1) 80 (nm (σ 8 (Int32.toNatClampNeg r1)) fun x2 => if x2 = 3 then (some 0) else if x2 = 4 then (some 0) else some 1)
set_option maxRecDepth 20000 in
theorem wfX0_changes {X : XT} {D : va_G} {cI : ClassId} {ad : Nat → Nat} {F : Nat} {σ : St} {a0 : Int32} {a1 : Int32} {r : Int32} (C : Cx X (gC D cI ad) cX0_changes 4 RX0 1 21 0) (hr : RetZ X (gC D cI ad) cX0_changes 4 0 r σ) (h : fX0_changes F σ a0 a1 = some r) : WP X (gC D cI ad) 4 0 0 σ [(0, .ref (ad 2)), (1, .int a0), (2, .int a1)] [] := by
  unfold fX0_changes at h
  refine w_aload_n C dX0_changes_0 rfl 0 rfl ?_
  refine w_get C 2 10 (Nat.le_of_ble_eq_true rfl) rfl rfl inB_X0 (by decide) tw1_100 rfl dX0_changes_1 rfl ?_
  refine w_iload_n C dX0_changes_4 rfl 1 rfl ?_
  refine w_iload_n C dX0_changes_5 rfl 2 rfl ?_
  refine bd1_w h (fun r1 hc h => ?_)
  refine w_callNi C (As := [.int a0, .int a1]) (st := [.ref (ad 8)]) (host := RX10) (cfX10_placeOf D cI ad (l := X.2.1) C.2.2.1 hc) (by decide +kernel) cs_X10_placeOf (by decide +kernel) ⟨Nat.le_of_ble_eq_true rfl, Nat.le_of_ble_eq_true rfl⟩ (by decide) rfl rfl (Nat.le_of_ble_eq_true rfl) dX0_changes_6 rfl ?_
  refine w_iald C 8 80 0 (Nat.le_of_ble_eq_true rfl) (fun _ => rfl) rfl h dX0_changes_9 rfl (fun h => ?_)
  refine w_nm h (fun x2 h => ?_)
  refine w_istore_n C [(3, .int x2), (0, .ref (ad 2)), (1, .int a0), (2, .int a1)] dX0_changes_10 rfl (by decide) rfl ?_
  refine w_iload_n C dX0_changes_11 rfl 0 rfl ?_
  refine w_iconst C 3 dX0_changes_12 rfl (by decide) ?_
  refine w_icmp_eq C (qt := 25) dX0_changes_13 (by decide) rfl h (fun _ h => ?_) (fun _ h => ?_)
  · refine w_iconst C 0 dX0_changes_25 rfl (by decide) ?_
    exact w_rz1 hr (by decide) h (by decide) dX0_changes_26
  · refine w_iload_n C dX0_changes_16 rfl 0 rfl ?_
    refine w_iconst C 4 dX0_changes_17 rfl (by decide) ?_
    refine w_icmp_eq C (qt := 25) dX0_changes_18 (by decide) rfl h (fun _ h => ?_) (fun _ h => ?_)
    · refine w_iconst C 0 dX0_changes_25 rfl (by decide) ?_
      exact w_rz1 hr (by decide) h (by decide) dX0_changes_26
    · refine w_iconst C 1 dX0_changes_21 rfl (by decide) ?_
      refine w_goto (q := 26) C dX0_changes_22 (by decide) ?_
      exact w_rz1 hr (by decide) h (by decide) dX0_changes_26
theorem cfX0_changes (D : va_G) (cI : ClassId) (ad : Nat → Nat) {l : Launch} (had : gAp (gC D cI ad)) {F : Nat} {σ : St} {a0 : Int32} {a1 : Int32} {r : Int32} (h : fX0_changes F σ a0 a1 = some r) : MI l yX0_changes (wB yX0_changes cX0_changes 4 (some .boolean)) 1 21 (gC D cI ad) [.ref (ad 2), .int a0, .int a1] σ r σ := mk_MZ had (by decide +kernel) (Nat.le_of_ble_eq_true rfl) (fun X hX C hr => wfX0_changes C hr h)

def fX10_stumble (F : Nat) (σ : St) (a0 : Int32) (a1 : Int32) (a2 : Int32) : Option (Nat × Int32 × St) := bd1 (fX10_checkStep F σ a0 a1) fun t1 => if t1 = 0 then (jn (fun v2 : Unit => bd2 (fX10_refuse F σ 1) fun r5 u6 => some (0, r5, u6)) fun J3 => if a2 < 0 then (J3 (())) else if 9 < a2 then (J3 (())) else bd1 (fX0_changes F σ a0 a1) fun r7 => if r7 = 0 then (J3 (())) else bd1 (fX10_placeOf F σ a0 a1) fun r8 => ckI (r8) 80 (nm (σ 33 (Int32.toNatClampNeg r8)) fun x9 => ckI (r8) 80 (nm (up σ 33 (Int32.toNatClampNeg r8) a2) fun u10 => bd1 (fX9_note F u10 3 a0 a1 x9) fun u11 => some (0, x9, u11)))) else some (t1, 0, σ)
set_option maxRecDepth 20000 in
theorem wfX10_stumble {X : XT} {D : va_G} {cI : ClassId} {ad : Nat → Nat} {F : Nat} {σ : St} {a0 : Int32} {a1 : Int32} {a2 : Int32} {res : Nat × Int32 × St} (C : Cx X (gC D cI ad) cX10_stumble 6 RX10 9 153 2) (hr : RetXi X (gC D cI ad) cX10_stumble 6 2 res) (hx : ThrX X (gC D cI ad) cX10_stumble 6 2 res) (h : fX10_stumble F σ a0 a1 a2 = some res) : WP X (gC D cI ad) 6 0 0 σ [(0, .ref (ad 0)), (1, .int a0), (2, .int a1), (3, .int a2)] [] := by
  unfold fX10_stumble at h
  refine w_aload_n C dX10_stumble_0 rfl 0 rfl ?_
  refine w_iload_n C dX10_stumble_1 rfl 1 rfl ?_
  refine w_iload_n C dX10_stumble_2 rfl 2 rfl ?_
  refine bd1_w h (fun t1 hc h => ?_)
  refine w_callX C hx (As := [.int a0, .int a1]) (st := []) 0 (by decide) rfl rfl (cfX10_checkStep D cI ad (l := X.2.1) C.2.2.1 hc) tw5_37 cy_X10_checkStep (by decide +kernel) ⟨by decide, by decide⟩ (by decide) rfl rfl (by decide) dX10_stumble_3 rfl h (fun h => ?_)
  refine w_iload_n C dX10_stumble_6 rfl 3 rfl ?_
  refine jn_w (fun v2 : Unit => WP X (gC D cI ad) 6 2 28 σ [(0, .ref (ad 0))] []) h (fun v2 h => ?_) (fun J3 hJ4 h => ?_)
  · refine w_aload_n C dX10_stumble_28 rfl 0 rfl ?_
    refine w_iconst C 1 dX10_stumble_29 rfl (by decide) ?_
    refine bd2_w h (fun r5 u6 hc h => ?_)
    refine w_callVi C (As := [.int 1]) (st := []) 0 (Nat.le_of_ble_eq_true rfl) rfl rfl (cfX10_refuse D cI ad (l := X.2.1) C.2.2.1 hc) tw2_234 cy_X10_refuse (by decide +kernel) ⟨Nat.le_of_ble_eq_true rfl, Nat.le_of_ble_eq_true rfl⟩ (by decide) rfl rfl (Nat.le_of_ble_eq_true rfl) dX10_stumble_30 rfl ?_
    exact w_rxi hr h (by decide) dX10_stumble_33
  · refine w_if_lt C (qt := 28) dX10_stumble_7 (by decide) rfl h (fun _ h => ?_) (fun _ h => ?_)
    · exact w_sub [0] rfl (hJ4 _ h)
    · refine w_iload_n C dX10_stumble_10 rfl 3 rfl ?_
      refine w_bipush C 9 dX10_stumble_11 rfl (by decide) ?_
      refine w_icmp_gt C (qt := 28) dX10_stumble_13 (by decide) rfl h (fun _ h => ?_) (fun _ h => ?_)
      · exact w_sub [0] rfl (hJ4 _ h)
      · refine w_aload_n C dX10_stumble_16 rfl 0 rfl ?_
        refine w_get C 0 4 (Nat.le_of_ble_eq_true rfl) rfl rfl inB_X10 (by decide) tw2_176 rfl dX10_stumble_17 rfl ?_
        refine w_iload_n C dX10_stumble_20 rfl 1 rfl ?_
        refine w_iload_n C dX10_stumble_21 rfl 2 rfl ?_
        refine bd1_w h (fun r7 hc h => ?_)
        refine w_callVi C (As := [.int a0, .int a1]) (st := []) 2 (Nat.le_of_ble_eq_true rfl) rfl rfl (cfX0_changes D cI ad (l := X.2.1) C.2.2.1 hc) tw5_115 cy_X0_changes (by decide +kernel) ⟨Nat.le_of_ble_eq_true rfl, Nat.le_of_ble_eq_true rfl⟩ (by decide) rfl rfl (Nat.le_of_ble_eq_true rfl) dX10_stumble_22 rfl ?_
        refine w_if_ne C (qt := 34) dX10_stumble_25 (by decide) rfl h (fun _ h => ?_) (fun _ h => ?_)
        · refine w_iload_n C dX10_stumble_34 rfl 1 rfl ?_
          refine w_iload_n C dX10_stumble_35 rfl 2 rfl ?_
          refine bd1_w h (fun r8 hc h => ?_)
          refine w_callSi C (As := [.int a0, .int a1]) (st := []) (cfX10_placeOf D cI ad (l := X.2.1) C.2.2.1 hc) tw5_42 cs_X10_placeOf (by decide +kernel) ⟨Nat.le_of_ble_eq_true rfl, Nat.le_of_ble_eq_true rfl⟩ (by decide) rfl rfl (Nat.le_of_ble_eq_true rfl) dX10_stumble_36 rfl ?_
          refine w_istore C [(4, .int r8), (0, .ref (ad 0)), (1, .int a0), (2, .int a1), (3, .int a2)] dX10_stumble_39 rfl (by decide) rfl ?_
          refine w_aload_n C dX10_stumble_41 rfl 1 rfl ?_
          refine w_get C 0 7 (Nat.le_of_ble_eq_true rfl) rfl rfl inB_X10 (by decide) tw2_179 rfl dX10_stumble_42 rfl ?_
          refine w_get C 30 5 (Nat.le_of_ble_eq_true rfl) rfl rfl inB_X9 (by decide) tw1_206 rfl dX10_stumble_45 rfl ?_
          refine w_iload C dX10_stumble_48 rfl 0 rfl ?_
          refine w_iald C 33 80 0 (Nat.le_of_ble_eq_true rfl) (fun _ => rfl) rfl h dX10_stumble_50 rfl (fun h => ?_)
          refine w_nm h (fun x9 h => ?_)
          refine w_istore C [(5, .int x9), (4, .int r8), (0, .ref (ad 0)), (1, .int a0), (2, .int a1), (3, .int a2)] dX10_stumble_51 rfl (by decide) rfl ?_
          refine w_aload_n C dX10_stumble_53 rfl 2 rfl ?_
          refine w_get C 0 7 (Nat.le_of_ble_eq_true rfl) rfl rfl inB_X10 (by decide) tw2_179 rfl dX10_stumble_54 rfl ?_
          refine w_get C 30 5 (Nat.le_of_ble_eq_true rfl) rfl rfl inB_X9 (by decide) tw1_206 rfl dX10_stumble_57 rfl ?_
          refine w_iload C dX10_stumble_60 rfl 1 rfl ?_
          refine w_iload_n C dX10_stumble_62 rfl 5 rfl ?_
          refine w_iast C 33 80 0 (Nat.le_of_ble_eq_true rfl) (fun _ => rfl) rfl h dX10_stumble_63 rfl (fun h => ?_)
          refine w_nst h (fun u10 h => ?_)
          refine w_aload_n C dX10_stumble_64 rfl 2 rfl ?_
          refine w_get C 0 7 (Nat.le_of_ble_eq_true rfl) rfl rfl inB_X10 (by decide) tw2_179 rfl dX10_stumble_65 rfl ?_
          refine w_iconst C 3 dX10_stumble_68 rfl (by decide) ?_
          refine w_iload_n C dX10_stumble_69 rfl 3 rfl ?_
          refine w_iload_n C dX10_stumble_70 rfl 4 rfl ?_
          refine w_iload C dX10_stumble_71 rfl 0 rfl ?_
          refine bd1_w h (fun u11 hc h => ?_)
          refine w_callVv C (As := [.int 3, .int a0, .int a1, .int x9]) (st := []) 30 (Nat.le_of_ble_eq_true rfl) rfl rfl (cfX9_note D cI ad (l := X.2.1) C.2.2.1 hc) tw2_238 cy_X9_note (by decide +kernel) ⟨Nat.le_of_ble_eq_true rfl, Nat.le_of_ble_eq_true rfl⟩ (by decide) rfl rfl (Nat.le_of_ble_eq_true rfl) dX10_stumble_73 rfl ?_
          refine w_iload C dX10_stumble_76 rfl 0 rfl ?_
          exact w_rxi hr h (by decide) dX10_stumble_78
        · exact w_sub [0] rfl (hJ4 _ h)
theorem cfX10_stumble (D : va_G) (cI : ClassId) (ad : Nat → Nat) {l : Launch} (had : gAp (gC D cI ad)) {F : Nat} {σ : St} {a0 : Int32} {a1 : Int32} {a2 : Int32} {res : Nat × Int32 × St} (h : fX10_stumble F σ a0 a1 a2 = some res) : MX l yX10_stumble (wB yX10_stumble cX10_stumble 6 (some .int)) 9 153 2 (gC D cI ad) [.ref (ad 0), .int a0, .int a1, .int a2] σ res := mk_MX had (by decide +kernel) (Nat.le_of_ble_eq_true rfl) (fun X hX C hr hx => wfX10_stumble C hr hx h)

def fX10_act (F : Nat) (σ : St) (a0 : Int32) (a1 : Int32) (a2 : Int32) : Option (Nat × Int32 × St) := bd1 (fX10_checkValley F σ a0) fun t1 => if t1 = 0 then (bd1 (fX10_checkBelow F σ a1 8) fun t2 => if t2 = 0 then (nm ((a0 * 8) + a1) fun x3 => jn (fun v4 : Unit => bd2 (fX10_refuse F σ 1) fun r7 u8 => some (0, r7, u8)) fun J5 => if a2 < 1 then (J5 (())) else if 99 < a2 then (J5 (())) else ckI (x3) 48 (if ((σ 34 (Int32.toNatClampNeg x3)) + a2) ≤ 9999 then (ckI (x3) 48 (ckI (x3) 48 (nm (up σ 34 (Int32.toNatClampNeg x3) ((σ 34 (Int32.toNatClampNeg x3)) + a2)) fun u9 => bd1 (fX9_note F u9 4 x3 a2 0) fun u10 => ckI (x3) 48 (some (0, u10 34 (Int32.toNatClampNeg x3), u10))))) else J5 (()))) else some (t2, 0, σ)) else some (t1, 0, σ)
set_option maxRecDepth 20000 in
theorem wfX10_act {X : XT} {D : va_G} {cI : ClassId} {ad : Nat → Nat} {F : Nat} {σ : St} {a0 : Int32} {a1 : Int32} {a2 : Int32} {res : Nat × Int32 × St} (C : Cx X (gC D cI ad) cX10_act 5 RX10 8 132 2) (hr : RetXi X (gC D cI ad) cX10_act 5 2 res) (hx : ThrX X (gC D cI ad) cX10_act 5 2 res) (h : fX10_act F σ a0 a1 a2 = some res) : WP X (gC D cI ad) 5 0 0 σ [(0, .ref (ad 0)), (1, .int a0), (2, .int a1), (3, .int a2)] [] := by
  unfold fX10_act at h
  refine w_aload_n C dX10_act_0 rfl 0 rfl ?_
  refine w_iload_n C dX10_act_1 rfl 1 rfl ?_
  refine bd1_w h (fun t1 hc h => ?_)
  refine w_callX C hx (As := [.int a0]) (st := []) 0 (by decide) rfl rfl (cfX10_checkValley D cI ad (l := X.2.1) C.2.2.1 hc) tw5_0 cy_X10_checkValley (by decide +kernel) ⟨by decide, by decide⟩ (by decide) rfl rfl (by decide) dX10_act_2 rfl h (fun h => ?_)
  refine w_aload_n C dX10_act_5 rfl 0 rfl ?_
  refine w_iload_n C dX10_act_6 rfl 2 rfl ?_
  refine w_bipush C 8 dX10_act_7 rfl (by decide) ?_
  refine bd1_w h (fun t2 hc h => ?_)
  refine w_callX C hx (As := [.int a1, .int 8]) (st := []) 0 (by decide) rfl rfl (cfX10_checkBelow D cI ad (l := X.2.1) C.2.2.1 hc) tw5_51 cy_X10_checkBelow (by decide +kernel) ⟨by decide, by decide⟩ (by decide) rfl rfl (by decide) dX10_act_9 rfl h (fun h => ?_)
  refine w_iload_n C dX10_act_12 rfl 1 rfl ?_
  refine w_bipush C 8 dX10_act_13 rfl (by decide) ?_
  refine w_imul C dX10_act_15 rfl ?_
  refine w_iload_n C dX10_act_16 rfl 2 rfl ?_
  refine w_iadd C dX10_act_17 rfl ?_
  refine w_nm h (fun x3 h => ?_)
  refine w_istore C [(4, .int x3), (0, .ref (ad 0)), (1, .int a0), (2, .int a1), (3, .int a2)] dX10_act_18 rfl (by decide) rfl ?_
  refine w_iload_n C dX10_act_20 rfl 4 rfl ?_
  refine w_iconst C 1 dX10_act_21 rfl (by decide) ?_
  refine jn_w (fun v4 : Unit => WP X (gC D cI ad) 5 2 49 σ [(0, .ref (ad 0))] []) h (fun v4 h => ?_) (fun J5 hJ6 h => ?_)
  · refine w_aload_n C dX10_act_49 rfl 0 rfl ?_
    refine w_iconst C 1 dX10_act_50 rfl (by decide) ?_
    refine bd2_w h (fun r7 u8 hc h => ?_)
    refine w_callVi C (As := [.int 1]) (st := []) 0 (Nat.le_of_ble_eq_true rfl) rfl rfl (cfX10_refuse D cI ad (l := X.2.1) C.2.2.1 hc) tw2_234 cy_X10_refuse (by decide +kernel) ⟨Nat.le_of_ble_eq_true rfl, Nat.le_of_ble_eq_true rfl⟩ (by decide) rfl rfl (Nat.le_of_ble_eq_true rfl) dX10_act_51 rfl ?_
    exact w_rxi hr h (by decide) dX10_act_54
  · refine w_icmp_lt C (qt := 49) dX10_act_22 (by decide) rfl h (fun _ h => ?_) (fun _ h => ?_)
    · exact w_sub [1] rfl (hJ6 _ h)
    · refine w_iload_n C dX10_act_25 rfl 4 rfl ?_
      refine w_bipush C 99 dX10_act_26 rfl (by decide) ?_
      refine w_icmp_gt C (qt := 49) dX10_act_28 (by decide) rfl h (fun _ h => ?_) (fun _ h => ?_)
      · exact w_sub [1] rfl (hJ6 _ h)
      · refine w_aload_n C dX10_act_31 rfl 1 rfl ?_
        refine w_get C 0 7 (Nat.le_of_ble_eq_true rfl) rfl rfl inB_X10 (by decide) tw2_179 rfl dX10_act_32 rfl ?_
        refine w_get C 30 6 (Nat.le_of_ble_eq_true rfl) rfl rfl inB_X9 (by decide) tw1_209 rfl dX10_act_35 rfl ?_
        refine w_iload C dX10_act_38 rfl 0 rfl ?_
        refine w_iald C 34 48 0 (Nat.le_of_ble_eq_true rfl) (fun _ => rfl) rfl h dX10_act_40 rfl (fun h => ?_)
        refine w_iload_n C dX10_act_41 rfl 4 rfl ?_
        refine w_iadd C dX10_act_42 rfl ?_
        refine w_sipush C 9999 dX10_act_43 rfl (by decide) ?_
        refine w_icmp_le C (qt := 55) dX10_act_46 (by decide) rfl h (fun _ h => ?_) (fun _ h => ?_)
        · refine w_aload_n C dX10_act_55 rfl 1 rfl ?_
          refine w_get C 0 7 (Nat.le_of_ble_eq_true rfl) rfl rfl inB_X10 (by decide) tw2_179 rfl dX10_act_56 rfl ?_
          refine w_get C 30 6 (Nat.le_of_ble_eq_true rfl) rfl rfl inB_X9 (by decide) tw1_209 rfl dX10_act_59 rfl ?_
          refine w_iload C dX10_act_62 rfl 0 rfl ?_
          refine w_dup2 C rfl rfl dX10_act_64 rfl ?_
          refine w_iald C 34 48 0 (Nat.le_of_ble_eq_true rfl) (fun _ => rfl) rfl h dX10_act_65 rfl (fun h => ?_)
          refine w_iload_n C dX10_act_66 rfl 4 rfl ?_
          refine w_iadd C dX10_act_67 rfl ?_
          refine w_iast C 34 48 0 (Nat.le_of_ble_eq_true rfl) (fun _ => rfl) rfl h dX10_act_68 rfl (fun h => ?_)
          refine w_nst h (fun u9 h => ?_)
          refine w_aload_n C dX10_act_69 rfl 1 rfl ?_
          refine w_get C 0 7 (Nat.le_of_ble_eq_true rfl) rfl rfl inB_X10 (by decide) tw2_179 rfl dX10_act_70 rfl ?_
          refine w_iconst C 4 dX10_act_73 rfl (by decide) ?_
          refine w_iload C dX10_act_74 rfl 0 rfl ?_
          refine w_iload_n C dX10_act_76 rfl 4 rfl ?_
          refine w_iconst C 0 dX10_act_77 rfl (by decide) ?_
          refine bd1_w h (fun u10 hc h => ?_)
          refine w_callVv C (As := [.int 4, .int x3, .int a2, .int 0]) (st := []) 30 (Nat.le_of_ble_eq_true rfl) rfl rfl (cfX9_note D cI ad (l := X.2.1) C.2.2.1 hc) tw2_238 cy_X9_note (by decide +kernel) ⟨Nat.le_of_ble_eq_true rfl, Nat.le_of_ble_eq_true rfl⟩ (by decide) rfl rfl (Nat.le_of_ble_eq_true rfl) dX10_act_78 rfl ?_
          refine w_aload_n C dX10_act_81 rfl 1 rfl ?_
          refine w_get C 0 7 (Nat.le_of_ble_eq_true rfl) rfl rfl inB_X10 (by decide) tw2_179 rfl dX10_act_82 rfl ?_
          refine w_get C 30 6 (Nat.le_of_ble_eq_true rfl) rfl rfl inB_X9 (by decide) tw1_209 rfl dX10_act_85 rfl ?_
          refine w_iload C dX10_act_88 rfl 0 rfl ?_
          refine w_iald C 34 48 0 (Nat.le_of_ble_eq_true rfl) (fun _ => rfl) rfl h dX10_act_90 rfl (fun h => ?_)
          exact w_rxi hr h (by decide) dX10_act_91
        · exact w_sub [1] rfl (hJ6 _ h)
theorem cfX10_act (D : va_G) (cI : ClassId) (ad : Nat → Nat) {l : Launch} (had : gAp (gC D cI ad)) {F : Nat} {σ : St} {a0 : Int32} {a1 : Int32} {a2 : Int32} {res : Nat × Int32 × St} (h : fX10_act F σ a0 a1 a2 = some res) : MX l yX10_act (wB yX10_act cX10_act 5 (some .int)) 8 132 2 (gC D cI ad) [.ref (ad 0), .int a0, .int a1, .int a2] σ res := mk_MX had (by decide +kernel) (Nat.le_of_ble_eq_true rfl) (fun X hX C hr hx => wfX10_act C hr hx h)

def fX9_takeBack (F : Nat) (σ : St) : Option St := if 1 ≤ (σ 30 1) then (nm (up σ 30 1 ((σ 30 1) - 1)) fun u2 => nm ((u2 30 1) * 4) fun x3 => ckI (x3 + 1) 160 (nm (u2 35 (Int32.toNatClampNeg (x3 + 1))) fun x4 => ckI (x3 + 2) 160 (nm (u2 35 (Int32.toNatClampNeg (x3 + 2))) fun x5 => ckI (x3 + 3) 160 (nm (u2 35 (Int32.toNatClampNeg (x3 + 3))) fun x6 => ckI (x3) 160 (nm (u2 35 (Int32.toNatClampNeg x3)) fun x7 => if x7 = 0 then (nm (up u2 30 0 ((u2 30 0) - x4)) fun u9 => some u9) else if x7 = 1 then (ckI (x4) 8 (nm (up u2 32 (Int32.toNatClampNeg x4) x5) fun u11 => ckI (x4) 8 (nm (up u11 31 (Int32.toNatClampNeg x4) x6) fun u12 => some u12))) else if x7 = 2 then (ckI (x4) 8 (nm (up u2 32 (Int32.toNatClampNeg x4) 0) fun u14 => some u14)) else if x7 = 3 then (bd1 (fX10_placeOf F u2 x4 x5) fun r16 => ckI (r16) 80 (nm (up u2 33 (Int32.toNatClampNeg r16) x6) fun u17 => some u17)) else ckI (x4) 48 (ckI (x4) 48 (nm (up u2 34 (Int32.toNatClampNeg x4) ((u2 34 (Int32.toNatClampNeg x4)) - x5)) fun u19 => some u19))))))) else some σ
set_option maxRecDepth 20000 in
theorem wfX9_takeBack {X : XT} {D : va_G} {cI : ClassId} {ad : Nat → Nat} {F : Nat} {σ : St}  {σ' : St} (C : Cx X (gC D cI ad) cX9_takeBack 5 RX9 1 21 0) (hr : RetV X (gC D cI ad) cX9_takeBack 5 0 σ') (h : fX9_takeBack F σ = some σ') : WP X (gC D cI ad) 5 0 0 σ [(0, .ref (ad 30))] [] := by
  unfold fX9_takeBack at h
  refine w_aload_n C dX9_takeBack_0 rfl 0 rfl ?_
  refine w_get C 30 1 (Nat.le_of_ble_eq_true rfl) rfl rfl inB_X9 (by decide) tw1_192 rfl dX9_takeBack_1 rfl ?_
  refine w_iconst C 1 dX9_takeBack_4 rfl (by decide) ?_
  refine w_icmp_ge C (qt := 9) dX9_takeBack_5 (by decide) rfl h (fun _ h => ?_) (fun _ h => ?_)
  · refine w_aload_n C dX9_takeBack_9 rfl 0 rfl ?_
    refine w_dup C rfl dX9_takeBack_10 rfl ?_
    refine w_get C 30 1 (Nat.le_of_ble_eq_true rfl) rfl rfl inB_X9 (by decide) tw1_192 rfl dX9_takeBack_11 rfl ?_
    refine w_iconst C 1 dX9_takeBack_14 rfl (by decide) ?_
    refine w_isub C dX9_takeBack_15 rfl ?_
    refine w_put C 30 1 ((σ 30 1) - 1) (Nat.le_of_ble_eq_true rfl) rfl rfl inB_X9 tyX9_ok nmX9 (by decide) tw1_192 rfl rfl rfl (Nat.le_of_ble_eq_true rfl) rfl dX9_takeBack_16 rfl ?_
    refine w_nst h (fun u2 h => ?_)
    refine w_aload_n C dX9_takeBack_19 rfl 0 rfl ?_
    refine w_get C 30 1 (Nat.le_of_ble_eq_true rfl) rfl rfl inB_X9 (by decide) tw1_192 rfl dX9_takeBack_20 rfl ?_
    refine w_iconst C 4 dX9_takeBack_23 rfl (by decide) ?_
    refine w_imul C dX9_takeBack_24 rfl ?_
    refine w_nm h (fun x3 h => ?_)
    refine w_istore_n C [(1, .int x3), (0, .ref (ad 30))] dX9_takeBack_25 rfl (by decide) rfl ?_
    refine w_aload_n C dX9_takeBack_26 rfl 1 rfl ?_
    refine w_get C 30 7 (Nat.le_of_ble_eq_true rfl) rfl rfl inB_X9 (by decide) tw1_210 rfl dX9_takeBack_27 rfl ?_
    refine w_iload_n C dX9_takeBack_30 rfl 0 rfl ?_
    refine w_iconst C 1 dX9_takeBack_31 rfl (by decide) ?_
    refine w_iadd C dX9_takeBack_32 rfl ?_
    refine w_iald C 35 160 0 (Nat.le_of_ble_eq_true rfl) (fun _ => rfl) rfl h dX9_takeBack_33 rfl (fun h => ?_)
    refine w_nm h (fun x4 h => ?_)
    refine w_istore_n C [(2, .int x4), (1, .int x3), (0, .ref (ad 30))] dX9_takeBack_34 rfl (by decide) rfl ?_
    refine w_aload_n C dX9_takeBack_35 rfl 2 rfl ?_
    refine w_get C 30 7 (Nat.le_of_ble_eq_true rfl) rfl rfl inB_X9 (by decide) tw1_210 rfl dX9_takeBack_36 rfl ?_
    refine w_iload_n C dX9_takeBack_39 rfl 1 rfl ?_
    refine w_iconst C 2 dX9_takeBack_40 rfl (by decide) ?_
    refine w_iadd C dX9_takeBack_41 rfl ?_
    refine w_iald C 35 160 0 (Nat.le_of_ble_eq_true rfl) (fun _ => rfl) rfl h dX9_takeBack_42 rfl (fun h => ?_)
    refine w_nm h (fun x5 h => ?_)
    refine w_istore_n C [(3, .int x5), (2, .int x4), (1, .int x3), (0, .ref (ad 30))] dX9_takeBack_43 rfl (by decide) rfl ?_
    refine w_aload_n C dX9_takeBack_44 rfl 3 rfl ?_
    refine w_get C 30 7 (Nat.le_of_ble_eq_true rfl) rfl rfl inB_X9 (by decide) tw1_210 rfl dX9_takeBack_45 rfl ?_
    refine w_iload_n C dX9_takeBack_48 rfl 2 rfl ?_
    refine w_iconst C 3 dX9_takeBack_49 rfl (by decide) ?_
    refine w_iadd C dX9_takeBack_50 rfl ?_
    refine w_iald C 35 160 0 (Nat.le_of_ble_eq_true rfl) (fun _ => rfl) rfl h dX9_takeBack_51 rfl (fun h => ?_)
    refine w_nm h (fun x6 h => ?_)
    refine w_istore C [(4, .int x6), (3, .int x5), (2, .int x4), (1, .int x3), (0, .ref (ad 30))] dX9_takeBack_52 rfl (by decide) rfl ?_
    refine w_aload_n C dX9_takeBack_54 rfl 4 rfl ?_
    refine w_get C 30 7 (Nat.le_of_ble_eq_true rfl) rfl rfl inB_X9 (by decide) tw1_210 rfl dX9_takeBack_55 rfl ?_
    refine w_iload_n C dX9_takeBack_58 rfl 3 rfl ?_
    refine w_iald C 35 160 0 (Nat.le_of_ble_eq_true rfl) (fun _ => rfl) rfl h dX9_takeBack_59 rfl (fun h => ?_)
    refine w_nm h (fun x7 h => ?_)
    refine if_w h (fun e10 h => ?_) (fun e10 h => ?_)
    · refine w_tsIn (q := 92) C 0 e10 dX9_takeBack_60 (by decide) (by decide) rfl (by decide) ?_
      refine w_aload_n C dX9_takeBack_92 rfl 4 rfl ?_
      refine w_dup C rfl dX9_takeBack_93 rfl ?_
      refine w_get C 30 0 (Nat.le_of_ble_eq_true rfl) rfl rfl inB_X9 (by decide) tw1_189 rfl dX9_takeBack_94 rfl ?_
      refine w_iload_n C dX9_takeBack_97 rfl 2 rfl ?_
      refine w_isub C dX9_takeBack_98 rfl ?_
      refine w_put C 30 0 ((u2 30 0) - x4) (Nat.le_of_ble_eq_true rfl) rfl rfl inB_X9 tyX9_ok nmX9 (by decide) tw1_189 rfl rfl rfl (Nat.le_of_ble_eq_true rfl) rfl dX9_takeBack_99 rfl ?_
      refine w_nst h (fun u9 h => ?_)
      refine w_goto (q := 158) C dX9_takeBack_102 (by decide) ?_
      exact w_rv hr h (by decide) dX9_takeBack_158
    refine if_w h (fun e13 h => ?_) (fun e13 h => ?_)
    · refine w_tsIn (q := 105) C 1 e13 dX9_takeBack_60 (by decide) (by decide) rfl (by decide) ?_
      refine w_aload_n C dX9_takeBack_105 rfl 4 rfl ?_
      refine w_get C 30 4 (Nat.le_of_ble_eq_true rfl) rfl rfl inB_X9 (by decide) tw1_199 rfl dX9_takeBack_106 rfl ?_
      refine w_iload_n C dX9_takeBack_109 rfl 2 rfl ?_
      refine w_iload_n C dX9_takeBack_110 rfl 1 rfl ?_
      refine w_iast C 32 8 0 (Nat.le_of_ble_eq_true rfl) (fun _ => rfl) rfl h dX9_takeBack_111 rfl (fun h => ?_)
      refine w_nst h (fun u11 h => ?_)
      refine w_aload_n C dX9_takeBack_112 rfl 4 rfl ?_
      refine w_get C 30 3 (Nat.le_of_ble_eq_true rfl) rfl rfl inB_X9 (by decide) tw1_197 rfl dX9_takeBack_113 rfl ?_
      refine w_iload_n C dX9_takeBack_116 rfl 2 rfl ?_
      refine w_iload C dX9_takeBack_117 rfl 0 rfl ?_
      refine w_iast C 31 8 0 (Nat.le_of_ble_eq_true rfl) (fun _ => rfl) rfl h dX9_takeBack_119 rfl (fun h => ?_)
      refine w_nst h (fun u12 h => ?_)
      refine w_goto (q := 158) C dX9_takeBack_120 (by decide) ?_
      exact w_rv hr h (by decide) dX9_takeBack_158
    refine if_w h (fun e15 h => ?_) (fun e15 h => ?_)
    · refine w_tsIn (q := 123) C 2 e15 dX9_takeBack_60 (by decide) (by decide) rfl (by decide) ?_
      refine w_aload_n C dX9_takeBack_123 rfl 4 rfl ?_
      refine w_get C 30 4 (Nat.le_of_ble_eq_true rfl) rfl rfl inB_X9 (by decide) tw1_199 rfl dX9_takeBack_124 rfl ?_
      refine w_iload_n C dX9_takeBack_127 rfl 2 rfl ?_
      refine w_iconst C 0 dX9_takeBack_128 rfl (by decide) ?_
      refine w_iast C 32 8 0 (Nat.le_of_ble_eq_true rfl) (fun _ => rfl) rfl h dX9_takeBack_129 rfl (fun h => ?_)
      refine w_nst h (fun u14 h => ?_)
      refine w_goto (q := 158) C dX9_takeBack_130 (by decide) ?_
      exact w_rv hr h (by decide) dX9_takeBack_158
    refine if_w h (fun e18 h => ?_) (fun e18 h => ?_)
    · refine w_tsIn (q := 133) C 3 e18 dX9_takeBack_60 (by decide) (by decide) rfl (by decide) ?_
      refine w_aload_n C dX9_takeBack_133 rfl 4 rfl ?_
      refine w_get C 30 5 (Nat.le_of_ble_eq_true rfl) rfl rfl inB_X9 (by decide) tw1_203 rfl dX9_takeBack_134 rfl ?_
      refine w_iload_n C dX9_takeBack_137 rfl 2 rfl ?_
      refine w_iload_n C dX9_takeBack_138 rfl 1 rfl ?_
      refine bd1_w h (fun r16 hc h => ?_)
      refine w_callNi C (As := [.int x4, .int x5]) (st := [.ref (ad 33)]) (host := RX10) (cfX10_placeOf D cI ad (l := X.2.1) C.2.2.1 hc) (by decide +kernel) cs_X10_placeOf (by decide +kernel) ⟨Nat.le_of_ble_eq_true rfl, Nat.le_of_ble_eq_true rfl⟩ (by decide) rfl rfl (Nat.le_of_ble_eq_true rfl) dX9_takeBack_139 rfl ?_
      refine w_iload C dX9_takeBack_142 rfl 0 rfl ?_
      refine w_iast C 33 80 0 (Nat.le_of_ble_eq_true rfl) (fun _ => rfl) rfl h dX9_takeBack_144 rfl (fun h => ?_)
      refine w_nst h (fun u17 h => ?_)
      refine w_goto (q := 158) C dX9_takeBack_145 (by decide) ?_
      exact w_rv hr h (by decide) dX9_takeBack_158
    refine w_tsOut (q := 148) C dX9_takeBack_60 (ts_out (0) 3 (by decide) (fun k hk => by
      have hk : k = 0 ∨ k = 1 ∨ k = 2 ∨ k = 3 := by omega
      rcases hk with rfl | rfl | rfl | rfl
      exacts [e10, e13, e15, e18])) (by decide) ?_
    refine w_aload_n C dX9_takeBack_148 rfl 4 rfl ?_
    refine w_get C 30 6 (Nat.le_of_ble_eq_true rfl) rfl rfl inB_X9 (by decide) tw1_207 rfl dX9_takeBack_149 rfl ?_
    refine w_iload_n C dX9_takeBack_152 rfl 2 rfl ?_
    refine w_dup2 C rfl rfl dX9_takeBack_153 rfl ?_
    refine w_iald C 34 48 0 (Nat.le_of_ble_eq_true rfl) (fun _ => rfl) rfl h dX9_takeBack_154 rfl (fun h => ?_)
    refine w_iload_n C dX9_takeBack_155 rfl 1 rfl ?_
    refine w_isub C dX9_takeBack_156 rfl ?_
    refine w_iast C 34 48 0 (Nat.le_of_ble_eq_true rfl) (fun _ => rfl) rfl h dX9_takeBack_157 rfl (fun h => ?_)
    refine w_nst h (fun u19 h => ?_)
    exact w_rv hr h (by decide) dX9_takeBack_158
  · exact w_rv hr h (by decide) dX9_takeBack_8
theorem cfX9_takeBack (D : va_G) (cI : ClassId) (ad : Nat → Nat) {l : Launch} (had : gAp (gC D cI ad)) {F : Nat} {σ : St}  {σ' : St} (h : fX9_takeBack F σ = some σ') : MV l yX9_takeBack (wB yX9_takeBack cX9_takeBack 5 none) 1 21 (gC D cI ad) [.ref (ad 30)] σ σ' := mk_MV had (by decide +kernel) (Nat.le_of_ble_eq_true rfl) (fun X hX C hr => wfX9_takeBack C hr h)

def fX10_undo (F : Nat) (σ : St) : Option (Int32 × St) := if (σ 30 1) = 0 then (some ((-1), σ)) else bd1 (fX9_takeBack F σ) fun u1 => some (u1 30 1, u1)
set_option maxRecDepth 20000 in
theorem wfX10_undo {X : XT} {D : va_G} {cI : ClassId} {ad : Nat → Nat} {F : Nat} {σ : St}  {r : Int32} {σ' : St} (C : Cx X (gC D cI ad) cX10_undo 1 RX10 2 45 0) (hr : RetI X (gC D cI ad) cX10_undo 1 0 r σ') (h : fX10_undo F σ = some (r, σ')) : WP X (gC D cI ad) 1 0 0 σ [(0, .ref (ad 0))] [] := by
  unfold fX10_undo at h
  refine w_aload_n C dX10_undo_0 rfl 0 rfl ?_
  refine w_get C 0 7 (Nat.le_of_ble_eq_true rfl) rfl rfl inB_X10 (by decide) tw2_179 rfl dX10_undo_1 rfl ?_
  refine w_get C 30 1 (Nat.le_of_ble_eq_true rfl) rfl rfl inB_X9 (by decide) tw1_193 rfl dX10_undo_4 rfl ?_
  refine w_if_ne C (qt := 12) dX10_undo_7 (by decide) rfl h (fun _ h => ?_) (fun _ h => ?_)
  · refine w_aload_n C dX10_undo_12 rfl 0 rfl ?_
    refine w_get C 0 7 (Nat.le_of_ble_eq_true rfl) rfl rfl inB_X10 (by decide) tw2_179 rfl dX10_undo_13 rfl ?_
    refine bd1_w h (fun u1 hc h => ?_)
    refine w_callVv C (As := []) (st := []) 30 (Nat.le_of_ble_eq_true rfl) rfl rfl (cfX9_takeBack D cI ad (l := X.2.1) C.2.2.1 hc) tw3_9 cy_X9_takeBack (by decide +kernel) ⟨Nat.le_of_ble_eq_true rfl, Nat.le_of_ble_eq_true rfl⟩ (by decide) rfl rfl (Nat.le_of_ble_eq_true rfl) dX10_undo_16 rfl ?_
    refine w_aload_n C dX10_undo_19 rfl 0 rfl ?_
    refine w_get C 0 7 (Nat.le_of_ble_eq_true rfl) rfl rfl inB_X10 (by decide) tw2_179 rfl dX10_undo_20 rfl ?_
    refine w_get C 30 1 (Nat.le_of_ble_eq_true rfl) rfl rfl inB_X9 (by decide) tw1_193 rfl dX10_undo_23 rfl ?_
    exact w_ri2 hr h (by decide) dX10_undo_26
  · refine w_iconst C (-1) dX10_undo_10 rfl (by decide) ?_
    exact w_ri2 hr h (by decide) dX10_undo_11
theorem cfX10_undo (D : va_G) (cI : ClassId) (ad : Nat → Nat) {l : Launch} (had : gAp (gC D cI ad)) {F : Nat} {σ : St}  {r : Int32} {σ' : St} (h : fX10_undo F σ = some (r, σ')) : MI l yX10_undo (wB yX10_undo cX10_undo 1 (some .int)) 2 45 (gC D cI ad) [.ref (ad 0)] σ r σ' := mk_MI had (by decide +kernel) (Nat.le_of_ble_eq_true rfl) (fun X hX C hr => wfX10_undo C hr h)

def fX5_changes (F : Nat) (σ : St) (a0 : Int32) : Option Int32 := bd1 (fX0_changes F σ (σ 66 3) a0) fun r1 => ckB (r1) (some r1)
set_option maxRecDepth 20000 in
theorem wfX5_changes {X : XT} {D : va_G} {cI : ClassId} {ad : Nat → Nat} {F : Nat} {σ : St} {a0 : Int32} {r : Int32} (C : Cx X (gC D cI ad) cX5_changes 2 RX5 2 44 0) (hr : RetZ X (gC D cI ad) cX5_changes 2 0 r σ) (h : fX5_changes F σ a0 = some r) : WP X (gC D cI ad) 2 0 0 σ [(0, .ref (ad 72)), (1, .int a0)] [] := by
  unfold fX5_changes at h
  refine w_aload_n C dX5_changes_0 rfl 0 rfl ?_
  refine w_get C 72 0 (Nat.le_of_ble_eq_true rfl) rfl rfl inB_X5 (by decide) tw2_74 rfl dX5_changes_1 rfl ?_
  refine w_aload_n C dX5_changes_4 rfl 0 rfl ?_
  refine w_get C 72 1 (Nat.le_of_ble_eq_true rfl) rfl rfl inB_X5 (by decide) tw2_75 rfl dX5_changes_5 rfl ?_
  refine w_get C 66 3 (Nat.le_of_ble_eq_true rfl) rfl rfl inB_X2 (by decide) tw2_46 rfl dX5_changes_8 rfl ?_
  refine w_iload_n C dX5_changes_11 rfl 1 rfl ?_
  refine bd1_w h (fun r1 hc h => ?_)
  refine w_callVi C (As := [.int (σ 66 3), .int a0]) (st := []) 2 (Nat.le_of_ble_eq_true rfl) rfl rfl (cfX0_changes D cI ad (l := X.2.1) C.2.2.1 hc) tw5_141 cy_X0_changes (by decide +kernel) ⟨Nat.le_of_ble_eq_true rfl, Nat.le_of_ble_eq_true rfl⟩ (by decide) rfl rfl (Nat.le_of_ble_eq_true rfl) dX5_changes_12 rfl ?_
  obtain ⟨hz, h⟩ := ckB_w h
  exact w_rz1 hr hz h (by decide) dX5_changes_15
theorem cfX5_changes (D : va_G) (cI : ClassId) (ad : Nat → Nat) {l : Launch} (had : gAp (gC D cI ad)) {F : Nat} {σ : St} {a0 : Int32} {r : Int32} (h : fX5_changes F σ a0 = some r) : MI l yX5_changes (wB yX5_changes cX5_changes 2 (some .boolean)) 2 44 (gC D cI ad) [.ref (ad 72), .int a0] σ r σ := mk_MZ had (by decide +kernel) (Nat.le_of_ble_eq_true rfl) (fun X hX C hr => wfX5_changes C hr h)

def fX5_firstFacing (F : Nat) (σ : St) (a0 : Int32) : Option (Int32 × St) := ckI (a0) 10 (nm (σ 71 (Int32.toNatClampNeg a0)) fun x1 => lp (fun (K3 : (St × Int32 × Int32) → Option (Int32 × St)) (v2 : St × Int32 × Int32) => jn (fun v5 : Unit => ckI (a0) 10 (nm (up v2.1 71 (Int32.toNatClampNeg a0) x1) fun u8 => some (v2.2.2, u8))) fun J6 => if 9 < v2.2.1 then (J6 (())) else if v2.2.2 = ((-1)) then (ckI (a0) 10 (nm (up v2.1 71 (Int32.toNatClampNeg a0) v2.2.1) fun u9 => if v2.2.1 = x1 then (K3 ((u9, v2.2.1 + 1, v2.2.2))) else bd2 (fX2_endsFacing F u9) fun r10 u11 => if r10 = 0 then (K3 ((u11, v2.2.1 + 1, v2.2.2))) else nm ((10 * a0) + v2.2.1) fun x12 => K3 ((u11, v2.2.1 + 1, x12)))) else J6 (())) F ((σ, 0, (-1))))
set_option maxRecDepth 20000 in
theorem wfX5_firstFacing {X : XT} {D : va_G} {cI : ClassId} {ad : Nat → Nat} {F : Nat} {σ : St} {a0 : Int32} {r : Int32} {σ' : St} (C : Cx X (gC D cI ad) cX5_firstFacing 5 RX5 4 98 0) (hr : RetI X (gC D cI ad) cX5_firstFacing 5 0 r σ') (h : fX5_firstFacing F σ a0 = some (r, σ')) : WP X (gC D cI ad) 5 0 0 σ [(0, .ref (ad 72)), (1, .int a0)] [] := by
  unfold fX5_firstFacing at h
  refine w_aload_n C dX5_firstFacing_0 rfl 0 rfl ?_
  refine w_get C 72 1 (Nat.le_of_ble_eq_true rfl) rfl rfl inB_X5 (by decide) tw2_75 rfl dX5_firstFacing_1 rfl ?_
  refine w_get C 66 2 (Nat.le_of_ble_eq_true rfl) rfl rfl inB_X2 (by decide) tw2_44 rfl dX5_firstFacing_4 rfl ?_
  refine w_iload_n C dX5_firstFacing_7 rfl 1 rfl ?_
  refine w_iald C 71 10 0 (Nat.le_of_ble_eq_true rfl) (fun _ => rfl) rfl h dX5_firstFacing_8 rfl (fun h => ?_)
  refine w_nm h (fun x1 h => ?_)
  refine w_istore_n C [(2, .int x1), (0, .ref (ad 72)), (1, .int a0)] dX5_firstFacing_9 rfl (by decide) rfl ?_
  refine w_iconst C (-1) dX5_firstFacing_10 rfl (by decide) ?_
  refine w_istore_n C [(3, .int ((-1))), (2, .int x1), (0, .ref (ad 72)), (1, .int a0)] dX5_firstFacing_11 rfl (by decide) rfl ?_
  refine w_iconst C 0 dX5_firstFacing_12 rfl (by decide) ?_
  refine w_istore C [(4, .int 0), (3, .int ((-1))), (2, .int x1), (0, .ref (ad 72)), (1, .int a0)] dX5_firstFacing_13 rfl (by decide) rfl ?_
  refine w_sub [0, 1, 2, 3, 4] rfl ?_
  refine lp_w (fun v2 : St × Int32 × Int32 => WP X (gC D cI ad) 5 0 15 v2.1 [(4, .int v2.2.1), (3, .int v2.2.2), (2, .int x1), (0, .ref (ad 72)), (1, .int a0)] []) (fun K3 hK4 v2 h => ?_) F _ h
  refine w_iload C dX5_firstFacing_15 rfl 0 rfl ?_
  refine w_bipush C 9 dX5_firstFacing_17 rfl (by decide) ?_
  refine jn_w (fun v5 : Unit => WP X (gC D cI ad) 5 0 68 v2.1 [(3, .int v2.2.2), (2, .int x1), (0, .ref (ad 72)), (1, .int a0)] []) h (fun v5 h => ?_) (fun J6 hJ7 h => ?_)
  · refine w_aload_n C dX5_firstFacing_68 rfl 2 rfl ?_
    refine w_get C 72 1 (Nat.le_of_ble_eq_true rfl) rfl rfl inB_X5 (by decide) tw2_75 rfl dX5_firstFacing_69 rfl ?_
    refine w_get C 66 2 (Nat.le_of_ble_eq_true rfl) rfl rfl inB_X2 (by decide) tw2_44 rfl dX5_firstFacing_72 rfl ?_
    refine w_iload_n C dX5_firstFacing_75 rfl 3 rfl ?_
    refine w_iload_n C dX5_firstFacing_76 rfl 1 rfl ?_
    refine w_iast C 71 10 0 (Nat.le_of_ble_eq_true rfl) (fun _ => rfl) rfl h dX5_firstFacing_77 rfl (fun h => ?_)
    refine w_nst h (fun u8 h => ?_)
    refine w_iload_n C dX5_firstFacing_78 rfl 0 rfl ?_
    exact w_ri2 hr h (by decide) dX5_firstFacing_79
  · refine w_icmp_gt C (qt := 68) dX5_firstFacing_19 (by decide) rfl h (fun _ h => ?_) (fun _ h => ?_)
    · exact w_sub [1, 2, 3, 4] rfl (hJ7 _ h)
    · refine w_iload_n C dX5_firstFacing_22 rfl 1 rfl ?_
      refine w_iconst C (-1) dX5_firstFacing_23 rfl (by decide) ?_
      refine w_icmp_ne C (qt := 68) dX5_firstFacing_24 (by decide) rfl h (fun _ h => ?_) (fun _ h => ?_)
      · exact w_sub [1, 2, 3, 4] rfl (hJ7 _ h)
      · refine w_aload_n C dX5_firstFacing_27 rfl 3 rfl ?_
        refine w_get C 72 1 (Nat.le_of_ble_eq_true rfl) rfl rfl inB_X5 (by decide) tw2_75 rfl dX5_firstFacing_28 rfl ?_
        refine w_get C 66 2 (Nat.le_of_ble_eq_true rfl) rfl rfl inB_X2 (by decide) tw2_44 rfl dX5_firstFacing_31 rfl ?_
        refine w_iload_n C dX5_firstFacing_34 rfl 4 rfl ?_
        refine w_iload C dX5_firstFacing_35 rfl 0 rfl ?_
        refine w_iast C 71 10 0 (Nat.le_of_ble_eq_true rfl) (fun _ => rfl) rfl h dX5_firstFacing_37 rfl (fun h => ?_)
        refine w_nst h (fun u9 h => ?_)
        refine w_iload C dX5_firstFacing_38 rfl 0 rfl ?_
        refine w_iload_n C dX5_firstFacing_40 rfl 2 rfl ?_
        refine w_icmp_eq C (qt := 62) dX5_firstFacing_41 (by decide) rfl h (fun _ h => ?_) (fun _ h => ?_)
        · refine w_iinc (j := 0) C (v2.2.1 + 1) [(4, .int (v2.2.1 + 1)), (3, .int v2.2.2), (2, .int x1), (0, .ref (ad 72)), (1, .int a0)] dX5_firstFacing_62 rfl rfl rfl (by decide) rfl ?_
          refine w_goto (q := 15) C dX5_firstFacing_65 (by decide) ?_
          exact w_sub [0, 1, 2, 3, 4] rfl (hK4 _ h)
        · refine w_aload_n C dX5_firstFacing_44 rfl 3 rfl ?_
          refine w_get C 72 1 (Nat.le_of_ble_eq_true rfl) rfl rfl inB_X5 (by decide) tw2_75 rfl dX5_firstFacing_45 rfl ?_
          refine bd2_w h (fun r10 u11 hc h => ?_)
          refine w_callVi C (As := []) (st := []) 66 (Nat.le_of_ble_eq_true rfl) rfl rfl (cfX2_endsFacing D cI ad (l := X.2.1) C.2.2.1 hc) tw5_146 cy_X2_endsFacing (by decide +kernel) ⟨Nat.le_of_ble_eq_true rfl, Nat.le_of_ble_eq_true rfl⟩ (by decide) rfl rfl (Nat.le_of_ble_eq_true rfl) dX5_firstFacing_48 rfl ?_
          refine w_if_eq C (qt := 62) dX5_firstFacing_51 (by decide) rfl h (fun _ h => ?_) (fun _ h => ?_)
          · refine w_iinc (j := 0) C (v2.2.1 + 1) [(4, .int (v2.2.1 + 1)), (3, .int v2.2.2), (2, .int x1), (0, .ref (ad 72)), (1, .int a0)] dX5_firstFacing_62 rfl rfl rfl (by decide) rfl ?_
            refine w_goto (q := 15) C dX5_firstFacing_65 (by decide) ?_
            exact w_sub [0, 1, 2, 3, 4] rfl (hK4 _ h)
          · refine w_bipush C 10 dX5_firstFacing_54 rfl (by decide) ?_
            refine w_iload_n C dX5_firstFacing_56 rfl 4 rfl ?_
            refine w_imul C dX5_firstFacing_57 rfl ?_
            refine w_iload C dX5_firstFacing_58 rfl 0 rfl ?_
            refine w_iadd C dX5_firstFacing_60 rfl ?_
            refine w_nm h (fun x12 h => ?_)
            refine w_istore_n C [(3, .int x12), (4, .int v2.2.1), (2, .int x1), (0, .ref (ad 72)), (1, .int a0)] dX5_firstFacing_61 rfl (by decide) rfl ?_
            refine w_iinc (j := 1) C (v2.2.1 + 1) [(4, .int (v2.2.1 + 1)), (3, .int x12), (2, .int x1), (0, .ref (ad 72)), (1, .int a0)] dX5_firstFacing_62 rfl rfl rfl (by decide) rfl ?_
            refine w_goto (q := 15) C dX5_firstFacing_65 (by decide) ?_
            exact w_sub [0, 1, 2, 3, 4] rfl (hK4 _ h)
theorem cfX5_firstFacing (D : va_G) (cI : ClassId) (ad : Nat → Nat) {l : Launch} (had : gAp (gC D cI ad)) {F : Nat} {σ : St} {a0 : Int32} {r : Int32} {σ' : St} (h : fX5_firstFacing F σ a0 = some (r, σ')) : MI l yX5_firstFacing (wB yX5_firstFacing cX5_firstFacing 5 (some .int)) 4 98 (gC D cI ad) [.ref (ad 72), .int a0] σ r σ' := mk_MI had (by decide +kernel) (Nat.le_of_ble_eq_true rfl) (fun X hX C hr => wfX5_firstFacing C hr h)

def fX5_mendByOne (F : Nat) (σ : St) : Option (Int32 × St) := lp (fun (K2 : (St × Int32 × Int32) → Option (Int32 × St)) (v1 : St × Int32 × Int32) => if (v1.1 66 4) ≤ v1.2.1 then (some (v1.2.2, v1.1)) else if v1.2.2 = ((-1)) then (bd1 (fX5_changes F v1.1 v1.2.1) fun r4 => if r4 = 0 then (K2 ((v1.1, v1.2.1 + 1, v1.2.2))) else bd2 (fX5_firstFacing F v1.1 v1.2.1) fun r5 u6 => K2 ((u6, v1.2.1 + 1, r5))) else some (v1.2.2, v1.1)) F ((σ, 0, (-1)))
set_option maxRecDepth 20000 in
theorem wfX5_mendByOne {X : XT} {D : va_G} {cI : ClassId} {ad : Nat → Nat} {F : Nat} {σ : St}  {r : Int32} {σ' : St} (C : Cx X (gC D cI ad) cX5_mendByOne 3 RX5 5 122 0) (hr : RetI X (gC D cI ad) cX5_mendByOne 3 0 r σ') (h : fX5_mendByOne F σ = some (r, σ')) : WP X (gC D cI ad) 3 0 0 σ [(0, .ref (ad 72))] [] := by
  unfold fX5_mendByOne at h
  refine w_iconst C (-1) dX5_mendByOne_0 rfl (by decide) ?_
  refine w_istore_n C [(1, .int ((-1))), (0, .ref (ad 72))] dX5_mendByOne_1 rfl (by decide) rfl ?_
  refine w_iconst C 0 dX5_mendByOne_2 rfl (by decide) ?_
  refine w_istore_n C [(2, .int 0), (1, .int ((-1))), (0, .ref (ad 72))] dX5_mendByOne_3 rfl (by decide) rfl ?_
  refine w_sub [0, 1, 2] rfl ?_
  refine lp_w (fun v1 : St × Int32 × Int32 => WP X (gC D cI ad) 3 0 4 v1.1 [(2, .int v1.2.1), (1, .int v1.2.2), (0, .ref (ad 72))] []) (fun K2 hK3 v1 h => ?_) F _ h
  refine w_iload_n C dX5_mendByOne_4 rfl 0 rfl ?_
  refine w_aload_n C dX5_mendByOne_5 rfl 2 rfl ?_
  refine w_get C 72 1 (Nat.le_of_ble_eq_true rfl) rfl rfl inB_X5 (by decide) tw2_75 rfl dX5_mendByOne_6 rfl ?_
  refine w_get C 66 4 (Nat.le_of_ble_eq_true rfl) rfl rfl inB_X2 (by decide) tw2_48 rfl dX5_mendByOne_9 rfl ?_
  refine w_icmp_ge C (qt := 40) dX5_mendByOne_12 (by decide) rfl h (fun _ h => ?_) (fun _ h => ?_)
  · refine w_iload_n C dX5_mendByOne_40 rfl 1 rfl ?_
    exact w_ri2 hr h (by decide) dX5_mendByOne_41
  · refine w_iload_n C dX5_mendByOne_15 rfl 1 rfl ?_
    refine w_iconst C (-1) dX5_mendByOne_16 rfl (by decide) ?_
    refine w_icmp_ne C (qt := 40) dX5_mendByOne_17 (by decide) rfl h (fun _ h => ?_) (fun _ h => ?_)
    · refine w_iload_n C dX5_mendByOne_40 rfl 1 rfl ?_
      exact w_ri2 hr h (by decide) dX5_mendByOne_41
    · refine w_aload_n C dX5_mendByOne_20 rfl 2 rfl ?_
      refine w_iload_n C dX5_mendByOne_21 rfl 0 rfl ?_
      refine bd1_w h (fun r4 hc h => ?_)
      refine w_callVi C (As := [.int v1.2.1]) (st := []) 72 (Nat.le_of_ble_eq_true rfl) rfl rfl (cfX5_changes D cI ad (l := X.2.1) C.2.2.1 hc) tw5_137 cy_X5_changes (by decide +kernel) ⟨Nat.le_of_ble_eq_true rfl, Nat.le_of_ble_eq_true rfl⟩ (by decide) rfl rfl (Nat.le_of_ble_eq_true rfl) dX5_mendByOne_22 rfl ?_
      refine w_if_eq C (qt := 34) dX5_mendByOne_25 (by decide) rfl h (fun _ h => ?_) (fun _ h => ?_)
      · refine w_iinc (j := 0) C (v1.2.1 + 1) [(2, .int (v1.2.1 + 1)), (1, .int v1.2.2), (0, .ref (ad 72))] dX5_mendByOne_34 rfl rfl rfl (by decide) rfl ?_
        refine w_goto (q := 4) C dX5_mendByOne_37 (by decide) ?_
        exact w_sub [0, 1, 2] rfl (hK3 _ h)
      · refine w_aload_n C dX5_mendByOne_28 rfl 2 rfl ?_
        refine w_iload_n C dX5_mendByOne_29 rfl 0 rfl ?_
        refine bd2_w h (fun r5 u6 hc h => ?_)
        refine w_callVi C (As := [.int v1.2.1]) (st := []) 72 (Nat.le_of_ble_eq_true rfl) rfl rfl (cfX5_firstFacing D cI ad (l := X.2.1) C.2.2.1 hc) tw5_142 cy_X5_firstFacing (by decide +kernel) ⟨Nat.le_of_ble_eq_true rfl, Nat.le_of_ble_eq_true rfl⟩ (by decide) rfl rfl (Nat.le_of_ble_eq_true rfl) dX5_mendByOne_30 rfl ?_
        refine w_istore_n C [(1, .int r5), (2, .int v1.2.1), (0, .ref (ad 72))] dX5_mendByOne_33 rfl (by decide) rfl ?_
        refine w_iinc (j := 1) C (v1.2.1 + 1) [(2, .int (v1.2.1 + 1)), (1, .int r5), (0, .ref (ad 72))] dX5_mendByOne_34 rfl rfl rfl (by decide) rfl ?_
        refine w_goto (q := 4) C dX5_mendByOne_37 (by decide) ?_
        exact w_sub [0, 1, 2] rfl (hK3 _ h)
theorem cfX5_mendByOne (D : va_G) (cI : ClassId) (ad : Nat → Nat) {l : Launch} (had : gAp (gC D cI ad)) {F : Nat} {σ : St}  {r : Int32} {σ' : St} (h : fX5_mendByOne F σ = some (r, σ')) : MI l yX5_mendByOne (wB yX5_mendByOne cX5_mendByOne 3 (some .int)) 5 122 (gC D cI ad) [.ref (ad 72)] σ r σ' := mk_MI had (by decide +kernel) (Nat.le_of_ble_eq_true rfl) (fun X hX C hr => wfX5_mendByOne C hr h)

def fX3_become (F : Nat) (σ : St) : Option St := lp (fun (K2 : (St × Int32) → Option St) (v1 : St × Int32) => if 1 < v1.2 then (some v1.1) else ckI (v1.2) 2 (ckI (v1.2) 2 (nm (up v1.1 74 (Int32.toNatClampNeg v1.2) (v1.1 68 (Int32.toNatClampNeg v1.2))) fun u4 => ckI (v1.2) 2 (ckI (v1.2) 2 (nm (up u4 75 (Int32.toNatClampNeg v1.2) (u4 69 (Int32.toNatClampNeg v1.2))) fun u5 => ckI (v1.2) 2 (ckI (v1.2) 2 (nm (up u5 76 (Int32.toNatClampNeg v1.2) (u5 70 (Int32.toNatClampNeg v1.2))) fun u6 => K2 ((u6, v1.2 + 1))))))))) F ((σ, 0))
set_option maxRecDepth 20000 in
theorem wfX3_become {X : XT} {D : va_G} {cI : ClassId} {ad : Nat → Nat} {F : Nat} {σ : St}  {σ' : St} (C : Cx X (gC D cI ad) cX3_become 3 RX3 0 0 0) (hr : RetV X (gC D cI ad) cX3_become 3 0 σ') (h : fX3_become F σ = some σ') : WP X (gC D cI ad) 3 0 0 σ [(0, .ref (ad 73)), (1, .ref (ad 67))] [] := by
  unfold fX3_become at h
  refine w_iconst C 0 dX3_become_0 rfl (by decide) ?_
  refine w_istore_n C [(2, .int 0), (0, .ref (ad 73)), (1, .ref (ad 67))] dX3_become_1 rfl (by decide) rfl ?_
  refine w_sub [0, 1, 2] rfl ?_
  refine lp_w (fun v1 : St × Int32 => WP X (gC D cI ad) 3 0 2 v1.1 [(2, .int v1.2), (0, .ref (ad 73)), (1, .ref (ad 67))] []) (fun K2 hK3 v1 h => ?_) F _ h
  refine w_iload_n C dX3_become_2 rfl 0 rfl ?_
  refine w_iconst C 1 dX3_become_3 rfl (by decide) ?_
  refine w_icmp_gt C (qt := 49) dX3_become_4 (by decide) rfl h (fun _ h => ?_) (fun _ h => ?_)
  · exact w_rv hr h (by decide) dX3_become_49
  · refine w_aload_n C dX3_become_7 rfl 1 rfl ?_
    refine w_get C 73 0 (Nat.le_of_ble_eq_true rfl) rfl rfl inB_X3 (by decide) tw2_24 rfl dX3_become_8 rfl ?_
    refine w_iload_n C dX3_become_11 rfl 0 rfl ?_
    refine w_aload_n C dX3_become_12 rfl 2 rfl ?_
    refine w_get C 67 0 (Nat.le_of_ble_eq_true rfl) rfl rfl inB_X3 (by decide) tw2_24 rfl dX3_become_13 rfl ?_
    refine w_iload_n C dX3_become_16 rfl 0 rfl ?_
    refine w_iald C 68 2 0 (Nat.le_of_ble_eq_true rfl) (fun _ => rfl) rfl h dX3_become_17 rfl (fun h => ?_)
    refine w_iast C 74 2 0 (Nat.le_of_ble_eq_true rfl) (fun _ => rfl) rfl h dX3_become_18 rfl (fun h => ?_)
    refine w_nst h (fun u4 h => ?_)
    refine w_aload_n C dX3_become_19 rfl 1 rfl ?_
    refine w_get C 73 1 (Nat.le_of_ble_eq_true rfl) rfl rfl inB_X3 (by decide) tw2_27 rfl dX3_become_20 rfl ?_
    refine w_iload_n C dX3_become_23 rfl 0 rfl ?_
    refine w_aload_n C dX3_become_24 rfl 2 rfl ?_
    refine w_get C 67 1 (Nat.le_of_ble_eq_true rfl) rfl rfl inB_X3 (by decide) tw2_27 rfl dX3_become_25 rfl ?_
    refine w_iload_n C dX3_become_28 rfl 0 rfl ?_
    refine w_iald C 69 2 0 (Nat.le_of_ble_eq_true rfl) (fun _ => rfl) rfl h dX3_become_29 rfl (fun h => ?_)
    refine w_iast C 75 2 0 (Nat.le_of_ble_eq_true rfl) (fun _ => rfl) rfl h dX3_become_30 rfl (fun h => ?_)
    refine w_nst h (fun u5 h => ?_)
    refine w_aload_n C dX3_become_31 rfl 1 rfl ?_
    refine w_get C 73 2 (Nat.le_of_ble_eq_true rfl) rfl rfl inB_X3 (by decide) tw2_30 rfl dX3_become_32 rfl ?_
    refine w_iload_n C dX3_become_35 rfl 0 rfl ?_
    refine w_aload_n C dX3_become_36 rfl 2 rfl ?_
    refine w_get C 67 2 (Nat.le_of_ble_eq_true rfl) rfl rfl inB_X3 (by decide) tw2_30 rfl dX3_become_37 rfl ?_
    refine w_iload_n C dX3_become_40 rfl 0 rfl ?_
    refine w_iald C 70 2 0 (Nat.le_of_ble_eq_true rfl) (fun _ => rfl) rfl h dX3_become_41 rfl (fun h => ?_)
    refine w_iast C 76 2 0 (Nat.le_of_ble_eq_true rfl) (fun _ => rfl) rfl h dX3_become_42 rfl (fun h => ?_)
    refine w_nst h (fun u6 h => ?_)
    refine w_iinc (j := 0) C (v1.2 + 1) [(2, .int (v1.2 + 1)), (0, .ref (ad 73)), (1, .ref (ad 67))] dX3_become_43 rfl rfl rfl (by decide) rfl ?_
    refine w_goto (q := 2) C dX3_become_46 (by decide) ?_
    exact w_sub [0, 1, 2] rfl (hK3 _ h)
theorem cfX3_become (D : va_G) (cI : ClassId) (ad : Nat → Nat) {l : Launch} (had : gAp (gC D cI ad)) {F : Nat} {σ : St}  {σ' : St} (h : fX3_become F σ = some σ') : MV l yX3_become (wB yX3_become cX3_become 3 none) 0 0 (gC D cI ad) [.ref (ad 73), .ref (ad 67)] σ σ' := mk_MV had (by decide +kernel) (Nat.le_of_ble_eq_true rfl) (fun X hX C hr => wfX3_become C hr h)

def fX3_become_2 (F : Nat) (σ : St) : Option St := lp (fun (K2 : (St × Int32) → Option St) (v1 : St × Int32) => if 1 < v1.2 then (some v1.1) else ckI (v1.2) 2 (ckI (v1.2) 2 (nm (up v1.1 68 (Int32.toNatClampNeg v1.2) (v1.1 74 (Int32.toNatClampNeg v1.2))) fun u4 => ckI (v1.2) 2 (ckI (v1.2) 2 (nm (up u4 69 (Int32.toNatClampNeg v1.2) (u4 75 (Int32.toNatClampNeg v1.2))) fun u5 => ckI (v1.2) 2 (ckI (v1.2) 2 (nm (up u5 70 (Int32.toNatClampNeg v1.2) (u5 76 (Int32.toNatClampNeg v1.2))) fun u6 => K2 ((u6, v1.2 + 1))))))))) F ((σ, 0))
set_option maxRecDepth 20000 in
theorem wfX3_become_2 {X : XT} {D : va_G} {cI : ClassId} {ad : Nat → Nat} {F : Nat} {σ : St}  {σ' : St} (C : Cx X (gC D cI ad) cX3_become 3 RX3 0 0 0) (hr : RetV X (gC D cI ad) cX3_become 3 0 σ') (h : fX3_become_2 F σ = some σ') : WP X (gC D cI ad) 3 0 0 σ [(0, .ref (ad 67)), (1, .ref (ad 73))] [] := by
  unfold fX3_become_2 at h
  refine w_iconst C 0 dX3_become_0 rfl (by decide) ?_
  refine w_istore_n C [(2, .int 0), (0, .ref (ad 67)), (1, .ref (ad 73))] dX3_become_1 rfl (by decide) rfl ?_
  refine w_sub [0, 1, 2] rfl ?_
  refine lp_w (fun v1 : St × Int32 => WP X (gC D cI ad) 3 0 2 v1.1 [(2, .int v1.2), (0, .ref (ad 67)), (1, .ref (ad 73))] []) (fun K2 hK3 v1 h => ?_) F _ h
  refine w_iload_n C dX3_become_2 rfl 0 rfl ?_
  refine w_iconst C 1 dX3_become_3 rfl (by decide) ?_
  refine w_icmp_gt C (qt := 49) dX3_become_4 (by decide) rfl h (fun _ h => ?_) (fun _ h => ?_)
  · exact w_rv hr h (by decide) dX3_become_49
  · refine w_aload_n C dX3_become_7 rfl 1 rfl ?_
    refine w_get C 67 0 (Nat.le_of_ble_eq_true rfl) rfl rfl inB_X3 (by decide) tw2_24 rfl dX3_become_8 rfl ?_
    refine w_iload_n C dX3_become_11 rfl 0 rfl ?_
    refine w_aload_n C dX3_become_12 rfl 2 rfl ?_
    refine w_get C 73 0 (Nat.le_of_ble_eq_true rfl) rfl rfl inB_X3 (by decide) tw2_24 rfl dX3_become_13 rfl ?_
    refine w_iload_n C dX3_become_16 rfl 0 rfl ?_
    refine w_iald C 74 2 0 (Nat.le_of_ble_eq_true rfl) (fun _ => rfl) rfl h dX3_become_17 rfl (fun h => ?_)
    refine w_iast C 68 2 0 (Nat.le_of_ble_eq_true rfl) (fun _ => rfl) rfl h dX3_become_18 rfl (fun h => ?_)
    refine w_nst h (fun u4 h => ?_)
    refine w_aload_n C dX3_become_19 rfl 1 rfl ?_
    refine w_get C 67 1 (Nat.le_of_ble_eq_true rfl) rfl rfl inB_X3 (by decide) tw2_27 rfl dX3_become_20 rfl ?_
    refine w_iload_n C dX3_become_23 rfl 0 rfl ?_
    refine w_aload_n C dX3_become_24 rfl 2 rfl ?_
    refine w_get C 73 1 (Nat.le_of_ble_eq_true rfl) rfl rfl inB_X3 (by decide) tw2_27 rfl dX3_become_25 rfl ?_
    refine w_iload_n C dX3_become_28 rfl 0 rfl ?_
    refine w_iald C 75 2 0 (Nat.le_of_ble_eq_true rfl) (fun _ => rfl) rfl h dX3_become_29 rfl (fun h => ?_)
    refine w_iast C 69 2 0 (Nat.le_of_ble_eq_true rfl) (fun _ => rfl) rfl h dX3_become_30 rfl (fun h => ?_)
    refine w_nst h (fun u5 h => ?_)
    refine w_aload_n C dX3_become_31 rfl 1 rfl ?_
    refine w_get C 67 2 (Nat.le_of_ble_eq_true rfl) rfl rfl inB_X3 (by decide) tw2_30 rfl dX3_become_32 rfl ?_
    refine w_iload_n C dX3_become_35 rfl 0 rfl ?_
    refine w_aload_n C dX3_become_36 rfl 2 rfl ?_
    refine w_get C 73 2 (Nat.le_of_ble_eq_true rfl) rfl rfl inB_X3 (by decide) tw2_30 rfl dX3_become_37 rfl ?_
    refine w_iload_n C dX3_become_40 rfl 0 rfl ?_
    refine w_iald C 76 2 0 (Nat.le_of_ble_eq_true rfl) (fun _ => rfl) rfl h dX3_become_41 rfl (fun h => ?_)
    refine w_iast C 70 2 0 (Nat.le_of_ble_eq_true rfl) (fun _ => rfl) rfl h dX3_become_42 rfl (fun h => ?_)
    refine w_nst h (fun u6 h => ?_)
    refine w_iinc (j := 0) C (v1.2 + 1) [(2, .int (v1.2 + 1)), (0, .ref (ad 67)), (1, .ref (ad 73))] dX3_become_43 rfl rfl rfl (by decide) rfl ?_
    refine w_goto (q := 2) C dX3_become_46 (by decide) ?_
    exact w_sub [0, 1, 2] rfl (hK3 _ h)
theorem cfX3_become_2 (D : va_G) (cI : ClassId) (ad : Nat → Nat) {l : Launch} (had : gAp (gC D cI ad)) {F : Nat} {σ : St}  {σ' : St} (h : fX3_become_2 F σ = some σ') : MV l yX3_become (wB yX3_become cX3_become 3 none) 0 0 (gC D cI ad) [.ref (ad 67), .ref (ad 73)] σ σ' := mk_MV had (by decide +kernel) (Nat.le_of_ble_eq_true rfl) (fun X hX C hr => wfX3_become_2 C hr h)

def fX3_become_3 (F : Nat) (σ : St) : Option St := lp (fun (K2 : (St × Int32) → Option St) (v1 : St × Int32) => if 1 < v1.2 then (some v1.1) else ckI (v1.2) 2 (ckI (v1.2) 2 (nm (up v1.1 78 (Int32.toNatClampNeg v1.2) (v1.1 68 (Int32.toNatClampNeg v1.2))) fun u4 => ckI (v1.2) 2 (ckI (v1.2) 2 (nm (up u4 79 (Int32.toNatClampNeg v1.2) (u4 69 (Int32.toNatClampNeg v1.2))) fun u5 => ckI (v1.2) 2 (ckI (v1.2) 2 (nm (up u5 80 (Int32.toNatClampNeg v1.2) (u5 70 (Int32.toNatClampNeg v1.2))) fun u6 => K2 ((u6, v1.2 + 1))))))))) F ((σ, 0))
set_option maxRecDepth 20000 in
theorem wfX3_become_3 {X : XT} {D : va_G} {cI : ClassId} {ad : Nat → Nat} {F : Nat} {σ : St}  {σ' : St} (C : Cx X (gC D cI ad) cX3_become 3 RX3 0 0 0) (hr : RetV X (gC D cI ad) cX3_become 3 0 σ') (h : fX3_become_3 F σ = some σ') : WP X (gC D cI ad) 3 0 0 σ [(0, .ref (ad 77)), (1, .ref (ad 67))] [] := by
  unfold fX3_become_3 at h
  refine w_iconst C 0 dX3_become_0 rfl (by decide) ?_
  refine w_istore_n C [(2, .int 0), (0, .ref (ad 77)), (1, .ref (ad 67))] dX3_become_1 rfl (by decide) rfl ?_
  refine w_sub [0, 1, 2] rfl ?_
  refine lp_w (fun v1 : St × Int32 => WP X (gC D cI ad) 3 0 2 v1.1 [(2, .int v1.2), (0, .ref (ad 77)), (1, .ref (ad 67))] []) (fun K2 hK3 v1 h => ?_) F _ h
  refine w_iload_n C dX3_become_2 rfl 0 rfl ?_
  refine w_iconst C 1 dX3_become_3 rfl (by decide) ?_
  refine w_icmp_gt C (qt := 49) dX3_become_4 (by decide) rfl h (fun _ h => ?_) (fun _ h => ?_)
  · exact w_rv hr h (by decide) dX3_become_49
  · refine w_aload_n C dX3_become_7 rfl 1 rfl ?_
    refine w_get C 77 0 (Nat.le_of_ble_eq_true rfl) rfl rfl inB_X3 (by decide) tw2_24 rfl dX3_become_8 rfl ?_
    refine w_iload_n C dX3_become_11 rfl 0 rfl ?_
    refine w_aload_n C dX3_become_12 rfl 2 rfl ?_
    refine w_get C 67 0 (Nat.le_of_ble_eq_true rfl) rfl rfl inB_X3 (by decide) tw2_24 rfl dX3_become_13 rfl ?_
    refine w_iload_n C dX3_become_16 rfl 0 rfl ?_
    refine w_iald C 68 2 0 (Nat.le_of_ble_eq_true rfl) (fun _ => rfl) rfl h dX3_become_17 rfl (fun h => ?_)
    refine w_iast C 78 2 0 (Nat.le_of_ble_eq_true rfl) (fun _ => rfl) rfl h dX3_become_18 rfl (fun h => ?_)
    refine w_nst h (fun u4 h => ?_)
    refine w_aload_n C dX3_become_19 rfl 1 rfl ?_
    refine w_get C 77 1 (Nat.le_of_ble_eq_true rfl) rfl rfl inB_X3 (by decide) tw2_27 rfl dX3_become_20 rfl ?_
    refine w_iload_n C dX3_become_23 rfl 0 rfl ?_
    refine w_aload_n C dX3_become_24 rfl 2 rfl ?_
    refine w_get C 67 1 (Nat.le_of_ble_eq_true rfl) rfl rfl inB_X3 (by decide) tw2_27 rfl dX3_become_25 rfl ?_
    refine w_iload_n C dX3_become_28 rfl 0 rfl ?_
    refine w_iald C 69 2 0 (Nat.le_of_ble_eq_true rfl) (fun _ => rfl) rfl h dX3_become_29 rfl (fun h => ?_)
    refine w_iast C 79 2 0 (Nat.le_of_ble_eq_true rfl) (fun _ => rfl) rfl h dX3_become_30 rfl (fun h => ?_)
    refine w_nst h (fun u5 h => ?_)
    refine w_aload_n C dX3_become_31 rfl 1 rfl ?_
    refine w_get C 77 2 (Nat.le_of_ble_eq_true rfl) rfl rfl inB_X3 (by decide) tw2_30 rfl dX3_become_32 rfl ?_
    refine w_iload_n C dX3_become_35 rfl 0 rfl ?_
    refine w_aload_n C dX3_become_36 rfl 2 rfl ?_
    refine w_get C 67 2 (Nat.le_of_ble_eq_true rfl) rfl rfl inB_X3 (by decide) tw2_30 rfl dX3_become_37 rfl ?_
    refine w_iload_n C dX3_become_40 rfl 0 rfl ?_
    refine w_iald C 70 2 0 (Nat.le_of_ble_eq_true rfl) (fun _ => rfl) rfl h dX3_become_41 rfl (fun h => ?_)
    refine w_iast C 80 2 0 (Nat.le_of_ble_eq_true rfl) (fun _ => rfl) rfl h dX3_become_42 rfl (fun h => ?_)
    refine w_nst h (fun u6 h => ?_)
    refine w_iinc (j := 0) C (v1.2 + 1) [(2, .int (v1.2 + 1)), (0, .ref (ad 77)), (1, .ref (ad 67))] dX3_become_43 rfl rfl rfl (by decide) rfl ?_
    refine w_goto (q := 2) C dX3_become_46 (by decide) ?_
    exact w_sub [0, 1, 2] rfl (hK3 _ h)
theorem cfX3_become_3 (D : va_G) (cI : ClassId) (ad : Nat → Nat) {l : Launch} (had : gAp (gC D cI ad)) {F : Nat} {σ : St}  {σ' : St} (h : fX3_become_3 F σ = some σ') : MV l yX3_become (wB yX3_become cX3_become 3 none) 0 0 (gC D cI ad) [.ref (ad 77), .ref (ad 67)] σ σ' := mk_MV had (by decide +kernel) (Nat.le_of_ble_eq_true rfl) (fun X hX C hr => wfX3_become_3 C hr h)

