def fX1_findContradictions (F : Nat) (σ : St) : Option St := bd1 (fJ7_fill_53178_5 F σ 0) fun u1 => lp (fun (K3 : (St × Int32) → Option St) (v2 : St × Int32) => if (v2.1 2 1) ≤ v2.2 then (some v2.1) else nm (v2.2 + 1) fun x5 => lp (fun (K7 : (St × Int32) → Option St) (v6 : St × Int32) => if (v6.1 2 1) ≤ v6.2 then (K3 ((v6.1, v2.2 + 1))) else bd1 (fX1_contradict F v6.1 v2.2 v6.2) fun r9 => if r9 = 0 then (K7 ((v6.1, v6.2 + 1))) else ckI (v2.2) 8 (ckI (v2.2) 8 (nm (up v6.1 85 (Int32.toNatClampNeg v2.2) ((v6.1 85 (Int32.toNatClampNeg v2.2)) ||| (1 <<< (v6.2 &&& 31)))) fun u10 => K7 ((u10, v6.2 + 1))))) F ((v2.1, x5))) F ((u1, 0))
set_option maxRecDepth 20000 in
theorem wfX1_findContradictions {X : XT} {D : va_G} {cI : ClassId} {ad : Nat → Nat} {F : Nat} {σ : St}  {σ' : St} (C : Cx X (gC D cI ad) cX1_findContradictions 3 RX1 3 73 0) (hr : RetV X (gC D cI ad) cX1_findContradictions 3 0 σ') (h : fX1_findContradictions F σ = some σ') : WP X (gC D cI ad) 3 0 0 σ [(0, .ref (ad 84))] [] := by
  unfold fX1_findContradictions at h
  refine w_aload_n C dX1_findContradictions_0 rfl 0 rfl ?_
  refine w_get C 84 2 (Nat.le_of_ble_eq_true rfl) rfl rfl inB_X1 (by decide) tw2_130 rfl dX1_findContradictions_1 rfl ?_
  refine w_iconst C 0 dX1_findContradictions_4 rfl (by decide) ?_
  refine bd1_w h (fun u1 hc h => ?_)
  refine w_callSv C (As := [.ref (ad 85), .int 0]) (st := []) (cfJ7_fill_53178_5 D cI ad (l := X.2.1) C.2.2.1 hc) tw5_236 cs_J7_fill_53178 (by decide +kernel) ⟨Nat.le_of_ble_eq_true rfl, Nat.le_of_ble_eq_true rfl⟩ (by decide) rfl rfl (Nat.le_of_ble_eq_true rfl) dX1_findContradictions_5 rfl ?_
  refine w_iconst C 0 dX1_findContradictions_8 rfl (by decide) ?_
  refine w_istore_n C [(1, .int 0), (0, .ref (ad 84))] dX1_findContradictions_9 rfl (by decide) rfl ?_
  refine w_sub [0, 1] rfl ?_
  refine lp_w (fun v2 : St × Int32 => WP X (gC D cI ad) 3 0 10 v2.1 [(1, .int v2.2), (0, .ref (ad 84))] []) (fun K3 hK4 v2 h => ?_) F _ h
  refine w_iload_n C dX1_findContradictions_10 rfl 0 rfl ?_
  refine w_aload_n C dX1_findContradictions_11 rfl 1 rfl ?_
  refine w_get C 84 0 (Nat.le_of_ble_eq_true rfl) rfl rfl inB_X1 (by decide) tw2_128 rfl dX1_findContradictions_12 rfl ?_
  refine w_get C 2 1 (Nat.le_of_ble_eq_true rfl) rfl rfl inB_X0 (by decide) tw1_63 rfl dX1_findContradictions_15 rfl ?_
  refine w_icmp_ge C (qt := 69) dX1_findContradictions_18 (by decide) rfl h (fun _ h => ?_) (fun _ h => ?_)
  · exact w_rv hr h (by decide) dX1_findContradictions_69
  · refine w_iload_n C dX1_findContradictions_21 rfl 0 rfl ?_
    refine w_iconst C 1 dX1_findContradictions_22 rfl (by decide) ?_
    refine w_iadd C dX1_findContradictions_23 rfl ?_
    refine w_nm h (fun x5 h => ?_)
    refine w_istore_n C [(2, .int x5), (1, .int v2.2), (0, .ref (ad 84))] dX1_findContradictions_24 rfl (by decide) rfl ?_
    refine w_sub [0, 1, 2] rfl ?_
    refine lp_w (fun v6 : St × Int32 => WP X (gC D cI ad) 3 0 25 v6.1 [(2, .int v6.2), (1, .int v2.2), (0, .ref (ad 84))] []) (fun K7 hK8 v6 h => ?_) F _ h
    refine w_iload_n C dX1_findContradictions_25 rfl 0 rfl ?_
    refine w_aload_n C dX1_findContradictions_26 rfl 2 rfl ?_
    refine w_get C 84 0 (Nat.le_of_ble_eq_true rfl) rfl rfl inB_X1 (by decide) tw2_128 rfl dX1_findContradictions_27 rfl ?_
    refine w_get C 2 1 (Nat.le_of_ble_eq_true rfl) rfl rfl inB_X0 (by decide) tw1_63 rfl dX1_findContradictions_30 rfl ?_
    refine w_icmp_ge C (qt := 63) dX1_findContradictions_33 (by decide) rfl h (fun _ h => ?_) (fun _ h => ?_)
    · refine w_iinc (j := 1) C (v2.2 + 1) [(1, .int (v2.2 + 1)), (2, .int v6.2), (0, .ref (ad 84))] dX1_findContradictions_63 rfl rfl rfl (by decide) rfl ?_
      refine w_goto (q := 10) C dX1_findContradictions_66 (by decide) ?_
      exact w_sub [0, 2] rfl (hK4 _ h)
    · refine w_aload_n C dX1_findContradictions_36 rfl 2 rfl ?_
      refine w_iload_n C dX1_findContradictions_37 rfl 1 rfl ?_
      refine w_iload_n C dX1_findContradictions_38 rfl 0 rfl ?_
      refine bd1_w h (fun r9 hc h => ?_)
      refine w_callVi C (As := [.int v2.2, .int v6.2]) (st := []) 84 (Nat.le_of_ble_eq_true rfl) rfl rfl (cfX1_contradict D cI ad (l := X.2.1) C.2.2.1 hc) tw5_237 cy_X1_contradict (by decide +kernel) ⟨Nat.le_of_ble_eq_true rfl, Nat.le_of_ble_eq_true rfl⟩ (by decide) rfl rfl (Nat.le_of_ble_eq_true rfl) dX1_findContradictions_39 rfl ?_
      refine w_if_eq C (qt := 57) dX1_findContradictions_42 (by decide) rfl h (fun _ h => ?_) (fun _ h => ?_)
      · refine w_iinc (j := 0) C (v6.2 + 1) [(2, .int (v6.2 + 1)), (1, .int v2.2), (0, .ref (ad 84))] dX1_findContradictions_57 rfl rfl rfl (by decide) rfl ?_
        refine w_goto (q := 25) C dX1_findContradictions_60 (by decide) ?_
        exact w_sub [0, 1, 2] rfl (hK8 _ h)
      · refine w_aload_n C dX1_findContradictions_45 rfl 2 rfl ?_
        refine w_get C 84 2 (Nat.le_of_ble_eq_true rfl) rfl rfl inB_X1 (by decide) tw2_130 rfl dX1_findContradictions_46 rfl ?_
        refine w_iload_n C dX1_findContradictions_49 rfl 1 rfl ?_
        refine w_dup2 C rfl rfl dX1_findContradictions_50 rfl ?_
        refine w_iald C 85 8 0 (Nat.le_of_ble_eq_true rfl) (fun _ => rfl) rfl h dX1_findContradictions_51 rfl (fun h => ?_)
        refine w_iconst C 1 dX1_findContradictions_52 rfl (by decide) ?_
        refine w_iload_n C dX1_findContradictions_53 rfl 0 rfl ?_
        refine w_ishl C dX1_findContradictions_54 rfl ?_
        refine w_ior C dX1_findContradictions_55 rfl ?_
        refine w_iast C 85 8 0 (Nat.le_of_ble_eq_true rfl) (fun _ => rfl) rfl h dX1_findContradictions_56 rfl (fun h => ?_)
        refine w_nst h (fun u10 h => ?_)
        refine w_iinc (j := 0) C (v6.2 + 1) [(2, .int (v6.2 + 1)), (1, .int v2.2), (0, .ref (ad 84))] dX1_findContradictions_57 rfl rfl rfl (by decide) rfl ?_
        refine w_goto (q := 25) C dX1_findContradictions_60 (by decide) ?_
        exact w_sub [0, 1, 2] rfl (hK8 _ h)
theorem cfX1_findContradictions (D : va_G) (cI : ClassId) (ad : Nat → Nat) {l : Launch} (had : gAp (gC D cI ad)) {F : Nat} {σ : St}  {σ' : St} (h : fX1_findContradictions F σ = some σ') : MV l yX1_findContradictions (wB yX1_findContradictions cX1_findContradictions 3 none) 3 73 (gC D cI ad) [.ref (ad 84)] σ σ' := mk_MV had (by decide +kernel) (Nat.le_of_ble_eq_true rfl) (fun X hX C hr => wfX1_findContradictions C hr h)

def fX1_endsAll (F : Nat) (σ : St) (a0 : Int32) : Option Int32 := lp (fun (K2 : Int32 → Option Int32) (v1 : Int32) => if (σ 2 1) ≤ v1 then (some 1) else if ((a0 >>> (v1 &&& 31)) &&& 1) = 0 then (ckI (v1) 8 (if ((σ 85 (Int32.toNatClampNeg v1)) &&& (a0 ^^^ ((-1)))) = 0 then (K2 (v1 + 1)) else some 0)) else K2 (v1 + 1)) F 0
set_option maxRecDepth 20000 in
theorem wfX1_endsAll {X : XT} {D : va_G} {cI : ClassId} {ad : Nat → Nat} {F : Nat} {σ : St} {a0 : Int32} {r : Int32} (C : Cx X (gC D cI ad) cX1_endsAll 3 RX1 0 0 0) (hr : RetZ X (gC D cI ad) cX1_endsAll 3 0 r σ) (h : fX1_endsAll F σ a0 = some r) : WP X (gC D cI ad) 3 0 0 σ [(0, .ref (ad 84)), (1, .int a0)] [] := by
  unfold fX1_endsAll at h
  refine w_iconst C 0 dX1_endsAll_0 rfl (by decide) ?_
  refine w_istore_n C [(2, .int 0), (0, .ref (ad 84)), (1, .int a0)] dX1_endsAll_1 rfl (by decide) rfl ?_
  refine w_sub [0, 1, 2] rfl ?_
  refine lp_w (fun v1 : Int32 => WP X (gC D cI ad) 3 0 2 σ [(2, .int v1), (0, .ref (ad 84)), (1, .int a0)] []) (fun K2 hK3 v1 h => ?_) F _ h
  refine w_iload_n C dX1_endsAll_2 rfl 0 rfl ?_
  refine w_aload_n C dX1_endsAll_3 rfl 1 rfl ?_
  refine w_get C 84 0 (Nat.le_of_ble_eq_true rfl) rfl rfl inB_X1 (by decide) tw2_128 rfl dX1_endsAll_4 rfl ?_
  refine w_get C 2 1 (Nat.le_of_ble_eq_true rfl) rfl rfl inB_X0 (by decide) tw1_63 rfl dX1_endsAll_7 rfl ?_
  refine w_icmp_ge C (qt := 42) dX1_endsAll_10 (by decide) rfl h (fun _ h => ?_) (fun _ h => ?_)
  · refine w_iconst C 1 dX1_endsAll_42 rfl (by decide) ?_
    exact w_rz1 hr (by decide) h (by decide) dX1_endsAll_43
  · refine w_iload_n C dX1_endsAll_13 rfl 2 rfl ?_
    refine w_iload_n C dX1_endsAll_14 rfl 0 rfl ?_
    refine w_ishr C dX1_endsAll_15 rfl ?_
    refine w_iconst C 1 dX1_endsAll_16 rfl (by decide) ?_
    refine w_iand C dX1_endsAll_17 rfl ?_
    refine w_if_ne C (qt := 36) dX1_endsAll_18 (by decide) rfl h (fun _ h => ?_) (fun _ h => ?_)
    · refine w_iinc (j := 0) C (v1 + 1) [(2, .int (v1 + 1)), (0, .ref (ad 84)), (1, .int a0)] dX1_endsAll_36 rfl rfl rfl (by decide) rfl ?_
      refine w_goto (q := 2) C dX1_endsAll_39 (by decide) ?_
      exact w_sub [0, 1, 2] rfl (hK3 _ h)
    · refine w_aload_n C dX1_endsAll_21 rfl 1 rfl ?_
      refine w_get C 84 2 (Nat.le_of_ble_eq_true rfl) rfl rfl inB_X1 (by decide) tw2_130 rfl dX1_endsAll_22 rfl ?_
      refine w_iload_n C dX1_endsAll_25 rfl 0 rfl ?_
      refine w_iald C 85 8 0 (Nat.le_of_ble_eq_true rfl) (fun _ => rfl) rfl h dX1_endsAll_26 rfl (fun h => ?_)
      refine w_iload_n C dX1_endsAll_27 rfl 2 rfl ?_
      refine w_iconst C (-1) dX1_endsAll_28 rfl (by decide) ?_
      refine w_ixor C dX1_endsAll_29 rfl ?_
      refine w_iand C dX1_endsAll_30 rfl ?_
      refine w_if_eq C (qt := 36) dX1_endsAll_31 (by decide) rfl h (fun _ h => ?_) (fun _ h => ?_)
      · refine w_iinc (j := 0) C (v1 + 1) [(2, .int (v1 + 1)), (0, .ref (ad 84)), (1, .int a0)] dX1_endsAll_36 rfl rfl rfl (by decide) rfl ?_
        refine w_goto (q := 2) C dX1_endsAll_39 (by decide) ?_
        exact w_sub [0, 1, 2] rfl (hK3 _ h)
      · refine w_iconst C 0 dX1_endsAll_34 rfl (by decide) ?_
        exact w_rz1 hr (by decide) h (by decide) dX1_endsAll_35
theorem cfX1_endsAll (D : va_G) (cI : ClassId) (ad : Nat → Nat) {l : Launch} (had : gAp (gC D cI ad)) {F : Nat} {σ : St} {a0 : Int32} {r : Int32} (h : fX1_endsAll F σ a0 = some r) : MI l yX1_endsAll (wB yX1_endsAll cX1_endsAll 3 (some .boolean)) 0 0 (gC D cI ad) [.ref (ad 84), .int a0] σ r σ := mk_MZ had (by decide +kernel) (Nat.le_of_ble_eq_true rfl) (fun X hX C hr => wfX1_endsAll C hr h)

def fX1_fewestToBreak (F : Nat) (σ : St) : Option Int32 := nm ((1 <<< ((σ 2 1) &&& 31)) - 1) fun x1 => lp (fun (K3 : (Int32 × Int32) → Option Int32) (v2 : Int32 × Int32) => if x1 < v2.1 then (some v2.2) else bd1 (fJ6_bitCount_0f7a4 F σ v2.1) fun r5 => bd1 (fJ6_bitCount_0f7a4 F σ v2.2) fun r6 => if r6 ≤ r5 then (K3 ((v2.1 + 1, v2.2))) else bd1 (fX1_endsAll F σ v2.1) fun r7 => if r7 = 0 then (K3 ((v2.1 + 1, v2.2))) else K3 ((v2.1 + 1, v2.1))) F ((0, x1))
set_option maxRecDepth 20000 in
theorem wfX1_fewestToBreak {X : XT} {D : va_G} {cI : ClassId} {ad : Nat → Nat} {F : Nat} {σ : St}  {r : Int32} (C : Cx X (gC D cI ad) cX1_fewestToBreak 4 RX1 1 22 0) (hr : RetI X (gC D cI ad) cX1_fewestToBreak 4 0 r σ) (h : fX1_fewestToBreak F σ = some r) : WP X (gC D cI ad) 4 0 0 σ [(0, .ref (ad 84))] [] := by
  unfold fX1_fewestToBreak at h
  refine w_iconst C 1 dX1_fewestToBreak_0 rfl (by decide) ?_
  refine w_aload_n C dX1_fewestToBreak_1 rfl 0 rfl ?_
  refine w_get C 84 0 (Nat.le_of_ble_eq_true rfl) rfl rfl inB_X1 (by decide) tw2_128 rfl dX1_fewestToBreak_2 rfl ?_
  refine w_get C 2 1 (Nat.le_of_ble_eq_true rfl) rfl rfl inB_X0 (by decide) tw1_63 rfl dX1_fewestToBreak_5 rfl ?_
  refine w_ishl C dX1_fewestToBreak_8 rfl ?_
  refine w_iconst C 1 dX1_fewestToBreak_9 rfl (by decide) ?_
  refine w_isub C dX1_fewestToBreak_10 rfl ?_
  refine w_nm h (fun x1 h => ?_)
  refine w_istore_n C [(1, .int x1), (0, .ref (ad 84))] dX1_fewestToBreak_11 rfl (by decide) rfl ?_
  refine w_iload_n C dX1_fewestToBreak_12 rfl 0 rfl ?_
  refine w_istore_n C [(2, .int x1), (1, .int x1), (0, .ref (ad 84))] dX1_fewestToBreak_13 rfl (by decide) rfl ?_
  refine w_iconst C 0 dX1_fewestToBreak_14 rfl (by decide) ?_
  refine w_istore_n C [(3, .int 0), (2, .int x1), (1, .int x1), (0, .ref (ad 84))] dX1_fewestToBreak_15 rfl (by decide) rfl ?_
  refine w_sub [0, 1, 2, 3] rfl ?_
  refine lp_w (fun v2 : Int32 × Int32 => WP X (gC D cI ad) 4 0 16 σ [(3, .int v2.1), (2, .int v2.2), (1, .int x1), (0, .ref (ad 84))] []) (fun K3 hK4 v2 h => ?_) F _ h
  refine w_iload_n C dX1_fewestToBreak_16 rfl 0 rfl ?_
  refine w_iload_n C dX1_fewestToBreak_17 rfl 2 rfl ?_
  refine w_icmp_gt C (qt := 48) dX1_fewestToBreak_18 (by decide) rfl h (fun _ h => ?_) (fun _ h => ?_)
  · refine w_iload_n C dX1_fewestToBreak_48 rfl 1 rfl ?_
    exact w_ri1 hr h (by decide) dX1_fewestToBreak_49
  · refine w_iload_n C dX1_fewestToBreak_21 rfl 0 rfl ?_
    refine bd1_w h (fun r5 hc h => ?_)
    refine w_callSi C (As := [.int v2.1]) (st := []) (cfJ6_bitCount_0f7a4 D cI ad (l := X.2.1) C.2.2.1 hc) tw6_10 cs_J6_bitCount_0f7a4 (by decide +kernel) ⟨Nat.le_of_ble_eq_true rfl, Nat.le_of_ble_eq_true rfl⟩ (by decide) rfl rfl (Nat.le_of_ble_eq_true rfl) dX1_fewestToBreak_22 rfl ?_
    refine w_iload_n C dX1_fewestToBreak_25 rfl 1 rfl ?_
    refine bd1_w h (fun r6 hc h => ?_)
    refine w_callSi C (As := [.int v2.2]) (st := [.int r5]) (cfJ6_bitCount_0f7a4 D cI ad (l := X.2.1) C.2.2.1 hc) tw6_10 cs_J6_bitCount_0f7a4 (by decide +kernel) ⟨Nat.le_of_ble_eq_true rfl, Nat.le_of_ble_eq_true rfl⟩ (by decide) rfl rfl (Nat.le_of_ble_eq_true rfl) dX1_fewestToBreak_26 rfl ?_
    refine w_icmp_ge C (qt := 42) dX1_fewestToBreak_29 (by decide) rfl h (fun _ h => ?_) (fun _ h => ?_)
    · refine w_iinc (j := 0) C (v2.1 + 1) [(3, .int (v2.1 + 1)), (2, .int v2.2), (1, .int x1), (0, .ref (ad 84))] dX1_fewestToBreak_42 rfl rfl rfl (by decide) rfl ?_
      refine w_goto (q := 16) C dX1_fewestToBreak_45 (by decide) ?_
      exact w_sub [0, 1, 2, 3] rfl (hK4 _ h)
    · refine w_aload_n C dX1_fewestToBreak_32 rfl 3 rfl ?_
      refine w_iload_n C dX1_fewestToBreak_33 rfl 0 rfl ?_
      refine bd1_w h (fun r7 hc h => ?_)
      refine w_callVi C (As := [.int v2.1]) (st := []) 84 (Nat.le_of_ble_eq_true rfl) rfl rfl (cfX1_endsAll D cI ad (l := X.2.1) C.2.2.1 hc) tw6_15 cy_X1_endsAll (by decide +kernel) ⟨Nat.le_of_ble_eq_true rfl, Nat.le_of_ble_eq_true rfl⟩ (by decide) rfl rfl (Nat.le_of_ble_eq_true rfl) dX1_fewestToBreak_34 rfl ?_
      refine w_if_eq C (qt := 42) dX1_fewestToBreak_37 (by decide) rfl h (fun _ h => ?_) (fun _ h => ?_)
      · refine w_iinc (j := 0) C (v2.1 + 1) [(3, .int (v2.1 + 1)), (2, .int v2.2), (1, .int x1), (0, .ref (ad 84))] dX1_fewestToBreak_42 rfl rfl rfl (by decide) rfl ?_
        refine w_goto (q := 16) C dX1_fewestToBreak_45 (by decide) ?_
        exact w_sub [0, 1, 2, 3] rfl (hK4 _ h)
      · refine w_iload_n C dX1_fewestToBreak_40 rfl 0 rfl ?_
        refine w_istore_n C [(2, .int v2.1), (3, .int v2.1), (1, .int x1), (0, .ref (ad 84))] dX1_fewestToBreak_41 rfl (by decide) rfl ?_
        refine w_iinc (j := 1) C (v2.1 + 1) [(3, .int (v2.1 + 1)), (2, .int v2.1), (1, .int x1), (0, .ref (ad 84))] dX1_fewestToBreak_42 rfl rfl rfl (by decide) rfl ?_
        refine w_goto (q := 16) C dX1_fewestToBreak_45 (by decide) ?_
        exact w_sub [0, 1, 2, 3] rfl (hK4 _ h)
theorem cfX1_fewestToBreak (D : va_G) (cI : ClassId) (ad : Nat → Nat) {l : Launch} (had : gAp (gC D cI ad)) {F : Nat} {σ : St}  {r : Int32} (h : fX1_fewestToBreak F σ = some r) : MI l yX1_fewestToBreak (wB yX1_fewestToBreak cX1_fewestToBreak 4 (some .int)) 1 22 (gC D cI ad) [.ref (ad 84)] σ r σ := mk_MI had (by decide +kernel) (Nat.le_of_ble_eq_true rfl) (fun X hX C hr => wfX1_fewestToBreak C hr h)

def fX1_countContradictions (F : Nat) (σ : St) : Option Int32 := lp (fun (K2 : (Int32 × Int32) → Option Int32) (v1 : Int32 × Int32) => if (σ 2 1) ≤ v1.1 then (some v1.2) else ckI (v1.1) 8 (bd1 (fJ6_bitCount_0f7a4 F σ (σ 85 (Int32.toNatClampNeg v1.1))) fun r4 => nm (v1.2 + r4) fun x5 => K2 ((v1.1 + 1, x5)))) F ((0, 0))
set_option maxRecDepth 20000 in
theorem wfX1_countContradictions {X : XT} {D : va_G} {cI : ClassId} {ad : Nat → Nat} {F : Nat} {σ : St}  {r : Int32} (C : Cx X (gC D cI ad) cX1_countContradictions 3 RX1 1 20 0) (hr : RetI X (gC D cI ad) cX1_countContradictions 3 0 r σ) (h : fX1_countContradictions F σ = some r) : WP X (gC D cI ad) 3 0 0 σ [(0, .ref (ad 84))] [] := by
  unfold fX1_countContradictions at h
  refine w_iconst C 0 dX1_countContradictions_0 rfl (by decide) ?_
  refine w_istore_n C [(1, .int 0), (0, .ref (ad 84))] dX1_countContradictions_1 rfl (by decide) rfl ?_
  refine w_iconst C 0 dX1_countContradictions_2 rfl (by decide) ?_
  refine w_istore_n C [(2, .int 0), (1, .int 0), (0, .ref (ad 84))] dX1_countContradictions_3 rfl (by decide) rfl ?_
  refine w_sub [0, 1, 2] rfl ?_
  refine lp_w (fun v1 : Int32 × Int32 => WP X (gC D cI ad) 3 0 4 σ [(2, .int v1.1), (1, .int v1.2), (0, .ref (ad 84))] []) (fun K2 hK3 v1 h => ?_) F _ h
  refine w_iload_n C dX1_countContradictions_4 rfl 0 rfl ?_
  refine w_aload_n C dX1_countContradictions_5 rfl 2 rfl ?_
  refine w_get C 84 0 (Nat.le_of_ble_eq_true rfl) rfl rfl inB_X1 (by decide) tw2_128 rfl dX1_countContradictions_6 rfl ?_
  refine w_get C 2 1 (Nat.le_of_ble_eq_true rfl) rfl rfl inB_X0 (by decide) tw1_63 rfl dX1_countContradictions_9 rfl ?_
  refine w_icmp_ge C (qt := 33) dX1_countContradictions_12 (by decide) rfl h (fun _ h => ?_) (fun _ h => ?_)
  · refine w_iload_n C dX1_countContradictions_33 rfl 1 rfl ?_
    exact w_ri1 hr h (by decide) dX1_countContradictions_34
  · refine w_iload_n C dX1_countContradictions_15 rfl 1 rfl ?_
    refine w_aload_n C dX1_countContradictions_16 rfl 2 rfl ?_
    refine w_get C 84 2 (Nat.le_of_ble_eq_true rfl) rfl rfl inB_X1 (by decide) tw2_130 rfl dX1_countContradictions_17 rfl ?_
    refine w_iload_n C dX1_countContradictions_20 rfl 0 rfl ?_
    refine w_iald C 85 8 0 (Nat.le_of_ble_eq_true rfl) (fun _ => rfl) rfl h dX1_countContradictions_21 rfl (fun h => ?_)
    refine bd1_w h (fun r4 hc h => ?_)
    refine w_callSi C (As := [.int (σ 85 (Int32.toNatClampNeg v1.1))]) (st := [.int v1.2]) (cfJ6_bitCount_0f7a4 D cI ad (l := X.2.1) C.2.2.1 hc) tw6_10 cs_J6_bitCount_0f7a4 (by decide +kernel) ⟨Nat.le_of_ble_eq_true rfl, Nat.le_of_ble_eq_true rfl⟩ (by decide) rfl rfl (Nat.le_of_ble_eq_true rfl) dX1_countContradictions_22 rfl ?_
    refine w_iadd C dX1_countContradictions_25 rfl ?_
    refine w_nm h (fun x5 h => ?_)
    refine w_istore_n C [(1, .int x5), (2, .int v1.1), (0, .ref (ad 84))] dX1_countContradictions_26 rfl (by decide) rfl ?_
    refine w_iinc (j := 1) C (v1.1 + 1) [(2, .int (v1.1 + 1)), (1, .int x5), (0, .ref (ad 84))] dX1_countContradictions_27 rfl rfl rfl (by decide) rfl ?_
    refine w_goto (q := 4) C dX1_countContradictions_30 (by decide) ?_
    exact w_sub [0, 1, 2] rfl (hK3 _ h)
theorem cfX1_countContradictions (D : va_G) (cI : ClassId) (ad : Nat → Nat) {l : Launch} (had : gAp (gC D cI ad)) {F : Nat} {σ : St}  {r : Int32} (h : fX1_countContradictions F σ = some r) : MI l yX1_countContradictions (wB yX1_countContradictions cX1_countContradictions 3 (some .int)) 1 20 (gC D cI ad) [.ref (ad 84)] σ r σ := mk_MI had (by decide +kernel) (Nat.le_of_ble_eq_true rfl) (fun X hX C hr => wfX1_countContradictions C hr h)

def fX10_against (F : Nat) (σ : St) (a0 : Int32) : Option (Nat × Int32 × St) := bd1 (fX10_checkBelow F σ a0 2) fun t1 => if t1 = 0 then (bd2 (fX2_bindingBits F σ 0) fun r2 u3 => bd1 (fX6_weighAll F u3 r2) fun u4 => bd1 (fX1_findContradictions F u4) fun u5 => if a0 = 0 then (bd1 (fX1_countContradictions F u5) fun r7 => some (0, r7, u5)) else bd1 (fX1_fewestToBreak F u5) fun r6 => some (0, r6, u5)) else some (t1, 0, σ)
set_option maxRecDepth 20000 in
theorem wfX10_against {X : XT} {D : va_G} {cI : ClassId} {ad : Nat → Nat} {F : Nat} {σ : St} {a0 : Int32} {res : Nat × Int32 × St} (C : Cx X (gC D cI ad) cX10_against 2 RX10 8 140 1) (hr : RetXi X (gC D cI ad) cX10_against 2 1 res) (hx : ThrX X (gC D cI ad) cX10_against 2 1 res) (h : fX10_against F σ a0 = some res) : WP X (gC D cI ad) 2 0 0 σ [(0, .ref (ad 0)), (1, .int a0)] [] := by
  unfold fX10_against at h
  refine w_aload_n C dX10_against_0 rfl 0 rfl ?_
  refine w_iload_n C dX10_against_1 rfl 1 rfl ?_
  refine w_iconst C 2 dX10_against_2 rfl (by decide) ?_
  refine bd1_w h (fun t1 hc h => ?_)
  refine w_callX C hx (As := [.int a0, .int 2]) (st := []) 0 (by decide) rfl rfl (cfX10_checkBelow D cI ad (l := X.2.1) C.2.2.1 hc) tw5_51 cy_X10_checkBelow (by decide +kernel) ⟨by decide, by decide⟩ (by decide) rfl rfl (by decide) dX10_against_3 rfl h (fun h => ?_)
  refine w_aload_n C dX10_against_6 rfl 0 rfl ?_
  refine w_get C 0 12 (Nat.le_of_ble_eq_true rfl) rfl rfl inB_X10 (by decide) tw2_184 rfl dX10_against_7 rfl ?_
  refine w_aload_n C dX10_against_10 rfl 0 rfl ?_
  refine w_get C 0 10 (Nat.le_of_ble_eq_true rfl) rfl rfl inB_X10 (by decide) tw2_182 rfl dX10_against_11 rfl ?_
  refine w_aload_n C dX10_against_14 rfl 0 rfl ?_
  refine w_get C 0 7 (Nat.le_of_ble_eq_true rfl) rfl rfl inB_X10 (by decide) tw2_179 rfl dX10_against_15 rfl ?_
  refine w_iconst C 0 dX10_against_18 rfl (by decide) ?_
  refine bd2_w h (fun r2 u3 hc h => ?_)
  refine w_callVi C (As := [.ref (ad 30), .int 0]) (st := [.ref (ad 81)]) 66 (Nat.le_of_ble_eq_true rfl) rfl rfl (cfX2_bindingBits D cI ad (l := X.2.1) C.2.2.1 hc) tw4_88 cy_X2_bindingBits (by decide +kernel) ⟨Nat.le_of_ble_eq_true rfl, Nat.le_of_ble_eq_true rfl⟩ (by decide) rfl rfl (Nat.le_of_ble_eq_true rfl) dX10_against_19 rfl ?_
  refine bd1_w h (fun u4 hc h => ?_)
  refine w_callVv C (As := [.int r2]) (st := []) 81 (Nat.le_of_ble_eq_true rfl) rfl rfl (cfX6_weighAll D cI ad (l := X.2.1) C.2.2.1 hc) tw4_149 cy_X6_weighAll (by decide +kernel) ⟨Nat.le_of_ble_eq_true rfl, Nat.le_of_ble_eq_true rfl⟩ (by decide) rfl rfl (Nat.le_of_ble_eq_true rfl) dX10_against_22 rfl ?_
  refine w_aload_n C dX10_against_25 rfl 0 rfl ?_
  refine w_get C 0 13 (Nat.le_of_ble_eq_true rfl) rfl rfl inB_X10 (by decide) tw2_185 rfl dX10_against_26 rfl ?_
  refine bd1_w h (fun u5 hc h => ?_)
  refine w_callVv C (As := []) (st := []) 84 (Nat.le_of_ble_eq_true rfl) rfl rfl (cfX1_findContradictions D cI ad (l := X.2.1) C.2.2.1 hc) tw5_232 cy_X1_findContradictions (by decide +kernel) ⟨Nat.le_of_ble_eq_true rfl, Nat.le_of_ble_eq_true rfl⟩ (by decide) rfl rfl (Nat.le_of_ble_eq_true rfl) dX10_against_29 rfl ?_
  refine w_iload_n C dX10_against_32 rfl 1 rfl ?_
  refine w_if_ne C (qt := 46) dX10_against_33 (by decide) rfl h (fun _ h => ?_) (fun _ h => ?_)
  · refine w_aload_n C dX10_against_46 rfl 0 rfl ?_
    refine w_get C 0 13 (Nat.le_of_ble_eq_true rfl) rfl rfl inB_X10 (by decide) tw2_185 rfl dX10_against_47 rfl ?_
    refine bd1_w h (fun r6 hc h => ?_)
    refine w_callVi C (As := []) (st := []) 84 (Nat.le_of_ble_eq_true rfl) rfl rfl (cfX1_fewestToBreak D cI ad (l := X.2.1) C.2.2.1 hc) tw6_11 cy_X1_fewestToBreak (by decide +kernel) ⟨Nat.le_of_ble_eq_true rfl, Nat.le_of_ble_eq_true rfl⟩ (by decide) rfl rfl (Nat.le_of_ble_eq_true rfl) dX10_against_50 rfl ?_
    exact w_rxi hr h (by decide) dX10_against_53
  · refine w_aload_n C dX10_against_36 rfl 0 rfl ?_
    refine w_get C 0 13 (Nat.le_of_ble_eq_true rfl) rfl rfl inB_X10 (by decide) tw2_185 rfl dX10_against_37 rfl ?_
    refine bd1_w h (fun r7 hc h => ?_)
    refine w_callVi C (As := []) (st := []) 84 (Nat.le_of_ble_eq_true rfl) rfl rfl (cfX1_countContradictions D cI ad (l := X.2.1) C.2.2.1 hc) tw6_6 cy_X1_countContradictions (by decide +kernel) ⟨Nat.le_of_ble_eq_true rfl, Nat.le_of_ble_eq_true rfl⟩ (by decide) rfl rfl (Nat.le_of_ble_eq_true rfl) dX10_against_40 rfl ?_
    refine w_goto (q := 53) C dX10_against_43 (by decide) ?_
    exact w_rxi hr h (by decide) dX10_against_53
theorem cfX10_against (D : va_G) (cI : ClassId) (ad : Nat → Nat) {l : Launch} (had : gAp (gC D cI ad)) {F : Nat} {σ : St} {a0 : Int32} {res : Nat × Int32 × St} (h : fX10_against F σ a0 = some res) : MX l yX10_against (wB yX10_against cX10_against 2 (some .int)) 8 140 1 (gC D cI ad) [.ref (ad 0), .int a0] σ res := mk_MX had (by decide +kernel) (Nat.le_of_ble_eq_true rfl) (fun X hX C hr hx => wfX10_against C hr hx h)

def fX1_bothOf (F : Nat) (σ : St) (a0 : Int32) : Option Int32 := ckI (a0) 8 (ckI (a0) 8 (some ((1 <<< ((σ 4 (Int32.toNatClampNeg a0)) &&& 31)) ||| (1 <<< ((σ 5 (Int32.toNatClampNeg a0)) &&& 31)))))
set_option maxRecDepth 20000 in
theorem wfX1_bothOf {X : XT} {D : va_G} {cI : ClassId} {ad : Nat → Nat} {F : Nat} {σ : St} {a0 : Int32} {r : Int32} (C : Cx X (gC D cI ad) cX1_bothOf 2 RX1 0 0 0) (hr : RetI X (gC D cI ad) cX1_bothOf 2 0 r σ) (h : fX1_bothOf F σ a0 = some r) : WP X (gC D cI ad) 2 0 0 σ [(0, .ref (ad 84)), (1, .int a0)] [] := by
  unfold fX1_bothOf at h
  refine w_iconst C 1 dX1_bothOf_0 rfl (by decide) ?_
  refine w_aload_n C dX1_bothOf_1 rfl 0 rfl ?_
  refine w_get C 84 0 (Nat.le_of_ble_eq_true rfl) rfl rfl inB_X1 (by decide) tw2_128 rfl dX1_bothOf_2 rfl ?_
  refine w_get C 2 6 (Nat.le_of_ble_eq_true rfl) rfl rfl inB_X0 (by decide) tw1_84 rfl dX1_bothOf_5 rfl ?_
  refine w_iload_n C dX1_bothOf_8 rfl 1 rfl ?_
  refine w_iald C 4 8 0 (Nat.le_of_ble_eq_true rfl) (fun _ => rfl) rfl h dX1_bothOf_9 rfl (fun h => ?_)
  refine w_ishl C dX1_bothOf_10 rfl ?_
  refine w_iconst C 1 dX1_bothOf_11 rfl (by decide) ?_
  refine w_aload_n C dX1_bothOf_12 rfl 0 rfl ?_
  refine w_get C 84 0 (Nat.le_of_ble_eq_true rfl) rfl rfl inB_X1 (by decide) tw2_128 rfl dX1_bothOf_13 rfl ?_
  refine w_get C 2 7 (Nat.le_of_ble_eq_true rfl) rfl rfl inB_X0 (by decide) tw1_88 rfl dX1_bothOf_16 rfl ?_
  refine w_iload_n C dX1_bothOf_19 rfl 1 rfl ?_
  refine w_iald C 5 8 0 (Nat.le_of_ble_eq_true rfl) (fun _ => rfl) rfl h dX1_bothOf_20 rfl (fun h => ?_)
  refine w_ishl C dX1_bothOf_21 rfl ?_
  refine w_ior C dX1_bothOf_22 rfl ?_
  exact w_ri1 hr h (by decide) dX1_bothOf_23
theorem cfX1_bothOf (D : va_G) (cI : ClassId) (ad : Nat → Nat) {l : Launch} (had : gAp (gC D cI ad)) {F : Nat} {σ : St} {a0 : Int32} {r : Int32} (h : fX1_bothOf F σ a0 = some r) : MI l yX1_bothOf (wB yX1_bothOf cX1_bothOf 2 (some .int)) 0 0 (gC D cI ad) [.ref (ad 84), .int a0] σ r σ := mk_MI had (by decide +kernel) (Nat.le_of_ble_eq_true rfl) (fun X hX C hr => wfX1_bothOf C hr h)

def fX1_reachedFrom (F : Nat) (σ : St) (a0 : Int32) (a1 : Int32) : Option Int32 := nm (1 <<< (a0 &&& 31)) fun x1 => lp (fun (K3 : (Int32 × Int32) → Option Int32) (v2 : Int32 × Int32) => if 6 ≤ v2.1 then (some (v2.2 &&& ((1 <<< (a0 &&& 31)) ^^^ ((-1))))) else lp (fun (K6 : (Int32 × Int32) → Option Int32) (v5 : Int32 × Int32) => if (σ 2 1) ≤ v5.1 then (K3 ((v2.1 + 1, v5.2))) else bd1 (fX1_bothOf F σ v5.1) fun r8 => ckI (v5.1) 8 (jn (fun v9 : Int32 => if v9 = 0 then (K6 ((v5.1 + 1, v5.2))) else if (v5.2 &&& r8) = 0 then (K6 ((v5.1 + 1, v5.2))) else nm (v5.2 ||| r8) fun x12 => K6 ((v5.1 + 1, x12))) fun J10 => jn (fun v13 : Unit => J10 0) fun J14 => if (σ 6 (Int32.toNatClampNeg v5.1)) = 3 then (if ((a1 >>> (v5.1 &&& 31)) &&& 1) = 0 then (J14 (())) else J10 1) else J14 (()))) F ((0, v2.2))) F ((0, x1))
set_option maxRecDepth 20000 in
theorem wfX1_reachedFrom {X : XT} {D : va_G} {cI : ClassId} {ad : Nat → Nat} {F : Nat} {σ : St} {a0 : Int32} {a1 : Int32} {r : Int32} (C : Cx X (gC D cI ad) cX1_reachedFrom 8 RX1 1 21 0) (hr : RetI X (gC D cI ad) cX1_reachedFrom 8 0 r σ) (h : fX1_reachedFrom F σ a0 a1 = some r) : WP X (gC D cI ad) 8 0 0 σ [(0, .ref (ad 84)), (1, .int a0), (2, .int a1)] [] := by
  unfold fX1_reachedFrom at h
  refine w_iconst C 1 dX1_reachedFrom_0 rfl (by decide) ?_
  refine w_iload_n C dX1_reachedFrom_1 rfl 1 rfl ?_
  refine w_ishl C dX1_reachedFrom_2 rfl ?_
  refine w_nm h (fun x1 h => ?_)
  refine w_istore_n C [(3, .int x1), (0, .ref (ad 84)), (1, .int a0), (2, .int a1)] dX1_reachedFrom_3 rfl (by decide) rfl ?_
  refine w_iconst C 0 dX1_reachedFrom_4 rfl (by decide) ?_
  refine w_istore C [(4, .int 0), (3, .int x1), (0, .ref (ad 84)), (1, .int a0), (2, .int a1)] dX1_reachedFrom_5 rfl (by decide) rfl ?_
  refine w_sub [0, 1, 2, 3, 4] rfl ?_
  refine lp_w (fun v2 : Int32 × Int32 => WP X (gC D cI ad) 8 0 7 σ [(4, .int v2.1), (3, .int v2.2), (0, .ref (ad 84)), (1, .int a0), (2, .int a1)] []) (fun K3 hK4 v2 h => ?_) F _ h
  refine w_iload C dX1_reachedFrom_7 rfl 0 rfl ?_
  refine w_bipush C 6 dX1_reachedFrom_9 rfl (by decide) ?_
  refine w_icmp_ge C (qt := 96) dX1_reachedFrom_11 (by decide) rfl h (fun _ h => ?_) (fun _ h => ?_)
  · refine w_iload_n C dX1_reachedFrom_96 rfl 1 rfl ?_
    refine w_iconst C 1 dX1_reachedFrom_97 rfl (by decide) ?_
    refine w_iload_n C dX1_reachedFrom_98 rfl 3 rfl ?_
    refine w_ishl C dX1_reachedFrom_99 rfl ?_
    refine w_iconst C (-1) dX1_reachedFrom_100 rfl (by decide) ?_
    refine w_ixor C dX1_reachedFrom_101 rfl ?_
    refine w_iand C dX1_reachedFrom_102 rfl ?_
    exact w_ri1 hr h (by decide) dX1_reachedFrom_103
  · refine w_iconst C 0 dX1_reachedFrom_14 rfl (by decide) ?_
    refine w_istore C [(5, .int 0), (4, .int v2.1), (3, .int v2.2), (0, .ref (ad 84)), (1, .int a0), (2, .int a1)] dX1_reachedFrom_15 rfl (by decide) rfl ?_
    refine w_sub [0, 1, 2, 3, 4, 5] rfl ?_
    refine lp_w (fun v5 : Int32 × Int32 => WP X (gC D cI ad) 8 0 17 σ [(5, .int v5.1), (4, .int v2.1), (3, .int v5.2), (0, .ref (ad 84)), (1, .int a0), (2, .int a1)] []) (fun K6 hK7 v5 h => ?_) F _ h
    refine w_iload C dX1_reachedFrom_17 rfl 0 rfl ?_
    refine w_aload_n C dX1_reachedFrom_19 rfl 3 rfl ?_
    refine w_get C 84 0 (Nat.le_of_ble_eq_true rfl) rfl rfl inB_X1 (by decide) tw2_128 rfl dX1_reachedFrom_20 rfl ?_
    refine w_get C 2 1 (Nat.le_of_ble_eq_true rfl) rfl rfl inB_X0 (by decide) tw1_63 rfl dX1_reachedFrom_23 rfl ?_
    refine w_icmp_ge C (qt := 90) dX1_reachedFrom_26 (by decide) rfl h (fun _ h => ?_) (fun _ h => ?_)
    · refine w_iinc (j := 1) C (v2.1 + 1) [(4, .int (v2.1 + 1)), (5, .int v5.1), (3, .int v5.2), (0, .ref (ad 84)), (1, .int a0), (2, .int a1)] dX1_reachedFrom_90 rfl rfl rfl (by decide) rfl ?_
      refine w_goto (q := 7) C dX1_reachedFrom_93 (by decide) ?_
      exact w_sub [0, 2, 3, 4, 5] rfl (hK4 _ h)
    · refine w_aload_n C dX1_reachedFrom_29 rfl 3 rfl ?_
      refine w_iload C dX1_reachedFrom_30 rfl 0 rfl ?_
      refine bd1_w h (fun r8 hc h => ?_)
      refine w_callVi C (As := [.int v5.1]) (st := []) 84 (Nat.le_of_ble_eq_true rfl) rfl rfl (cfX1_bothOf D cI ad (l := X.2.1) C.2.2.1 hc) tw6_30 cy_X1_bothOf (by decide +kernel) ⟨Nat.le_of_ble_eq_true rfl, Nat.le_of_ble_eq_true rfl⟩ (by decide) rfl rfl (Nat.le_of_ble_eq_true rfl) dX1_reachedFrom_32 rfl ?_
      refine w_istore C [(6, .int r8), (5, .int v5.1), (4, .int v2.1), (3, .int v5.2), (0, .ref (ad 84)), (1, .int a0), (2, .int a1)] dX1_reachedFrom_35 rfl (by decide) rfl ?_
      refine w_aload_n C dX1_reachedFrom_37 rfl 4 rfl ?_
      refine w_get C 84 0 (Nat.le_of_ble_eq_true rfl) rfl rfl inB_X1 (by decide) tw2_128 rfl dX1_reachedFrom_38 rfl ?_
      refine w_get C 2 8 (Nat.le_of_ble_eq_true rfl) rfl rfl inB_X0 (by decide) tw1_93 rfl dX1_reachedFrom_41 rfl ?_
      refine w_iload C dX1_reachedFrom_44 rfl 1 rfl ?_
      refine w_iald C 6 8 0 (Nat.le_of_ble_eq_true rfl) (fun _ => rfl) rfl h dX1_reachedFrom_46 rfl (fun h => ?_)
      refine w_iconst C 3 dX1_reachedFrom_47 rfl (by decide) ?_
      refine jn_w (fun v9 : Int32 => WP X (gC D cI ad) 8 0 65 σ [(6, .int r8), (5, .int v5.1), (4, .int v2.1), (3, .int v5.2), (0, .ref (ad 84)), (1, .int a0), (2, .int a1)] [.int v9]) h (fun v9 h => ?_) (fun J10 hJ11 h => ?_)
      · refine w_istore C [(7, .int v9), (6, .int r8), (5, .int v5.1), (4, .int v2.1), (3, .int v5.2), (0, .ref (ad 84)), (1, .int a0), (2, .int a1)] dX1_reachedFrom_65 rfl (by decide) rfl ?_
        refine w_iload C dX1_reachedFrom_67 rfl 0 rfl ?_
        refine w_if_eq C (qt := 84) dX1_reachedFrom_69 (by decide) rfl h (fun _ h => ?_) (fun _ h => ?_)
        · refine w_iinc (j := 2) C (v5.1 + 1) [(5, .int (v5.1 + 1)), (7, .int v9), (6, .int r8), (4, .int v2.1), (3, .int v5.2), (0, .ref (ad 84)), (1, .int a0), (2, .int a1)] dX1_reachedFrom_84 rfl rfl rfl (by decide) rfl ?_
          refine w_goto (q := 17) C dX1_reachedFrom_87 (by decide) ?_
          exact w_sub [0, 3, 4, 5, 6, 7] rfl (hK7 _ h)
        · refine w_iload_n C dX1_reachedFrom_72 rfl 4 rfl ?_
          refine w_iload C dX1_reachedFrom_73 rfl 1 rfl ?_
          refine w_iand C dX1_reachedFrom_75 rfl ?_
          refine w_if_eq C (qt := 84) dX1_reachedFrom_76 (by decide) rfl h (fun _ h => ?_) (fun _ h => ?_)
          · refine w_iinc (j := 2) C (v5.1 + 1) [(5, .int (v5.1 + 1)), (7, .int v9), (6, .int r8), (4, .int v2.1), (3, .int v5.2), (0, .ref (ad 84)), (1, .int a0), (2, .int a1)] dX1_reachedFrom_84 rfl rfl rfl (by decide) rfl ?_
            refine w_goto (q := 17) C dX1_reachedFrom_87 (by decide) ?_
            exact w_sub [0, 3, 4, 5, 6, 7] rfl (hK7 _ h)
          · refine w_iload_n C dX1_reachedFrom_79 rfl 4 rfl ?_
            refine w_iload C dX1_reachedFrom_80 rfl 1 rfl ?_
            refine w_ior C dX1_reachedFrom_82 rfl ?_
            refine w_nm h (fun x12 h => ?_)
            refine w_istore_n C [(3, .int x12), (7, .int v9), (6, .int r8), (5, .int v5.1), (4, .int v2.1), (0, .ref (ad 84)), (1, .int a0), (2, .int a1)] dX1_reachedFrom_83 rfl (by decide) rfl ?_
            refine w_iinc (j := 3) C (v5.1 + 1) [(5, .int (v5.1 + 1)), (3, .int x12), (7, .int v9), (6, .int r8), (4, .int v2.1), (0, .ref (ad 84)), (1, .int a0), (2, .int a1)] dX1_reachedFrom_84 rfl rfl rfl (by decide) rfl ?_
            refine w_goto (q := 17) C dX1_reachedFrom_87 (by decide) ?_
            exact w_sub [0, 4, 1, 5, 6, 7] rfl (hK7 _ h)
      · refine jn_w (fun v13 : Unit => WP X (gC D cI ad) 8 0 64 σ [(6, .int r8), (5, .int v5.1), (4, .int v2.1), (3, .int v5.2), (0, .ref (ad 84)), (1, .int a0), (2, .int a1)] []) h (fun v13 h => ?_) (fun J14 hJ15 h => ?_)
        · refine w_iconst C 0 dX1_reachedFrom_64 rfl (by decide) ?_
          exact w_sub [0, 1, 2, 3, 4, 5, 6] rfl (hJ11 _ h)
        · refine w_icmp_ne C (qt := 64) dX1_reachedFrom_48 (by decide) rfl h (fun _ h => ?_) (fun _ h => ?_)
          · exact w_sub [0, 1, 2, 3, 4, 5, 6] rfl (hJ15 _ h)
          · refine w_iload_n C dX1_reachedFrom_51 rfl 6 rfl ?_
            refine w_iload C dX1_reachedFrom_52 rfl 1 rfl ?_
            refine w_ishr C dX1_reachedFrom_54 rfl ?_
            refine w_iconst C 1 dX1_reachedFrom_55 rfl (by decide) ?_
            refine w_iand C dX1_reachedFrom_56 rfl ?_
            refine w_if_eq C (qt := 64) dX1_reachedFrom_57 (by decide) rfl h (fun _ h => ?_) (fun _ h => ?_)
            · exact w_sub [0, 1, 2, 3, 4, 5, 6] rfl (hJ15 _ h)
            · refine w_iconst C 1 dX1_reachedFrom_60 rfl (by decide) ?_
              refine w_goto (q := 65) C dX1_reachedFrom_61 (by decide) ?_
              exact w_sub [0, 1, 2, 3, 4, 5, 6] rfl (hJ11 _ h)
theorem cfX1_reachedFrom (D : va_G) (cI : ClassId) (ad : Nat → Nat) {l : Launch} (had : gAp (gC D cI ad)) {F : Nat} {σ : St} {a0 : Int32} {a1 : Int32} {r : Int32} (h : fX1_reachedFrom F σ a0 a1 = some r) : MI l yX1_reachedFrom (wB yX1_reachedFrom cX1_reachedFrom 8 (some .int)) 1 21 (gC D cI ad) [.ref (ad 84), .int a0, .int a1] σ r σ := mk_MI had (by decide +kernel) (Nat.le_of_ble_eq_true rfl) (fun X hX C hr => wfX1_reachedFrom C hr h)

def fX10_help (F : Nat) (σ : St) (a0 : Int32) : Option (Nat × Int32 × St) := bd1 (fX10_checkValley F σ a0) fun t1 => if t1 = 0 then (bd2 (fX2_bindingBits F σ 0) fun r2 u3 => bd1 (fX1_reachedFrom F u3 a0 r2) fun r4 => some (0, r4, u3)) else some (t1, 0, σ)
set_option maxRecDepth 20000 in
theorem wfX10_help {X : XT} {D : va_G} {cI : ClassId} {ad : Nat → Nat} {F : Nat} {σ : St} {a0 : Int32} {res : Nat × Int32 × St} (C : Cx X (gC D cI ad) cX10_help 2 RX10 8 131 1) (hr : RetXi X (gC D cI ad) cX10_help 2 1 res) (hx : ThrX X (gC D cI ad) cX10_help 2 1 res) (h : fX10_help F σ a0 = some res) : WP X (gC D cI ad) 2 0 0 σ [(0, .ref (ad 0)), (1, .int a0)] [] := by
  unfold fX10_help at h
  refine w_aload_n C dX10_help_0 rfl 0 rfl ?_
  refine w_iload_n C dX10_help_1 rfl 1 rfl ?_
  refine bd1_w h (fun t1 hc h => ?_)
  refine w_callX C hx (As := [.int a0]) (st := []) 0 (by decide) rfl rfl (cfX10_checkValley D cI ad (l := X.2.1) C.2.2.1 hc) tw5_0 cy_X10_checkValley (by decide +kernel) ⟨by decide, by decide⟩ (by decide) rfl rfl (by decide) dX10_help_2 rfl h (fun h => ?_)
  refine w_aload_n C dX10_help_5 rfl 0 rfl ?_
  refine w_get C 0 13 (Nat.le_of_ble_eq_true rfl) rfl rfl inB_X10 (by decide) tw2_185 rfl dX10_help_6 rfl ?_
  refine w_iload_n C dX10_help_9 rfl 1 rfl ?_
  refine w_aload_n C dX10_help_10 rfl 0 rfl ?_
  refine w_get C 0 10 (Nat.le_of_ble_eq_true rfl) rfl rfl inB_X10 (by decide) tw2_182 rfl dX10_help_11 rfl ?_
  refine w_aload_n C dX10_help_14 rfl 0 rfl ?_
  refine w_get C 0 7 (Nat.le_of_ble_eq_true rfl) rfl rfl inB_X10 (by decide) tw2_179 rfl dX10_help_15 rfl ?_
  refine w_iconst C 0 dX10_help_18 rfl (by decide) ?_
  refine bd2_w h (fun r2 u3 hc h => ?_)
  refine w_callVi C (As := [.ref (ad 30), .int 0]) (st := [.int a0, .ref (ad 84)]) 66 (Nat.le_of_ble_eq_true rfl) rfl rfl (cfX2_bindingBits D cI ad (l := X.2.1) C.2.2.1 hc) tw4_88 cy_X2_bindingBits (by decide +kernel) ⟨Nat.le_of_ble_eq_true rfl, Nat.le_of_ble_eq_true rfl⟩ (by decide) rfl rfl (Nat.le_of_ble_eq_true rfl) dX10_help_19 rfl ?_
  refine bd1_w h (fun r4 hc h => ?_)
  refine w_callVi C (As := [.int a0, .int r2]) (st := []) 84 (Nat.le_of_ble_eq_true rfl) rfl rfl (cfX1_reachedFrom D cI ad (l := X.2.1) C.2.2.1 hc) tw6_26 cy_X1_reachedFrom (by decide +kernel) ⟨Nat.le_of_ble_eq_true rfl, Nat.le_of_ble_eq_true rfl⟩ (by decide) rfl rfl (Nat.le_of_ble_eq_true rfl) dX10_help_22 rfl ?_
  exact w_rxi hr h (by decide) dX10_help_25
theorem cfX10_help (D : va_G) (cI : ClassId) (ad : Nat → Nat) {l : Launch} (had : gAp (gC D cI ad)) {F : Nat} {σ : St} {a0 : Int32} {res : Nat × Int32 × St} (h : fX10_help F σ a0 = some res) : MX l yX10_help (wB yX10_help cX10_help 2 (some .int)) 8 131 1 (gC D cI ad) [.ref (ad 0), .int a0] σ res := mk_MX had (by decide +kernel) (Nat.le_of_ble_eq_true rfl) (fun X hX C hr hx => wfX10_help C hr hx h)

def fX1_onOneEvening (F : Nat) (σ : St) (a0 : Int32) : Option Int32 := lp (fun (K2 : (Int32 × Int32) → Option Int32) (v1 : Int32 × Int32) => if (σ 2 1) ≤ v1.1 then (some 1) else if ((a0 >>> (v1.1 &&& 31)) &&& 1) = 0 then (K2 ((v1.1 + 1, v1.2))) else bd1 (fX1_bothOf F σ v1.1) fun r4 => if (v1.2 &&& r4) = 0 then (bd1 (fX1_bothOf F σ v1.1) fun r5 => nm (v1.2 ||| r5) fun x6 => K2 ((v1.1 + 1, x6))) else some 0) F ((0, 0))
set_option maxRecDepth 20000 in
theorem wfX1_onOneEvening {X : XT} {D : va_G} {cI : ClassId} {ad : Nat → Nat} {F : Nat} {σ : St} {a0 : Int32} {r : Int32} (C : Cx X (gC D cI ad) cX1_onOneEvening 4 RX1 1 21 0) (hr : RetZ X (gC D cI ad) cX1_onOneEvening 4 0 r σ) (h : fX1_onOneEvening F σ a0 = some r) : WP X (gC D cI ad) 4 0 0 σ [(0, .ref (ad 84)), (1, .int a0)] [] := by
  unfold fX1_onOneEvening at h
  refine w_iconst C 0 dX1_onOneEvening_0 rfl (by decide) ?_
  refine w_istore_n C [(2, .int 0), (0, .ref (ad 84)), (1, .int a0)] dX1_onOneEvening_1 rfl (by decide) rfl ?_
  refine w_iconst C 0 dX1_onOneEvening_2 rfl (by decide) ?_
  refine w_istore_n C [(3, .int 0), (2, .int 0), (0, .ref (ad 84)), (1, .int a0)] dX1_onOneEvening_3 rfl (by decide) rfl ?_
  refine w_sub [0, 1, 2, 3] rfl ?_
  refine lp_w (fun v1 : Int32 × Int32 => WP X (gC D cI ad) 4 0 4 σ [(3, .int v1.1), (2, .int v1.2), (0, .ref (ad 84)), (1, .int a0)] []) (fun K2 hK3 v1 h => ?_) F _ h
  refine w_iload_n C dX1_onOneEvening_4 rfl 0 rfl ?_
  refine w_aload_n C dX1_onOneEvening_5 rfl 2 rfl ?_
  refine w_get C 84 0 (Nat.le_of_ble_eq_true rfl) rfl rfl inB_X1 (by decide) tw2_128 rfl dX1_onOneEvening_6 rfl ?_
  refine w_get C 2 1 (Nat.le_of_ble_eq_true rfl) rfl rfl inB_X0 (by decide) tw1_63 rfl dX1_onOneEvening_9 rfl ?_
  refine w_icmp_ge C (qt := 49) dX1_onOneEvening_12 (by decide) rfl h (fun _ h => ?_) (fun _ h => ?_)
  · refine w_iconst C 1 dX1_onOneEvening_49 rfl (by decide) ?_
    exact w_rz1 hr (by decide) h (by decide) dX1_onOneEvening_50
  · refine w_iload_n C dX1_onOneEvening_15 rfl 3 rfl ?_
    refine w_iload_n C dX1_onOneEvening_16 rfl 0 rfl ?_
    refine w_ishr C dX1_onOneEvening_17 rfl ?_
    refine w_iconst C 1 dX1_onOneEvening_18 rfl (by decide) ?_
    refine w_iand C dX1_onOneEvening_19 rfl ?_
    refine w_if_eq C (qt := 43) dX1_onOneEvening_20 (by decide) rfl h (fun _ h => ?_) (fun _ h => ?_)
    · refine w_iinc (j := 0) C (v1.1 + 1) [(3, .int (v1.1 + 1)), (2, .int v1.2), (0, .ref (ad 84)), (1, .int a0)] dX1_onOneEvening_43 rfl rfl rfl (by decide) rfl ?_
      refine w_goto (q := 4) C dX1_onOneEvening_46 (by decide) ?_
      exact w_sub [0, 1, 2, 3] rfl (hK3 _ h)
    · refine w_iload_n C dX1_onOneEvening_23 rfl 1 rfl ?_
      refine w_aload_n C dX1_onOneEvening_24 rfl 2 rfl ?_
      refine w_iload_n C dX1_onOneEvening_25 rfl 0 rfl ?_
      refine bd1_w h (fun r4 hc h => ?_)
      refine w_callVi C (As := [.int v1.1]) (st := [.int v1.2]) 84 (Nat.le_of_ble_eq_true rfl) rfl rfl (cfX1_bothOf D cI ad (l := X.2.1) C.2.2.1 hc) tw6_30 cy_X1_bothOf (by decide +kernel) ⟨Nat.le_of_ble_eq_true rfl, Nat.le_of_ble_eq_true rfl⟩ (by decide) rfl rfl (Nat.le_of_ble_eq_true rfl) dX1_onOneEvening_26 rfl ?_
      refine w_iand C dX1_onOneEvening_29 rfl ?_
      refine w_if_eq C (qt := 35) dX1_onOneEvening_30 (by decide) rfl h (fun _ h => ?_) (fun _ h => ?_)
      · refine w_iload_n C dX1_onOneEvening_35 rfl 1 rfl ?_
        refine w_aload_n C dX1_onOneEvening_36 rfl 2 rfl ?_
        refine w_iload_n C dX1_onOneEvening_37 rfl 0 rfl ?_
        refine bd1_w h (fun r5 hc h => ?_)
        refine w_callVi C (As := [.int v1.1]) (st := [.int v1.2]) 84 (Nat.le_of_ble_eq_true rfl) rfl rfl (cfX1_bothOf D cI ad (l := X.2.1) C.2.2.1 hc) tw6_30 cy_X1_bothOf (by decide +kernel) ⟨Nat.le_of_ble_eq_true rfl, Nat.le_of_ble_eq_true rfl⟩ (by decide) rfl rfl (Nat.le_of_ble_eq_true rfl) dX1_onOneEvening_38 rfl ?_
        refine w_ior C dX1_onOneEvening_41 rfl ?_
        refine w_nm h (fun x6 h => ?_)
        refine w_istore_n C [(2, .int x6), (3, .int v1.1), (0, .ref (ad 84)), (1, .int a0)] dX1_onOneEvening_42 rfl (by decide) rfl ?_
        refine w_iinc (j := 1) C (v1.1 + 1) [(3, .int (v1.1 + 1)), (2, .int x6), (0, .ref (ad 84)), (1, .int a0)] dX1_onOneEvening_43 rfl rfl rfl (by decide) rfl ?_
        refine w_goto (q := 4) C dX1_onOneEvening_46 (by decide) ?_
        exact w_sub [0, 1, 2, 3] rfl (hK3 _ h)
      · refine w_iconst C 0 dX1_onOneEvening_33 rfl (by decide) ?_
        exact w_rz1 hr (by decide) h (by decide) dX1_onOneEvening_34
theorem cfX1_onOneEvening (D : va_G) (cI : ClassId) (ad : Nat → Nat) {l : Launch} (had : gAp (gC D cI ad)) {F : Nat} {σ : St} {a0 : Int32} {r : Int32} (h : fX1_onOneEvening F σ a0 = some r) : MI l yX1_onOneEvening (wB yX1_onOneEvening cX1_onOneEvening 4 (some .boolean)) 1 21 (gC D cI ad) [.ref (ad 84), .int a0] σ r σ := mk_MZ had (by decide +kernel) (Nat.le_of_ble_eq_true rfl) (fun X hX C hr => wfX1_onOneEvening C hr h)

def fX1_findEvenings (F : Nat) (σ : St) : Option St := nm (1 <<< ((σ 2 1) &&& 31)) fun x1 => nm (up σ 86 0 0) fun u2 => lp (fun (K4 : (St × Int32) → Option St) (v3 : St × Int32) => if x1 ≤ v3.2 then (some v3.1) else bd1 (fX1_onOneEvening F v3.1 v3.2) fun r6 => jn (fun v7 : Int32 => ckI (v3.2) 256 (nm (up v3.1 86 (Int32.toNatClampNeg v3.2) v7) fun u10 => lp (fun (K12 : (St × Int32) → Option St) (v11 : St × Int32) => if v3.2 ≤ v11.2 then (K4 ((v11.1, v3.2 + 1))) else if (v11.2 &&& (v3.2 ^^^ ((-1)))) = 0 then (ckI (v11.2) 256 (if (v11.1 86 (Int32.toNatClampNeg v11.2)) = 1 then (ckI (v3.2) 256 (ckI (v3.2 ^^^ v11.2) 256 (ckI (v3.2) 256 (nm (up v11.1 86 (Int32.toNatClampNeg v3.2) (if (1 + (v11.1 86 (Int32.toNatClampNeg (v3.2 ^^^ v11.2)))) < (v11.1 86 (Int32.toNatClampNeg v3.2)) then (1 + (v11.1 86 (Int32.toNatClampNeg (v3.2 ^^^ v11.2)))) else (v11.1 86 (Int32.toNatClampNeg v3.2)))) fun u14 => K12 ((u14, v11.2 + 1)))))) else K12 ((v11.1, v11.2 + 1)))) else K12 ((v11.1, v11.2 + 1))) F ((u10, 1)))) fun J8 => if r6 = 0 then (J8 8) else J8 1) F ((u2, 1))
set_option maxRecDepth 20000 in
theorem wfX1_findEvenings {X : XT} {D : va_G} {cI : ClassId} {ad : Nat → Nat} {F : Nat} {σ : St}  {σ' : St} (C : Cx X (gC D cI ad) cX1_findEvenings 4 RX1 2 44 0) (hr : RetV X (gC D cI ad) cX1_findEvenings 4 0 σ') (h : fX1_findEvenings F σ = some σ') : WP X (gC D cI ad) 4 0 0 σ [(0, .ref (ad 84))] [] := by
  unfold fX1_findEvenings at h
  refine w_iconst C 1 dX1_findEvenings_0 rfl (by decide) ?_
  refine w_aload_n C dX1_findEvenings_1 rfl 0 rfl ?_
  refine w_get C 84 0 (Nat.le_of_ble_eq_true rfl) rfl rfl inB_X1 (by decide) tw2_128 rfl dX1_findEvenings_2 rfl ?_
  refine w_get C 2 1 (Nat.le_of_ble_eq_true rfl) rfl rfl inB_X0 (by decide) tw1_63 rfl dX1_findEvenings_5 rfl ?_
  refine w_ishl C dX1_findEvenings_8 rfl ?_
  refine w_nm h (fun x1 h => ?_)
  refine w_istore_n C [(1, .int x1), (0, .ref (ad 84))] dX1_findEvenings_9 rfl (by decide) rfl ?_
  refine w_aload_n C dX1_findEvenings_10 rfl 1 rfl ?_
  refine w_get C 84 3 (Nat.le_of_ble_eq_true rfl) rfl rfl inB_X1 (by decide) tw2_131 rfl dX1_findEvenings_11 rfl ?_
  refine w_iconst C 0 dX1_findEvenings_14 rfl (by decide) ?_
  refine w_iconst C 0 dX1_findEvenings_15 rfl (by decide) ?_
  refine w_iastc C 86 256 0 0 (Nat.le_of_ble_eq_true rfl) (fun _ => rfl) rfl (by decide) (by decide) dX1_findEvenings_16 rfl ?_
  refine w_nst h (fun u2 h => ?_)
  refine w_iconst C 1 dX1_findEvenings_17 rfl (by decide) ?_
  refine w_istore_n C [(2, .int 1), (1, .int x1), (0, .ref (ad 84))] dX1_findEvenings_18 rfl (by decide) rfl ?_
  refine w_sub [0, 1, 2] rfl ?_
  refine lp_w (fun v3 : St × Int32 => WP X (gC D cI ad) 4 0 19 v3.1 [(2, .int v3.2), (1, .int x1), (0, .ref (ad 84))] []) (fun K4 hK5 v3 h => ?_) F _ h
  refine w_iload_n C dX1_findEvenings_19 rfl 0 rfl ?_
  refine w_iload_n C dX1_findEvenings_20 rfl 1 rfl ?_
  refine w_icmp_ge C (qt := 106) dX1_findEvenings_21 (by decide) rfl h (fun _ h => ?_) (fun _ h => ?_)
  · exact w_rv hr h (by decide) dX1_findEvenings_106
  · refine w_aload_n C dX1_findEvenings_24 rfl 2 rfl ?_
    refine w_get C 84 3 (Nat.le_of_ble_eq_true rfl) rfl rfl inB_X1 (by decide) tw2_131 rfl dX1_findEvenings_25 rfl ?_
    refine w_iload_n C dX1_findEvenings_28 rfl 0 rfl ?_
    refine w_aload_n C dX1_findEvenings_29 rfl 2 rfl ?_
    refine w_iload_n C dX1_findEvenings_30 rfl 0 rfl ?_
    refine bd1_w h (fun r6 hc h => ?_)
    refine w_callVi C (As := [.int v3.2]) (st := [.int v3.2, .ref (ad 86)]) 84 (Nat.le_of_ble_eq_true rfl) rfl rfl (cfX1_onOneEvening D cI ad (l := X.2.1) C.2.2.1 hc) tw6_45 cy_X1_onOneEvening (by decide +kernel) ⟨Nat.le_of_ble_eq_true rfl, Nat.le_of_ble_eq_true rfl⟩ (by decide) rfl rfl (Nat.le_of_ble_eq_true rfl) dX1_findEvenings_31 rfl ?_
    refine jn_w (fun v7 : Int32 => WP X (gC D cI ad) 4 0 43 v3.1 [(2, .int v3.2), (1, .int x1), (0, .ref (ad 84))] [.int v7, .int v3.2, .ref (ad 86)]) h (fun v7 h => ?_) (fun J8 hJ9 h => ?_)
    · refine w_iast C 86 256 0 (Nat.le_of_ble_eq_true rfl) (fun _ => rfl) rfl h dX1_findEvenings_43 rfl (fun h => ?_)
      refine w_nst h (fun u10 h => ?_)
      refine w_iconst C 1 dX1_findEvenings_44 rfl (by decide) ?_
      refine w_istore_n C [(3, .int 1), (2, .int v3.2), (1, .int x1), (0, .ref (ad 84))] dX1_findEvenings_45 rfl (by decide) rfl ?_
      refine w_sub [0, 1, 2, 3] rfl ?_
      refine lp_w (fun v11 : St × Int32 => WP X (gC D cI ad) 4 0 46 v11.1 [(3, .int v11.2), (2, .int v3.2), (1, .int x1), (0, .ref (ad 84))] []) (fun K12 hK13 v11 h => ?_) F _ h
      refine w_iload_n C dX1_findEvenings_46 rfl 0 rfl ?_
      refine w_iload_n C dX1_findEvenings_47 rfl 1 rfl ?_
      refine w_icmp_ge C (qt := 100) dX1_findEvenings_48 (by decide) rfl h (fun _ h => ?_) (fun _ h => ?_)
      · refine w_iinc (j := 1) C (v3.2 + 1) [(2, .int (v3.2 + 1)), (3, .int v11.2), (1, .int x1), (0, .ref (ad 84))] dX1_findEvenings_100 rfl rfl rfl (by decide) rfl ?_
        refine w_goto (q := 19) C dX1_findEvenings_103 (by decide) ?_
        exact w_sub [0, 2, 3] rfl (hK5 _ h)
      · refine w_iload_n C dX1_findEvenings_51 rfl 0 rfl ?_
        refine w_iload_n C dX1_findEvenings_52 rfl 1 rfl ?_
        refine w_iconst C (-1) dX1_findEvenings_53 rfl (by decide) ?_
        refine w_ixor C dX1_findEvenings_54 rfl ?_
        refine w_iand C dX1_findEvenings_55 rfl ?_
        refine w_if_ne C (qt := 94) dX1_findEvenings_56 (by decide) rfl h (fun _ h => ?_) (fun _ h => ?_)
        · refine w_iinc (j := 0) C (v11.2 + 1) [(3, .int (v11.2 + 1)), (2, .int v3.2), (1, .int x1), (0, .ref (ad 84))] dX1_findEvenings_94 rfl rfl rfl (by decide) rfl ?_
          refine w_goto (q := 46) C dX1_findEvenings_97 (by decide) ?_
          exact w_sub [0, 1, 2, 3] rfl (hK13 _ h)
        · refine w_aload_n C dX1_findEvenings_59 rfl 3 rfl ?_
          refine w_get C 84 3 (Nat.le_of_ble_eq_true rfl) rfl rfl inB_X1 (by decide) tw2_131 rfl dX1_findEvenings_60 rfl ?_
          refine w_iload_n C dX1_findEvenings_63 rfl 0 rfl ?_
          refine w_iald C 86 256 0 (Nat.le_of_ble_eq_true rfl) (fun _ => rfl) rfl h dX1_findEvenings_64 rfl (fun h => ?_)
          refine w_iconst C 1 dX1_findEvenings_65 rfl (by decide) ?_
          refine w_icmp_ne C (qt := 94) dX1_findEvenings_66 (by decide) rfl h (fun _ h => ?_) (fun _ h => ?_)
          · refine w_iinc (j := 0) C (v11.2 + 1) [(3, .int (v11.2 + 1)), (2, .int v3.2), (1, .int x1), (0, .ref (ad 84))] dX1_findEvenings_94 rfl rfl rfl (by decide) rfl ?_
            refine w_goto (q := 46) C dX1_findEvenings_97 (by decide) ?_
            exact w_sub [0, 1, 2, 3] rfl (hK13 _ h)
          · refine w_aload_n C dX1_findEvenings_69 rfl 3 rfl ?_
            refine w_get C 84 3 (Nat.le_of_ble_eq_true rfl) rfl rfl inB_X1 (by decide) tw2_131 rfl dX1_findEvenings_70 rfl ?_
            refine w_iload_n C dX1_findEvenings_73 rfl 1 rfl ?_
            refine w_aload_n C dX1_findEvenings_74 rfl 3 rfl ?_
            refine w_get C 84 3 (Nat.le_of_ble_eq_true rfl) rfl rfl inB_X1 (by decide) tw2_131 rfl dX1_findEvenings_75 rfl ?_
            refine w_iload_n C dX1_findEvenings_78 rfl 1 rfl ?_
            refine w_iald C 86 256 0 (Nat.le_of_ble_eq_true rfl) (fun _ => rfl) rfl h dX1_findEvenings_79 rfl (fun h => ?_)
            refine w_iconst C 1 dX1_findEvenings_80 rfl (by decide) ?_
            refine w_aload_n C dX1_findEvenings_81 rfl 3 rfl ?_
            refine w_get C 84 3 (Nat.le_of_ble_eq_true rfl) rfl rfl inB_X1 (by decide) tw2_131 rfl dX1_findEvenings_82 rfl ?_
            refine w_iload_n C dX1_findEvenings_85 rfl 1 rfl ?_
            refine w_iload_n C dX1_findEvenings_86 rfl 0 rfl ?_
            refine w_ixor C dX1_findEvenings_87 rfl ?_
            refine w_iald C 86 256 0 (Nat.le_of_ble_eq_true rfl) (fun _ => rfl) rfl h dX1_findEvenings_88 rfl (fun h => ?_)
            refine w_iadd C dX1_findEvenings_89 rfl ?_
            refine w_mmin C (by intro w hw; simp only [List.mem_cons, List.not_mem_nil, or_false] at hw; rcases hw with rfl | rfl | rfl | rfl; exacts [tw6_49, tw3_112, tw1_17, tw3_113]) ⟨Nat.le_of_ble_eq_true rfl, Nat.le_of_ble_eq_true rfl⟩ (by decide) dX1_findEvenings_90 rfl ?_
            refine w_iast C 86 256 0 (Nat.le_of_ble_eq_true rfl) (fun _ => rfl) rfl h dX1_findEvenings_93 rfl (fun h => ?_)
            refine w_nst h (fun u14 h => ?_)
            refine w_iinc (j := 0) C (v11.2 + 1) [(3, .int (v11.2 + 1)), (2, .int v3.2), (1, .int x1), (0, .ref (ad 84))] dX1_findEvenings_94 rfl rfl rfl (by decide) rfl ?_
            refine w_goto (q := 46) C dX1_findEvenings_97 (by decide) ?_
            exact w_sub [0, 1, 2, 3] rfl (hK13 _ h)
    · refine w_if_eq C (qt := 41) dX1_findEvenings_34 (by decide) rfl h (fun _ h => ?_) (fun _ h => ?_)
      · refine w_bipush C 8 dX1_findEvenings_41 rfl (by decide) ?_
        exact w_sub [0, 1, 2] rfl (hJ9 _ h)
      · refine w_iconst C 1 dX1_findEvenings_37 rfl (by decide) ?_
        refine w_goto (q := 43) C dX1_findEvenings_38 (by decide) ?_
        exact w_sub [0, 1, 2] rfl (hJ9 _ h)
theorem cfX1_findEvenings (D : va_G) (cI : ClassId) (ad : Nat → Nat) {l : Launch} (had : gAp (gC D cI ad)) {F : Nat} {σ : St}  {σ' : St} (h : fX1_findEvenings F σ = some σ') : MV l yX1_findEvenings (wB yX1_findEvenings cX1_findEvenings 4 none) 2 44 (gC D cI ad) [.ref (ad 84)] σ σ' := mk_MV had (by decide +kernel) (Nat.le_of_ble_eq_true rfl) (fun X hX C hr => wfX1_findEvenings C hr h)

def fX1_mostAtOnce (F : Nat) (σ : St) : Option Int32 := lp (fun (K2 : (Int32 × Int32) → Option Int32) (v1 : Int32 × Int32) => if (1 <<< ((σ 2 1) &&& 31)) ≤ v1.1 then (some v1.2) else ckI (v1.1) 256 (if (σ 86 (Int32.toNatClampNeg v1.1)) = 1 then (bd1 (fJ6_bitCount_0f7a4 F σ v1.1) fun r4 => bd1 (fJ6_bitCount_0f7a4 F σ v1.2) fun r5 => if r4 ≤ r5 then (K2 ((v1.1 + 1, v1.2))) else K2 ((v1.1 + 1, v1.1))) else K2 ((v1.1 + 1, v1.2)))) F ((1, 0))
set_option maxRecDepth 20000 in
theorem wfX1_mostAtOnce {X : XT} {D : va_G} {cI : ClassId} {ad : Nat → Nat} {F : Nat} {σ : St}  {r : Int32} (C : Cx X (gC D cI ad) cX1_mostAtOnce 3 RX1 1 20 0) (hr : RetI X (gC D cI ad) cX1_mostAtOnce 3 0 r σ) (h : fX1_mostAtOnce F σ = some r) : WP X (gC D cI ad) 3 0 0 σ [(0, .ref (ad 84))] [] := by
  unfold fX1_mostAtOnce at h
  refine w_iconst C 0 dX1_mostAtOnce_0 rfl (by decide) ?_
  refine w_istore_n C [(1, .int 0), (0, .ref (ad 84))] dX1_mostAtOnce_1 rfl (by decide) rfl ?_
  refine w_iconst C 1 dX1_mostAtOnce_2 rfl (by decide) ?_
  refine w_istore_n C [(2, .int 1), (1, .int 0), (0, .ref (ad 84))] dX1_mostAtOnce_3 rfl (by decide) rfl ?_
  refine w_sub [0, 1, 2] rfl ?_
  refine lp_w (fun v1 : Int32 × Int32 => WP X (gC D cI ad) 3 0 4 σ [(2, .int v1.1), (1, .int v1.2), (0, .ref (ad 84))] []) (fun K2 hK3 v1 h => ?_) F _ h
  refine w_iload_n C dX1_mostAtOnce_4 rfl 0 rfl ?_
  refine w_iconst C 1 dX1_mostAtOnce_5 rfl (by decide) ?_
  refine w_aload_n C dX1_mostAtOnce_6 rfl 2 rfl ?_
  refine w_get C 84 0 (Nat.le_of_ble_eq_true rfl) rfl rfl inB_X1 (by decide) tw2_128 rfl dX1_mostAtOnce_7 rfl ?_
  refine w_get C 2 1 (Nat.le_of_ble_eq_true rfl) rfl rfl inB_X0 (by decide) tw1_63 rfl dX1_mostAtOnce_10 rfl ?_
  refine w_ishl C dX1_mostAtOnce_13 rfl ?_
  refine w_icmp_ge C (qt := 46) dX1_mostAtOnce_14 (by decide) rfl h (fun _ h => ?_) (fun _ h => ?_)
  · refine w_iload_n C dX1_mostAtOnce_46 rfl 1 rfl ?_
    exact w_ri1 hr h (by decide) dX1_mostAtOnce_47
  · refine w_aload_n C dX1_mostAtOnce_17 rfl 2 rfl ?_
    refine w_get C 84 3 (Nat.le_of_ble_eq_true rfl) rfl rfl inB_X1 (by decide) tw2_131 rfl dX1_mostAtOnce_18 rfl ?_
    refine w_iload_n C dX1_mostAtOnce_21 rfl 0 rfl ?_
    refine w_iald C 86 256 0 (Nat.le_of_ble_eq_true rfl) (fun _ => rfl) rfl h dX1_mostAtOnce_22 rfl (fun h => ?_)
    refine w_iconst C 1 dX1_mostAtOnce_23 rfl (by decide) ?_
    refine w_icmp_ne C (qt := 40) dX1_mostAtOnce_24 (by decide) rfl h (fun _ h => ?_) (fun _ h => ?_)
    · refine w_iinc (j := 0) C (v1.1 + 1) [(2, .int (v1.1 + 1)), (1, .int v1.2), (0, .ref (ad 84))] dX1_mostAtOnce_40 rfl rfl rfl (by decide) rfl ?_
      refine w_goto (q := 4) C dX1_mostAtOnce_43 (by decide) ?_
      exact w_sub [0, 1, 2] rfl (hK3 _ h)
    · refine w_iload_n C dX1_mostAtOnce_27 rfl 0 rfl ?_
      refine bd1_w h (fun r4 hc h => ?_)
      refine w_callSi C (As := [.int v1.1]) (st := []) (cfJ6_bitCount_0f7a4 D cI ad (l := X.2.1) C.2.2.1 hc) tw6_10 cs_J6_bitCount_0f7a4 (by decide +kernel) ⟨Nat.le_of_ble_eq_true rfl, Nat.le_of_ble_eq_true rfl⟩ (by decide) rfl rfl (Nat.le_of_ble_eq_true rfl) dX1_mostAtOnce_28 rfl ?_
      refine w_iload_n C dX1_mostAtOnce_31 rfl 1 rfl ?_
      refine bd1_w h (fun r5 hc h => ?_)
      refine w_callSi C (As := [.int v1.2]) (st := [.int r4]) (cfJ6_bitCount_0f7a4 D cI ad (l := X.2.1) C.2.2.1 hc) tw6_10 cs_J6_bitCount_0f7a4 (by decide +kernel) ⟨Nat.le_of_ble_eq_true rfl, Nat.le_of_ble_eq_true rfl⟩ (by decide) rfl rfl (Nat.le_of_ble_eq_true rfl) dX1_mostAtOnce_32 rfl ?_
      refine w_icmp_le C (qt := 40) dX1_mostAtOnce_35 (by decide) rfl h (fun _ h => ?_) (fun _ h => ?_)
      · refine w_iinc (j := 0) C (v1.1 + 1) [(2, .int (v1.1 + 1)), (1, .int v1.2), (0, .ref (ad 84))] dX1_mostAtOnce_40 rfl rfl rfl (by decide) rfl ?_
        refine w_goto (q := 4) C dX1_mostAtOnce_43 (by decide) ?_
        exact w_sub [0, 1, 2] rfl (hK3 _ h)
      · refine w_iload_n C dX1_mostAtOnce_38 rfl 0 rfl ?_
        refine w_istore_n C [(1, .int v1.1), (2, .int v1.1), (0, .ref (ad 84))] dX1_mostAtOnce_39 rfl (by decide) rfl ?_
        refine w_iinc (j := 1) C (v1.1 + 1) [(2, .int (v1.1 + 1)), (1, .int v1.1), (0, .ref (ad 84))] dX1_mostAtOnce_40 rfl rfl rfl (by decide) rfl ?_
        refine w_goto (q := 4) C dX1_mostAtOnce_43 (by decide) ?_
        exact w_sub [0, 1, 2] rfl (hK3 _ h)
theorem cfX1_mostAtOnce (D : va_G) (cI : ClassId) (ad : Nat → Nat) {l : Launch} (had : gAp (gC D cI ad)) {F : Nat} {σ : St}  {r : Int32} (h : fX1_mostAtOnce F σ = some r) : MI l yX1_mostAtOnce (wB yX1_mostAtOnce cX1_mostAtOnce 3 (some .int)) 1 20 (gC D cI ad) [.ref (ad 84)] σ r σ := mk_MI had (by decide +kernel) (Nat.le_of_ble_eq_true rfl) (fun X hX C hr => wfX1_mostAtOnce C hr h)

def fX1_fewestEvenings (F : Nat) (σ : St) : Option Int32 := ckI ((1 <<< ((σ 2 1) &&& 31)) - 1) 256 (some (σ 86 (Int32.toNatClampNeg ((1 <<< ((σ 2 1) &&& 31)) - 1))))
set_option maxRecDepth 20000 in
theorem wfX1_fewestEvenings {X : XT} {D : va_G} {cI : ClassId} {ad : Nat → Nat} {F : Nat} {σ : St}  {r : Int32} (C : Cx X (gC D cI ad) cX1_fewestEvenings 1 RX1 0 0 0) (hr : RetI X (gC D cI ad) cX1_fewestEvenings 1 0 r σ) (h : fX1_fewestEvenings F σ = some r) : WP X (gC D cI ad) 1 0 0 σ [(0, .ref (ad 84))] [] := by
  unfold fX1_fewestEvenings at h
  refine w_aload_n C dX1_fewestEvenings_0 rfl 0 rfl ?_
  refine w_get C 84 3 (Nat.le_of_ble_eq_true rfl) rfl rfl inB_X1 (by decide) tw2_131 rfl dX1_fewestEvenings_1 rfl ?_
  refine w_iconst C 1 dX1_fewestEvenings_4 rfl (by decide) ?_
  refine w_aload_n C dX1_fewestEvenings_5 rfl 0 rfl ?_
  refine w_get C 84 0 (Nat.le_of_ble_eq_true rfl) rfl rfl inB_X1 (by decide) tw2_128 rfl dX1_fewestEvenings_6 rfl ?_
  refine w_get C 2 1 (Nat.le_of_ble_eq_true rfl) rfl rfl inB_X0 (by decide) tw1_63 rfl dX1_fewestEvenings_9 rfl ?_
  refine w_ishl C dX1_fewestEvenings_12 rfl ?_
  refine w_iconst C 1 dX1_fewestEvenings_13 rfl (by decide) ?_
  refine w_isub C dX1_fewestEvenings_14 rfl ?_
  refine w_iald C 86 256 0 (Nat.le_of_ble_eq_true rfl) (fun _ => rfl) rfl h dX1_fewestEvenings_15 rfl (fun h => ?_)
  exact w_ri1 hr h (by decide) dX1_fewestEvenings_16
theorem cfX1_fewestEvenings (D : va_G) (cI : ClassId) (ad : Nat → Nat) {l : Launch} (had : gAp (gC D cI ad)) {F : Nat} {σ : St}  {r : Int32} (h : fX1_fewestEvenings F σ = some r) : MI l yX1_fewestEvenings (wB yX1_fewestEvenings cX1_fewestEvenings 1 (some .int)) 0 0 (gC D cI ad) [.ref (ad 84)] σ r σ := mk_MI had (by decide +kernel) (Nat.le_of_ble_eq_true rfl) (fun X hX C hr => wfX1_fewestEvenings C hr h)

def fX10_evenings (F : Nat) (σ : St) (a0 : Int32) : Option (Nat × Int32 × St) := bd1 (fX10_checkBelow F σ a0 3) fun t1 => if t1 = 0 then (bd1 (fX1_findEvenings F σ) fun u2 => if a0 = 0 then (bd1 (fX1_fewestEvenings F u2) fun r5 => some (0, r5, u2)) else bd1 (fX1_mostAtOnce F u2) fun r3 => if a0 = 1 then (bd1 (fJ6_bitCount_0f7a4 F u2 r3) fun r4 => some (0, r4, u2)) else some (0, r3, u2)) else some (t1, 0, σ)
set_option maxRecDepth 20000 in
theorem wfX10_evenings {X : XT} {D : va_G} {cI : ClassId} {ad : Nat → Nat} {F : Nat} {σ : St} {a0 : Int32} {res : Nat × Int32 × St} (C : Cx X (gC D cI ad) cX10_evenings 3 RX10 8 132 1) (hr : RetXi X (gC D cI ad) cX10_evenings 3 1 res) (hx : ThrX X (gC D cI ad) cX10_evenings 3 1 res) (h : fX10_evenings F σ a0 = some res) : WP X (gC D cI ad) 3 0 0 σ [(0, .ref (ad 0)), (1, .int a0)] [] := by
  unfold fX10_evenings at h
  refine w_aload_n C dX10_evenings_0 rfl 0 rfl ?_
  refine w_iload_n C dX10_evenings_1 rfl 1 rfl ?_
  refine w_iconst C 3 dX10_evenings_2 rfl (by decide) ?_
  refine bd1_w h (fun t1 hc h => ?_)
  refine w_callX C hx (As := [.int a0, .int 3]) (st := []) 0 (by decide) rfl rfl (cfX10_checkBelow D cI ad (l := X.2.1) C.2.2.1 hc) tw5_51 cy_X10_checkBelow (by decide +kernel) ⟨by decide, by decide⟩ (by decide) rfl rfl (by decide) dX10_evenings_3 rfl h (fun h => ?_)
  refine w_aload_n C dX10_evenings_6 rfl 0 rfl ?_
  refine w_get C 0 13 (Nat.le_of_ble_eq_true rfl) rfl rfl inB_X10 (by decide) tw2_185 rfl dX10_evenings_7 rfl ?_
  refine bd1_w h (fun u2 hc h => ?_)
  refine w_callVv C (As := []) (st := []) 84 (Nat.le_of_ble_eq_true rfl) rfl rfl (cfX1_findEvenings D cI ad (l := X.2.1) C.2.2.1 hc) tw6_41 cy_X1_findEvenings (by decide +kernel) ⟨Nat.le_of_ble_eq_true rfl, Nat.le_of_ble_eq_true rfl⟩ (by decide) rfl rfl (Nat.le_of_ble_eq_true rfl) dX10_evenings_10 rfl ?_
  refine w_iload_n C dX10_evenings_13 rfl 1 rfl ?_
  refine w_if_ne C (qt := 25) dX10_evenings_14 (by decide) rfl h (fun _ h => ?_) (fun _ h => ?_)
  · refine w_aload_n C dX10_evenings_25 rfl 0 rfl ?_
    refine w_get C 0 13 (Nat.le_of_ble_eq_true rfl) rfl rfl inB_X10 (by decide) tw2_185 rfl dX10_evenings_26 rfl ?_
    refine bd1_w h (fun r3 hc h => ?_)
    refine w_callVi C (As := []) (st := []) 84 (Nat.le_of_ble_eq_true rfl) rfl rfl (cfX1_mostAtOnce D cI ad (l := X.2.1) C.2.2.1 hc) tw6_54 cy_X1_mostAtOnce (by decide +kernel) ⟨Nat.le_of_ble_eq_true rfl, Nat.le_of_ble_eq_true rfl⟩ (by decide) rfl rfl (Nat.le_of_ble_eq_true rfl) dX10_evenings_29 rfl ?_
    refine w_istore_n C [(2, .int r3), (0, .ref (ad 0)), (1, .int a0)] dX10_evenings_32 rfl (by decide) rfl ?_
    refine w_iload_n C dX10_evenings_33 rfl 2 rfl ?_
    refine w_iconst C 1 dX10_evenings_34 rfl (by decide) ?_
    refine w_icmp_ne C (qt := 45) dX10_evenings_35 (by decide) rfl h (fun _ h => ?_) (fun _ h => ?_)
    · refine w_iload_n C dX10_evenings_45 rfl 0 rfl ?_
      exact w_rxi hr h (by decide) dX10_evenings_46
    · refine w_iload_n C dX10_evenings_38 rfl 0 rfl ?_
      refine bd1_w h (fun r4 hc h => ?_)
      refine w_callSi C (As := [.int r3]) (st := []) (cfJ6_bitCount_0f7a4 D cI ad (l := X.2.1) C.2.2.1 hc) tw5_189 cs_J6_bitCount_0f7a4 (by decide +kernel) ⟨Nat.le_of_ble_eq_true rfl, Nat.le_of_ble_eq_true rfl⟩ (by decide) rfl rfl (Nat.le_of_ble_eq_true rfl) dX10_evenings_39 rfl ?_
      refine w_goto (q := 46) C dX10_evenings_42 (by decide) ?_
      exact w_rxi hr h (by decide) dX10_evenings_46
  · refine w_aload_n C dX10_evenings_17 rfl 0 rfl ?_
    refine w_get C 0 13 (Nat.le_of_ble_eq_true rfl) rfl rfl inB_X10 (by decide) tw2_185 rfl dX10_evenings_18 rfl ?_
    refine bd1_w h (fun r5 hc h => ?_)
    refine w_callVi C (As := []) (st := []) 84 (Nat.le_of_ble_eq_true rfl) rfl rfl (cfX1_fewestEvenings D cI ad (l := X.2.1) C.2.2.1 hc) tw6_50 cy_X1_fewestEvenings (by decide +kernel) ⟨Nat.le_of_ble_eq_true rfl, Nat.le_of_ble_eq_true rfl⟩ (by decide) rfl rfl (Nat.le_of_ble_eq_true rfl) dX10_evenings_21 rfl ?_
    exact w_rxi hr h (by decide) dX10_evenings_24
theorem cfX10_evenings (D : va_G) (cI : ClassId) (ad : Nat → Nat) {l : Launch} (had : gAp (gC D cI ad)) {F : Nat} {σ : St} {a0 : Int32} {res : Nat × Int32 × St} (h : fX10_evenings F σ a0 = some res) : MX l yX10_evenings (wB yX10_evenings cX10_evenings 3 (some .int)) 8 132 1 (gC D cI ad) [.ref (ad 0), .int a0] σ res := mk_MX had (by decide +kernel) (Nat.le_of_ble_eq_true rfl) (fun X hX C hr hx => wfX10_evenings C hr hx h)

def fX0_hasPlace (F : Nat) (σ : St) (a0 : Int32) (a1 : Int32) : Option Int32 := if a0 < 0 then (some 0) else if (σ 2 2) ≤ a0 then (some 0) else if a1 < 0 then (some 0) else if (σ 2 2) ≤ a1 then (some 0) else some 1
set_option maxRecDepth 20000 in
theorem wfX0_hasPlace {X : XT} {D : va_G} {cI : ClassId} {ad : Nat → Nat} {F : Nat} {σ : St} {a0 : Int32} {a1 : Int32} {r : Int32} (C : Cx X (gC D cI ad) cX0_hasPlace 3 RX0 0 0 0) (hr : RetZ X (gC D cI ad) cX0_hasPlace 3 0 r σ) (h : fX0_hasPlace F σ a0 a1 = some r) : WP X (gC D cI ad) 3 0 0 σ [(0, .ref (ad 2)), (1, .int a0), (2, .int a1)] [] := by
  unfold fX0_hasPlace at h
  refine w_iload_n C dX0_hasPlace_0 rfl 1 rfl ?_
  refine w_if_lt C (qt := 28) dX0_hasPlace_1 (by decide) rfl h (fun _ h => ?_) (fun _ h => ?_)
  · refine w_iconst C 0 dX0_hasPlace_28 rfl (by decide) ?_
    exact w_rz1 hr (by decide) h (by decide) dX0_hasPlace_29
  · refine w_iload_n C dX0_hasPlace_4 rfl 1 rfl ?_
    refine w_aload_n C dX0_hasPlace_5 rfl 0 rfl ?_
    refine w_get C 2 2 (Nat.le_of_ble_eq_true rfl) rfl rfl inB_X0 (by decide) tw1_69 rfl dX0_hasPlace_6 rfl ?_
    refine w_icmp_ge C (qt := 28) dX0_hasPlace_9 (by decide) rfl h (fun _ h => ?_) (fun _ h => ?_)
    · refine w_iconst C 0 dX0_hasPlace_28 rfl (by decide) ?_
      exact w_rz1 hr (by decide) h (by decide) dX0_hasPlace_29
    · refine w_iload_n C dX0_hasPlace_12 rfl 2 rfl ?_
      refine w_if_lt C (qt := 28) dX0_hasPlace_13 (by decide) rfl h (fun _ h => ?_) (fun _ h => ?_)
      · refine w_iconst C 0 dX0_hasPlace_28 rfl (by decide) ?_
        exact w_rz1 hr (by decide) h (by decide) dX0_hasPlace_29
      · refine w_iload_n C dX0_hasPlace_16 rfl 2 rfl ?_
        refine w_aload_n C dX0_hasPlace_17 rfl 0 rfl ?_
        refine w_get C 2 2 (Nat.le_of_ble_eq_true rfl) rfl rfl inB_X0 (by decide) tw1_69 rfl dX0_hasPlace_18 rfl ?_
        refine w_icmp_ge C (qt := 28) dX0_hasPlace_21 (by decide) rfl h (fun _ h => ?_) (fun _ h => ?_)
        · refine w_iconst C 0 dX0_hasPlace_28 rfl (by decide) ?_
          exact w_rz1 hr (by decide) h (by decide) dX0_hasPlace_29
        · refine w_iconst C 1 dX0_hasPlace_24 rfl (by decide) ?_
          refine w_goto (q := 29) C dX0_hasPlace_25 (by decide) ?_
          exact w_rz1 hr (by decide) h (by decide) dX0_hasPlace_29
theorem cfX0_hasPlace (D : va_G) (cI : ClassId) (ad : Nat → Nat) {l : Launch} (had : gAp (gC D cI ad)) {F : Nat} {σ : St} {a0 : Int32} {a1 : Int32} {r : Int32} (h : fX0_hasPlace F σ a0 a1 = some r) : MI l yX0_hasPlace (wB yX0_hasPlace cX0_hasPlace 3 (some .boolean)) 0 0 (gC D cI ad) [.ref (ad 2), .int a0, .int a1] σ r σ := mk_MZ had (by decide +kernel) (Nat.le_of_ble_eq_true rfl) (fun X hX C hr => wfX0_hasPlace C hr h)

def fX9_witness (F : Nat) (σ : St) (a0 : Int32) (a1 : Int32) (a2 : Int32) (a3 : Int32) (a4 : Int32) : Option St := if (σ 30 2) < 8 then (ckI (σ 30 2) 8 (nm (up σ 36 (Int32.toNatClampNeg (σ 30 2)) a0) fun u1 => ckI (u1 30 2) 8 (nm (up u1 37 (Int32.toNatClampNeg (u1 30 2)) a1) fun u2 => ckI (u2 30 2) 8 (nm (up u2 38 (Int32.toNatClampNeg (u2 30 2)) a2) fun u3 => ckI (u3 30 2) 8 (nm (up u3 39 (Int32.toNatClampNeg (u3 30 2)) a3) fun u4 => ckI (u4 30 2) 8 (nm (up u4 40 (Int32.toNatClampNeg (u4 30 2)) a4) fun u5 => nm (up u5 30 2 ((u5 30 2) + 1)) fun u7 => some u7)))))) else some σ
set_option maxRecDepth 20000 in
theorem wfX9_witness {X : XT} {D : va_G} {cI : ClassId} {ad : Nat → Nat} {F : Nat} {σ : St} {a0 : Int32} {a1 : Int32} {a2 : Int32} {a3 : Int32} {a4 : Int32} {σ' : St} (C : Cx X (gC D cI ad) cX9_witness 6 RX9 0 0 0) (hr : RetV X (gC D cI ad) cX9_witness 6 0 σ') (h : fX9_witness F σ a0 a1 a2 a3 a4 = some σ') : WP X (gC D cI ad) 6 0 0 σ [(0, .ref (ad 30)), (1, .int a0), (2, .int a1), (3, .int a2), (4, .int a3), (5, .int a4)] [] := by
  unfold fX9_witness at h
  refine w_aload_n C dX9_witness_0 rfl 0 rfl ?_
  refine w_get C 30 2 (Nat.le_of_ble_eq_true rfl) rfl rfl inB_X9 (by decide) tw1_194 rfl dX9_witness_1 rfl ?_
  refine w_bipush C 8 dX9_witness_4 rfl (by decide) ?_
  refine w_icmp_lt C (qt := 10) dX9_witness_6 (by decide) rfl h (fun _ h => ?_) (fun _ h => ?_)
  · refine w_aload_n C dX9_witness_10 rfl 0 rfl ?_
    refine w_get C 30 8 (Nat.le_of_ble_eq_true rfl) rfl rfl inB_X9 (by decide) tw1_211 rfl dX9_witness_11 rfl ?_
    refine w_aload_n C dX9_witness_14 rfl 0 rfl ?_
    refine w_get C 30 2 (Nat.le_of_ble_eq_true rfl) rfl rfl inB_X9 (by decide) tw1_194 rfl dX9_witness_15 rfl ?_
    refine w_iload_n C dX9_witness_18 rfl 1 rfl ?_
    refine w_iast C 36 8 0 (Nat.le_of_ble_eq_true rfl) (fun _ => rfl) rfl h dX9_witness_19 rfl (fun h => ?_)
    refine w_nst h (fun u1 h => ?_)
    refine w_aload_n C dX9_witness_20 rfl 0 rfl ?_
    refine w_get C 30 9 (Nat.le_of_ble_eq_true rfl) rfl rfl inB_X9 (by decide) tw1_213 rfl dX9_witness_21 rfl ?_
    refine w_aload_n C dX9_witness_24 rfl 0 rfl ?_
    refine w_get C 30 2 (Nat.le_of_ble_eq_true rfl) rfl rfl inB_X9 (by decide) tw1_194 rfl dX9_witness_25 rfl ?_
    refine w_iload_n C dX9_witness_28 rfl 2 rfl ?_
    refine w_iast C 37 8 0 (Nat.le_of_ble_eq_true rfl) (fun _ => rfl) rfl h dX9_witness_29 rfl (fun h => ?_)
    refine w_nst h (fun u2 h => ?_)
    refine w_aload_n C dX9_witness_30 rfl 0 rfl ?_
    refine w_get C 30 10 (Nat.le_of_ble_eq_true rfl) rfl rfl inB_X9 (by decide) tw1_215 rfl dX9_witness_31 rfl ?_
    refine w_aload_n C dX9_witness_34 rfl 0 rfl ?_
    refine w_get C 30 2 (Nat.le_of_ble_eq_true rfl) rfl rfl inB_X9 (by decide) tw1_194 rfl dX9_witness_35 rfl ?_
    refine w_iload_n C dX9_witness_38 rfl 3 rfl ?_
    refine w_iast C 38 8 0 (Nat.le_of_ble_eq_true rfl) (fun _ => rfl) rfl h dX9_witness_39 rfl (fun h => ?_)
    refine w_nst h (fun u3 h => ?_)
    refine w_aload_n C dX9_witness_40 rfl 0 rfl ?_
    refine w_get C 30 11 (Nat.le_of_ble_eq_true rfl) rfl rfl inB_X9 (by decide) tw1_217 rfl dX9_witness_41 rfl ?_
    refine w_aload_n C dX9_witness_44 rfl 0 rfl ?_
    refine w_get C 30 2 (Nat.le_of_ble_eq_true rfl) rfl rfl inB_X9 (by decide) tw1_194 rfl dX9_witness_45 rfl ?_
    refine w_iload C dX9_witness_48 rfl 4 rfl ?_
    refine w_iast C 39 8 0 (Nat.le_of_ble_eq_true rfl) (fun _ => rfl) rfl h dX9_witness_50 rfl (fun h => ?_)
    refine w_nst h (fun u4 h => ?_)
    refine w_aload_n C dX9_witness_51 rfl 0 rfl ?_
    refine w_get C 30 12 (Nat.le_of_ble_eq_true rfl) rfl rfl inB_X9 (by decide) tw1_219 rfl dX9_witness_52 rfl ?_
    refine w_aload_n C dX9_witness_55 rfl 0 rfl ?_
    refine w_get C 30 2 (Nat.le_of_ble_eq_true rfl) rfl rfl inB_X9 (by decide) tw1_194 rfl dX9_witness_56 rfl ?_
    refine w_iload C dX9_witness_59 rfl 5 rfl ?_
    refine w_iast C 40 8 0 (Nat.le_of_ble_eq_true rfl) (fun _ => rfl) rfl h dX9_witness_61 rfl (fun h => ?_)
    refine w_nst h (fun u5 h => ?_)
    refine w_aload_n C dX9_witness_62 rfl 0 rfl ?_
    refine w_dup C rfl dX9_witness_63 rfl ?_
    refine w_get C 30 2 (Nat.le_of_ble_eq_true rfl) rfl rfl inB_X9 (by decide) tw1_194 rfl dX9_witness_64 rfl ?_
    refine w_iconst C 1 dX9_witness_67 rfl (by decide) ?_
    refine w_iadd C dX9_witness_68 rfl ?_
    refine w_put C 30 2 ((u5 30 2) + 1) (Nat.le_of_ble_eq_true rfl) rfl rfl inB_X9 tyX9_ok nmX9 (by decide) tw1_194 rfl rfl rfl (Nat.le_of_ble_eq_true rfl) rfl dX9_witness_69 rfl ?_
    refine w_nst h (fun u7 h => ?_)
    exact w_rv hr h (by decide) dX9_witness_72
  · exact w_rv hr h (by decide) dX9_witness_9
theorem cfX9_witness (D : va_G) (cI : ClassId) (ad : Nat → Nat) {l : Launch} (had : gAp (gC D cI ad)) {F : Nat} {σ : St} {a0 : Int32} {a1 : Int32} {a2 : Int32} {a3 : Int32} {a4 : Int32} {σ' : St} (h : fX9_witness F σ a0 a1 a2 a3 a4 = some σ') : MV l yX9_witness (wB yX9_witness cX9_witness 6 none) 0 0 (gC D cI ad) [.ref (ad 30), .int a0, .int a1, .int a2, .int a3, .int a4] σ σ' := mk_MV had (by decide +kernel) (Nat.le_of_ble_eq_true rfl) (fun X hX C hr => wfX9_witness C hr h)

def fX10_see (F : Nat) (σ : St) (a0 : Int32) (a1 : Int32) (a2 : Int32) (a3 : Int32) (a4 : Int32) : Option (Nat × Int32 × St) := bd1 (fX10_checkStep F σ a0 a1) fun t1 => if t1 = 0 then (jn (fun v2 : Int32 => jn (fun v5 : Unit => bd2 (fX10_refuse F σ 2) fun r8 u9 => some (0, r8, u9)) fun J6 => if 8 ≤ (σ 30 2) then (J6 (())) else if v2 = 0 then (J6 (())) else bd1 (fX0_hasPlace F σ a3 a4) fun r10 => if r10 = 0 then (J6 (())) else bd1 (fX9_witness F σ a0 a1 a2 a3 a4) fun u11 => some (0, u11 30 2, u11)) fun J3 => jn (fun v12 : Unit => J3 1) fun J13 => if a2 = 0 then (J13 (())) else if a2 = 1 then (J13 (())) else J3 0) else some (t1, 0, σ)
set_option maxRecDepth 20000 in
theorem wfX10_see {X : XT} {D : va_G} {cI : ClassId} {ad : Nat → Nat} {F : Nat} {σ : St} {a0 : Int32} {a1 : Int32} {a2 : Int32} {a3 : Int32} {a4 : Int32} {res : Nat × Int32 × St} (C : Cx X (gC D cI ad) cX10_see 7 RX10 9 153 2) (hr : RetXi X (gC D cI ad) cX10_see 7 2 res) (hx : ThrX X (gC D cI ad) cX10_see 7 2 res) (h : fX10_see F σ a0 a1 a2 a3 a4 = some res) : WP X (gC D cI ad) 7 0 0 σ [(0, .ref (ad 0)), (1, .int a0), (2, .int a1), (3, .int a2), (4, .int a3), (5, .int a4)] [] := by
  unfold fX10_see at h
  refine w_aload_n C dX10_see_0 rfl 0 rfl ?_
  refine w_iload_n C dX10_see_1 rfl 1 rfl ?_
  refine w_iload_n C dX10_see_2 rfl 2 rfl ?_
  refine bd1_w h (fun t1 hc h => ?_)
  refine w_callX C hx (As := [.int a0, .int a1]) (st := []) 0 (by decide) rfl rfl (cfX10_checkStep D cI ad (l := X.2.1) C.2.2.1 hc) tw5_37 cy_X10_checkStep (by decide +kernel) ⟨by decide, by decide⟩ (by decide) rfl rfl (by decide) dX10_see_3 rfl h (fun h => ?_)
  refine w_iload_n C dX10_see_6 rfl 3 rfl ?_
  refine jn_w (fun v2 : Int32 => WP X (gC D cI ad) 7 2 20 σ [(0, .ref (ad 0)), (1, .int a0), (2, .int a1), (3, .int a2), (4, .int a3), (5, .int a4)] [.int v2]) h (fun v2 h => ?_) (fun J3 hJ4 h => ?_)
  · refine w_istore C [(6, .int v2), (0, .ref (ad 0)), (1, .int a0), (2, .int a1), (3, .int a2), (4, .int a3), (5, .int a4)] dX10_see_20 rfl (by decide) rfl ?_
    refine w_aload_n C dX10_see_22 rfl 1 rfl ?_
    refine w_get C 0 7 (Nat.le_of_ble_eq_true rfl) rfl rfl inB_X10 (by decide) tw2_179 rfl dX10_see_23 rfl ?_
    refine w_get C 30 2 (Nat.le_of_ble_eq_true rfl) rfl rfl inB_X9 (by decide) tw1_195 rfl dX10_see_26 rfl ?_
    refine w_bipush C 8 dX10_see_29 rfl (by decide) ?_
    refine jn_w (fun v5 : Unit => WP X (gC D cI ad) 7 2 53 σ [(0, .ref (ad 0))] []) h (fun v5 h => ?_) (fun J6 hJ7 h => ?_)
    · refine w_aload_n C dX10_see_53 rfl 0 rfl ?_
      refine w_iconst C 2 dX10_see_54 rfl (by decide) ?_
      refine bd2_w h (fun r8 u9 hc h => ?_)
      refine w_callVi C (As := [.int 2]) (st := []) 0 (Nat.le_of_ble_eq_true rfl) rfl rfl (cfX10_refuse D cI ad (l := X.2.1) C.2.2.1 hc) tw2_234 cy_X10_refuse (by decide +kernel) ⟨Nat.le_of_ble_eq_true rfl, Nat.le_of_ble_eq_true rfl⟩ (by decide) rfl rfl (Nat.le_of_ble_eq_true rfl) dX10_see_55 rfl ?_
      exact w_rxi hr h (by decide) dX10_see_58
    · refine w_icmp_ge C (qt := 53) dX10_see_31 (by decide) rfl h (fun _ h => ?_) (fun _ h => ?_)
      · exact w_sub [1] rfl (hJ7 _ h)
      · refine w_iload C dX10_see_34 rfl 0 rfl ?_
        refine w_if_eq C (qt := 53) dX10_see_36 (by decide) rfl h (fun _ h => ?_) (fun _ h => ?_)
        · exact w_sub [1] rfl (hJ7 _ h)
        · refine w_aload_n C dX10_see_39 rfl 1 rfl ?_
          refine w_get C 0 4 (Nat.le_of_ble_eq_true rfl) rfl rfl inB_X10 (by decide) tw2_176 rfl dX10_see_40 rfl ?_
          refine w_iload C dX10_see_43 rfl 5 rfl ?_
          refine w_iload C dX10_see_45 rfl 6 rfl ?_
          refine bd1_w h (fun r10 hc h => ?_)
          refine w_callVi C (As := [.int a3, .int a4]) (st := []) 2 (Nat.le_of_ble_eq_true rfl) rfl rfl (cfX0_hasPlace D cI ad (l := X.2.1) C.2.2.1 hc) tw6_65 cy_X0_hasPlace (by decide +kernel) ⟨Nat.le_of_ble_eq_true rfl, Nat.le_of_ble_eq_true rfl⟩ (by decide) rfl rfl (Nat.le_of_ble_eq_true rfl) dX10_see_47 rfl ?_
          refine w_if_ne C (qt := 59) dX10_see_50 (by decide) rfl h (fun _ h => ?_) (fun _ h => ?_)
          · refine w_aload_n C dX10_see_59 rfl 1 rfl ?_
            refine w_get C 0 7 (Nat.le_of_ble_eq_true rfl) rfl rfl inB_X10 (by decide) tw2_179 rfl dX10_see_60 rfl ?_
            refine w_iload_n C dX10_see_63 rfl 2 rfl ?_
            refine w_iload_n C dX10_see_64 rfl 3 rfl ?_
            refine w_iload_n C dX10_see_65 rfl 4 rfl ?_
            refine w_iload C dX10_see_66 rfl 5 rfl ?_
            refine w_iload C dX10_see_68 rfl 6 rfl ?_
            refine bd1_w h (fun u11 hc h => ?_)
            refine w_callVv C (As := [.int a0, .int a1, .int a2, .int a3, .int a4]) (st := []) 30 (Nat.le_of_ble_eq_true rfl) rfl rfl (cfX9_witness D cI ad (l := X.2.1) C.2.2.1 hc) tw6_69 cy_X9_witness (by decide +kernel) ⟨Nat.le_of_ble_eq_true rfl, Nat.le_of_ble_eq_true rfl⟩ (by decide) rfl rfl (Nat.le_of_ble_eq_true rfl) dX10_see_70 rfl ?_
            refine w_aload_n C dX10_see_73 rfl 1 rfl ?_
            refine w_get C 0 7 (Nat.le_of_ble_eq_true rfl) rfl rfl inB_X10 (by decide) tw2_179 rfl dX10_see_74 rfl ?_
            refine w_get C 30 2 (Nat.le_of_ble_eq_true rfl) rfl rfl inB_X9 (by decide) tw1_195 rfl dX10_see_77 rfl ?_
            exact w_rxi hr h (by decide) dX10_see_80
          · exact w_sub [1] rfl (hJ7 _ h)
  · refine jn_w (fun v12 : Unit => WP X (gC D cI ad) 7 2 15 σ [(0, .ref (ad 0)), (1, .int a0), (2, .int a1), (3, .int a2), (4, .int a3), (5, .int a4)] []) h (fun v12 h => ?_) (fun J13 hJ14 h => ?_)
    · refine w_iconst C 1 dX10_see_15 rfl (by decide) ?_
      refine w_goto (q := 20) C dX10_see_16 (by decide) ?_
      exact w_sub [0, 1, 2, 3, 4, 5] rfl (hJ4 _ h)
    · refine w_if_eq C (qt := 15) dX10_see_7 (by decide) rfl h (fun _ h => ?_) (fun _ h => ?_)
      · exact w_sub [0, 1, 2, 3, 4, 5] rfl (hJ14 _ h)
      · refine w_iload_n C dX10_see_10 rfl 3 rfl ?_
        refine w_iconst C 1 dX10_see_11 rfl (by decide) ?_
        refine w_icmp_ne C (qt := 19) dX10_see_12 (by decide) rfl h (fun _ h => ?_) (fun _ h => ?_)
        · refine w_iconst C 0 dX10_see_19 rfl (by decide) ?_
          exact w_sub [0, 1, 2, 3, 4, 5] rfl (hJ4 _ h)
        · exact w_sub [0, 1, 2, 3, 4, 5] rfl (hJ14 _ h)
theorem cfX10_see (D : va_G) (cI : ClassId) (ad : Nat → Nat) {l : Launch} (had : gAp (gC D cI ad)) {F : Nat} {σ : St} {a0 : Int32} {a1 : Int32} {a2 : Int32} {a3 : Int32} {a4 : Int32} {res : Nat × Int32 × St} (h : fX10_see F σ a0 a1 a2 a3 a4 = some res) : MX l yX10_see (wB yX10_see cX10_see 7 (some .int)) 9 153 2 (gC D cI ad) [.ref (ad 0), .int a0, .int a1, .int a2, .int a3, .int a4] σ res := mk_MX had (by decide +kernel) (Nat.le_of_ble_eq_true rfl) (fun X hX C hr hx => wfX10_see C hr hx h)

def fX5_isThere (F : Nat) (σ : St) (a1 : Int32) : Option Int32 := ckI (a1) 8 (nm (σ 38 (Int32.toNatClampNeg a1)) fun x1 => ckI (x1) 2 (ckI (a1) 8 (if (σ 68 (Int32.toNatClampNeg x1)) = (σ 39 (Int32.toNatClampNeg a1)) then (ckI (x1) 2 (ckI (a1) 8 (if (σ 69 (Int32.toNatClampNeg x1)) = (σ 40 (Int32.toNatClampNeg a1)) then (some 1) else some 0))) else some 0)))
set_option maxRecDepth 20000 in
theorem wfX5_isThere {X : XT} {D : va_G} {cI : ClassId} {ad : Nat → Nat} {F : Nat} {σ : St} {a1 : Int32} {r : Int32} (C : Cx X (gC D cI ad) cX5_isThere 4 RX5 0 0 0) (hr : RetZ X (gC D cI ad) cX5_isThere 4 0 r σ) (h : fX5_isThere F σ a1 = some r) : WP X (gC D cI ad) 4 0 0 σ [(0, .ref (ad 72)), (1, .ref (ad 30)), (2, .int a1)] [] := by
  unfold fX5_isThere at h
  refine w_aload_n C dX5_isThere_0 rfl 1 rfl ?_
  refine w_get C 30 10 (Nat.le_of_ble_eq_true rfl) rfl rfl inB_X9 (by decide) tw1_216 rfl dX5_isThere_1 rfl ?_
  refine w_iload_n C dX5_isThere_4 rfl 2 rfl ?_
  refine w_iald C 38 8 0 (Nat.le_of_ble_eq_true rfl) (fun _ => rfl) rfl h dX5_isThere_5 rfl (fun h => ?_)
  refine w_nm h (fun x1 h => ?_)
  refine w_istore_n C [(3, .int x1), (0, .ref (ad 72)), (1, .ref (ad 30)), (2, .int a1)] dX5_isThere_6 rfl (by decide) rfl ?_
  refine w_aload_n C dX5_isThere_7 rfl 1 rfl ?_
  refine w_get C 72 1 (Nat.le_of_ble_eq_true rfl) rfl rfl inB_X5 (by decide) tw2_75 rfl dX5_isThere_8 rfl ?_
  refine w_get C 66 1 (Nat.le_of_ble_eq_true rfl) rfl rfl inB_X2 (by decide) tw2_41 rfl dX5_isThere_11 rfl ?_
  refine w_get C 67 0 (Nat.le_of_ble_eq_true rfl) rfl rfl inB_X3 (by decide) tw2_26 rfl dX5_isThere_14 rfl ?_
  refine w_iload_n C dX5_isThere_17 rfl 0 rfl ?_
  refine w_iald C 68 2 0 (Nat.le_of_ble_eq_true rfl) (fun _ => rfl) rfl h dX5_isThere_18 rfl (fun h => ?_)
  refine w_aload_n C dX5_isThere_19 rfl 2 rfl ?_
  refine w_get C 30 11 (Nat.le_of_ble_eq_true rfl) rfl rfl inB_X9 (by decide) tw1_218 rfl dX5_isThere_20 rfl ?_
  refine w_iload_n C dX5_isThere_23 rfl 3 rfl ?_
  refine w_iald C 39 8 0 (Nat.le_of_ble_eq_true rfl) (fun _ => rfl) rfl h dX5_isThere_24 rfl (fun h => ?_)
  refine w_icmp_ne C (qt := 53) dX5_isThere_25 (by decide) rfl h (fun _ h => ?_) (fun _ h => ?_)
  · refine w_iconst C 0 dX5_isThere_53 rfl (by decide) ?_
    exact w_rz1 hr (by decide) h (by decide) dX5_isThere_54
  · refine w_aload_n C dX5_isThere_28 rfl 1 rfl ?_
    refine w_get C 72 1 (Nat.le_of_ble_eq_true rfl) rfl rfl inB_X5 (by decide) tw2_75 rfl dX5_isThere_29 rfl ?_
    refine w_get C 66 1 (Nat.le_of_ble_eq_true rfl) rfl rfl inB_X2 (by decide) tw2_41 rfl dX5_isThere_32 rfl ?_
    refine w_get C 67 1 (Nat.le_of_ble_eq_true rfl) rfl rfl inB_X3 (by decide) tw2_29 rfl dX5_isThere_35 rfl ?_
    refine w_iload_n C dX5_isThere_38 rfl 0 rfl ?_
    refine w_iald C 69 2 0 (Nat.le_of_ble_eq_true rfl) (fun _ => rfl) rfl h dX5_isThere_39 rfl (fun h => ?_)
    refine w_aload_n C dX5_isThere_40 rfl 2 rfl ?_
    refine w_get C 30 12 (Nat.le_of_ble_eq_true rfl) rfl rfl inB_X9 (by decide) tw1_220 rfl dX5_isThere_41 rfl ?_
    refine w_iload_n C dX5_isThere_44 rfl 3 rfl ?_
    refine w_iald C 40 8 0 (Nat.le_of_ble_eq_true rfl) (fun _ => rfl) rfl h dX5_isThere_45 rfl (fun h => ?_)
    refine w_icmp_ne C (qt := 53) dX5_isThere_46 (by decide) rfl h (fun _ h => ?_) (fun _ h => ?_)
    · refine w_iconst C 0 dX5_isThere_53 rfl (by decide) ?_
      exact w_rz1 hr (by decide) h (by decide) dX5_isThere_54
    · refine w_iconst C 1 dX5_isThere_49 rfl (by decide) ?_
      refine w_goto (q := 54) C dX5_isThere_50 (by decide) ?_
      exact w_rz1 hr (by decide) h (by decide) dX5_isThere_54
theorem cfX5_isThere (D : va_G) (cI : ClassId) (ad : Nat → Nat) {l : Launch} (had : gAp (gC D cI ad)) {F : Nat} {σ : St} {a1 : Int32} {r : Int32} (h : fX5_isThere F σ a1 = some r) : MI l yX5_isThere (wB yX5_isThere cX5_isThere 4 (some .boolean)) 0 0 (gC D cI ad) [.ref (ad 72), .ref (ad 30), .int a1] σ r σ := mk_MZ had (by decide +kernel) (Nat.le_of_ble_eq_true rfl) (fun X hX C hr => wfX5_isThere C hr h)

def fX5_isAsSeen (F : Nat) (σ : St) : Option (Int32 × St) := bd1 (fX3_begin F σ (σ 2 2)) fun u1 => lp (fun (K3 : (Int32 × Int32) → Option (Int32 × St)) (v2 : Int32 × Int32) => if (u1 30 2) ≤ v2.1 then (lp (fun (K6 : (St × Int32 × Int32) → Option (Int32 × St)) (v5 : St × Int32 × Int32) => jn (fun v8 : Unit => if v5.2.2 = 0 then (some (1, v5.1)) else some (0, v5.1)) fun J9 => if (v5.1 66 4) ≤ v5.2.1 then (J9 (())) else if v5.2.2 ≤ 0 then (J9 (())) else bd2 (fX2_takes F v5.1 v5.2.1) fun r11 u12 => if r11 = 0 then (some (0, u12)) else lp (fun (K14 : (Int32 × Int32) → Option (Int32 × St)) (v13 : Int32 × Int32) => if (u12 30 2) ≤ v13.1 then (K6 ((u12, v5.2.1 + 1, v13.2))) else ckI (v13.1) 8 (if (u12 36 (Int32.toNatClampNeg v13.1)) = (u12 66 3) then (ckI (v13.1) 8 (if (u12 37 (Int32.toNatClampNeg v13.1)) = v5.2.1 then (bd1 (fX5_isThere F u12 v13.1) fun r16 => if r16 = 0 then (some (0, u12)) else K14 ((v13.1 + 1, v13.2 + (-1)))) else K14 ((v13.1 + 1, v13.2)))) else K14 ((v13.1 + 1, v13.2)))) F ((0, v5.2.2))) F ((u1, 0, v2.2))) else ckI (v2.1) 8 (if (u1 36 (Int32.toNatClampNeg v2.1)) = (u1 66 3) then (nm (v2.2 + 1) fun x18 => K3 ((v2.1 + 1, x18))) else nm (v2.2 + 0) fun x17 => K3 ((v2.1 + 1, x17)))) F ((0, 0))
set_option maxRecDepth 20000 in
theorem wfX5_isAsSeen {X : XT} {D : va_G} {cI : ClassId} {ad : Nat → Nat} {F : Nat} {σ : St}  {r : Int32} {σ' : St} (C : Cx X (gC D cI ad) cX5_isAsSeen 5 RX5 2 55 0) (hr : RetZ X (gC D cI ad) cX5_isAsSeen 5 0 r σ') (h : fX5_isAsSeen F σ = some (r, σ')) : WP X (gC D cI ad) 5 0 0 σ [(0, .ref (ad 72)), (1, .ref (ad 30))] [] := by
  unfold fX5_isAsSeen at h
  refine w_aload_n C dX5_isAsSeen_0 rfl 0 rfl ?_
  refine w_get C 72 1 (Nat.le_of_ble_eq_true rfl) rfl rfl inB_X5 (by decide) tw2_75 rfl dX5_isAsSeen_1 rfl ?_
  refine w_get C 66 1 (Nat.le_of_ble_eq_true rfl) rfl rfl inB_X2 (by decide) tw2_41 rfl dX5_isAsSeen_4 rfl ?_
  refine w_aload_n C dX5_isAsSeen_7 rfl 0 rfl ?_
  refine w_get C 72 0 (Nat.le_of_ble_eq_true rfl) rfl rfl inB_X5 (by decide) tw2_74 rfl dX5_isAsSeen_8 rfl ?_
  refine w_get C 2 2 (Nat.le_of_ble_eq_true rfl) rfl rfl inB_X0 (by decide) tw1_71 rfl dX5_isAsSeen_11 rfl ?_
  refine bd1_w h (fun u1 hc h => ?_)
  refine w_callVv C (As := [.int (σ 2 2)]) (st := []) 67 (Nat.le_of_ble_eq_true rfl) rfl rfl (cfX3_begin D cI ad (l := X.2.1) C.2.2.1 hc) tw5_151 cy_X3_begin (by decide +kernel) ⟨Nat.le_of_ble_eq_true rfl, Nat.le_of_ble_eq_true rfl⟩ (by decide) rfl rfl (Nat.le_of_ble_eq_true rfl) dX5_isAsSeen_14 rfl ?_
  refine w_iconst C 0 dX5_isAsSeen_17 rfl (by decide) ?_
  refine w_istore_n C [(2, .int 0), (0, .ref (ad 72)), (1, .ref (ad 30))] dX5_isAsSeen_18 rfl (by decide) rfl ?_
  refine w_iconst C 0 dX5_isAsSeen_19 rfl (by decide) ?_
  refine w_istore_n C [(3, .int 0), (2, .int 0), (0, .ref (ad 72)), (1, .ref (ad 30))] dX5_isAsSeen_20 rfl (by decide) rfl ?_
  refine w_sub [0, 1, 2, 3] rfl ?_
  refine lp_w (fun v2 : Int32 × Int32 => WP X (gC D cI ad) 5 0 21 u1 [(3, .int v2.1), (2, .int v2.2), (0, .ref (ad 72)), (1, .ref (ad 30))] []) (fun K3 hK4 v2 h => ?_) F _ h
  refine w_iload_n C dX5_isAsSeen_21 rfl 0 rfl ?_
  refine w_aload_n C dX5_isAsSeen_22 rfl 3 rfl ?_
  refine w_get C 30 2 (Nat.le_of_ble_eq_true rfl) rfl rfl inB_X9 (by decide) tw1_196 rfl dX5_isAsSeen_23 rfl ?_
  refine w_icmp_ge C (qt := 59) dX5_isAsSeen_26 (by decide) rfl h (fun _ h => ?_) (fun _ h => ?_)
  · refine w_iconst C 0 dX5_isAsSeen_59 rfl (by decide) ?_
    refine w_istore_n C [(3, .int 0), (2, .int v2.2), (0, .ref (ad 72)), (1, .ref (ad 30))] dX5_isAsSeen_60 rfl (by decide) rfl ?_
    refine w_sub [0, 1, 2, 3] rfl ?_
    refine lp_w (fun v5 : St × Int32 × Int32 => WP X (gC D cI ad) 5 0 61 v5.1 [(3, .int v5.2.1), (2, .int v5.2.2), (0, .ref (ad 72)), (1, .ref (ad 30))] []) (fun K6 hK7 v5 h => ?_) F _ h
    refine w_iload_n C dX5_isAsSeen_61 rfl 0 rfl ?_
    refine w_aload_n C dX5_isAsSeen_62 rfl 2 rfl ?_
    refine w_get C 72 1 (Nat.le_of_ble_eq_true rfl) rfl rfl inB_X5 (by decide) tw2_75 rfl dX5_isAsSeen_63 rfl ?_
    refine w_get C 66 4 (Nat.le_of_ble_eq_true rfl) rfl rfl inB_X2 (by decide) tw2_48 rfl dX5_isAsSeen_66 rfl ?_
    refine jn_w (fun v8 : Unit => WP X (gC D cI ad) 5 0 156 v5.1 [(2, .int v5.2.2)] []) h (fun v8 h => ?_) (fun J9 hJ10 h => ?_)
    · refine w_iload_n C dX5_isAsSeen_156 rfl 0 rfl ?_
      refine w_if_ne C (qt := 164) dX5_isAsSeen_157 (by decide) rfl h (fun _ h => ?_) (fun _ h => ?_)
      · refine w_iconst C 0 dX5_isAsSeen_164 rfl (by decide) ?_
        exact w_rz2 hr (by decide) h (by decide) dX5_isAsSeen_165
      · refine w_iconst C 1 dX5_isAsSeen_160 rfl (by decide) ?_
        refine w_goto (q := 165) C dX5_isAsSeen_161 (by decide) ?_
        exact w_rz2 hr (by decide) h (by decide) dX5_isAsSeen_165
    · refine w_icmp_ge C (qt := 156) dX5_isAsSeen_69 (by decide) rfl h (fun _ h => ?_) (fun _ h => ?_)
      · exact w_sub [1] rfl (hJ10 _ h)
      · refine w_iload_n C dX5_isAsSeen_72 rfl 1 rfl ?_
        refine w_if_le C (qt := 156) dX5_isAsSeen_73 (by decide) rfl h (fun _ h => ?_) (fun _ h => ?_)
        · exact w_sub [1] rfl (hJ10 _ h)
        · refine w_aload_n C dX5_isAsSeen_76 rfl 2 rfl ?_
          refine w_get C 72 1 (Nat.le_of_ble_eq_true rfl) rfl rfl inB_X5 (by decide) tw2_75 rfl dX5_isAsSeen_77 rfl ?_
          refine w_iload_n C dX5_isAsSeen_80 rfl 0 rfl ?_
          refine bd2_w h (fun r11 u12 hc h => ?_)
          refine w_callVi C (As := [.int v5.2.1]) (st := []) 66 (Nat.le_of_ble_eq_true rfl) rfl rfl (cfX2_takes D cI ad (l := X.2.1) C.2.2.1 hc) tw6_84 cy_X2_takes (by decide +kernel) ⟨Nat.le_of_ble_eq_true rfl, Nat.le_of_ble_eq_true rfl⟩ (by decide) rfl rfl (Nat.le_of_ble_eq_true rfl) dX5_isAsSeen_81 rfl ?_
          refine w_if_ne C (qt := 89) dX5_isAsSeen_84 (by decide) rfl h (fun _ h => ?_) (fun _ h => ?_)
          · refine w_iconst C 0 dX5_isAsSeen_89 rfl (by decide) ?_
            refine w_istore C [(4, .int 0), (3, .int v5.2.1), (2, .int v5.2.2), (0, .ref (ad 72)), (1, .ref (ad 30))] dX5_isAsSeen_90 rfl (by decide) rfl ?_
            refine w_sub [0, 1, 2, 3, 4] rfl ?_
            refine lp_w (fun v13 : Int32 × Int32 => WP X (gC D cI ad) 5 0 92 u12 [(4, .int v13.1), (3, .int v5.2.1), (2, .int v13.2), (0, .ref (ad 72)), (1, .ref (ad 30))] []) (fun K14 hK15 v13 h => ?_) F _ h
            refine w_iload C dX5_isAsSeen_92 rfl 0 rfl ?_
            refine w_aload_n C dX5_isAsSeen_94 rfl 4 rfl ?_
            refine w_get C 30 2 (Nat.le_of_ble_eq_true rfl) rfl rfl inB_X9 (by decide) tw1_196 rfl dX5_isAsSeen_95 rfl ?_
            refine w_icmp_ge C (qt := 150) dX5_isAsSeen_98 (by decide) rfl h (fun _ h => ?_) (fun _ h => ?_)
            · refine w_iinc (j := 1) C (v5.2.1 + 1) [(3, .int (v5.2.1 + 1)), (4, .int v13.1), (2, .int v13.2), (0, .ref (ad 72)), (1, .ref (ad 30))] dX5_isAsSeen_150 rfl rfl rfl (by decide) rfl ?_
              refine w_goto (q := 61) C dX5_isAsSeen_153 (by decide) ?_
              exact w_sub [0, 2, 3, 4] rfl (hK7 _ h)
            · refine w_aload_n C dX5_isAsSeen_101 rfl 4 rfl ?_
              refine w_get C 30 8 (Nat.le_of_ble_eq_true rfl) rfl rfl inB_X9 (by decide) tw1_212 rfl dX5_isAsSeen_102 rfl ?_
              refine w_iload C dX5_isAsSeen_105 rfl 0 rfl ?_
              refine w_iald C 36 8 0 (Nat.le_of_ble_eq_true rfl) (fun _ => rfl) rfl h dX5_isAsSeen_107 rfl (fun h => ?_)
              refine w_aload_n C dX5_isAsSeen_108 rfl 3 rfl ?_
              refine w_get C 72 1 (Nat.le_of_ble_eq_true rfl) rfl rfl inB_X5 (by decide) tw2_75 rfl dX5_isAsSeen_109 rfl ?_
              refine w_get C 66 3 (Nat.le_of_ble_eq_true rfl) rfl rfl inB_X2 (by decide) tw2_46 rfl dX5_isAsSeen_112 rfl ?_
              refine w_icmp_ne C (qt := 144) dX5_isAsSeen_115 (by decide) rfl h (fun _ h => ?_) (fun _ h => ?_)
              · refine w_iinc (j := 0) C (v13.1 + 1) [(4, .int (v13.1 + 1)), (3, .int v5.2.1), (2, .int v13.2), (0, .ref (ad 72)), (1, .ref (ad 30))] dX5_isAsSeen_144 rfl rfl rfl (by decide) rfl ?_
                refine w_goto (q := 92) C dX5_isAsSeen_147 (by decide) ?_
                exact w_sub [0, 1, 2, 3, 4] rfl (hK15 _ h)
              · refine w_aload_n C dX5_isAsSeen_118 rfl 4 rfl ?_
                refine w_get C 30 9 (Nat.le_of_ble_eq_true rfl) rfl rfl inB_X9 (by decide) tw1_214 rfl dX5_isAsSeen_119 rfl ?_
                refine w_iload C dX5_isAsSeen_122 rfl 0 rfl ?_
                refine w_iald C 37 8 0 (Nat.le_of_ble_eq_true rfl) (fun _ => rfl) rfl h dX5_isAsSeen_124 rfl (fun h => ?_)
                refine w_iload_n C dX5_isAsSeen_125 rfl 1 rfl ?_
                refine w_icmp_ne C (qt := 144) dX5_isAsSeen_126 (by decide) rfl h (fun _ h => ?_) (fun _ h => ?_)
                · refine w_iinc (j := 0) C (v13.1 + 1) [(4, .int (v13.1 + 1)), (3, .int v5.2.1), (2, .int v13.2), (0, .ref (ad 72)), (1, .ref (ad 30))] dX5_isAsSeen_144 rfl rfl rfl (by decide) rfl ?_
                  refine w_goto (q := 92) C dX5_isAsSeen_147 (by decide) ?_
                  exact w_sub [0, 1, 2, 3, 4] rfl (hK15 _ h)
                · refine w_aload_n C dX5_isAsSeen_129 rfl 3 rfl ?_
                  refine w_aload_n C dX5_isAsSeen_130 rfl 4 rfl ?_
                  refine w_iload C dX5_isAsSeen_131 rfl 0 rfl ?_
                  refine bd1_w h (fun r16 hc h => ?_)
                  refine w_callVi C (As := [.ref (ad 30), .int v13.1]) (st := []) 72 (Nat.le_of_ble_eq_true rfl) rfl rfl (cfX5_isThere D cI ad (l := X.2.1) C.2.2.1 hc) tw6_85 cy_X5_isThere (by decide +kernel) ⟨Nat.le_of_ble_eq_true rfl, Nat.le_of_ble_eq_true rfl⟩ (by decide) rfl rfl (Nat.le_of_ble_eq_true rfl) dX5_isAsSeen_133 rfl ?_
                  refine w_if_ne C (qt := 141) dX5_isAsSeen_136 (by decide) rfl h (fun _ h => ?_) (fun _ h => ?_)
                  · refine w_iinc (j := 2) C (v13.2 + (-1)) [(2, .int (v13.2 + (-1))), (4, .int v13.1), (3, .int v5.2.1), (0, .ref (ad 72)), (1, .ref (ad 30))] dX5_isAsSeen_141 rfl rfl rfl (by decide) rfl ?_
                    refine w_iinc (j := 1) C (v13.1 + 1) [(4, .int (v13.1 + 1)), (2, .int (v13.2 + (-1))), (3, .int v5.2.1), (0, .ref (ad 72)), (1, .ref (ad 30))] dX5_isAsSeen_144 rfl rfl rfl (by decide) rfl ?_
                    refine w_goto (q := 92) C dX5_isAsSeen_147 (by decide) ?_
                    exact w_sub [0, 2, 1, 3, 4] rfl (hK15 _ h)
                  · refine w_iconst C 0 dX5_isAsSeen_139 rfl (by decide) ?_
                    exact w_rz2 hr (by decide) h (by decide) dX5_isAsSeen_140
          · refine w_iconst C 0 dX5_isAsSeen_87 rfl (by decide) ?_
            exact w_rz2 hr (by decide) h (by decide) dX5_isAsSeen_88
  · refine w_iload_n C dX5_isAsSeen_29 rfl 1 rfl ?_
    refine w_aload_n C dX5_isAsSeen_30 rfl 3 rfl ?_
    refine w_get C 30 8 (Nat.le_of_ble_eq_true rfl) rfl rfl inB_X9 (by decide) tw1_212 rfl dX5_isAsSeen_31 rfl ?_
    refine w_iload_n C dX5_isAsSeen_34 rfl 0 rfl ?_
    refine w_iald C 36 8 0 (Nat.le_of_ble_eq_true rfl) (fun _ => rfl) rfl h dX5_isAsSeen_35 rfl (fun h => ?_)
    refine w_aload_n C dX5_isAsSeen_36 rfl 2 rfl ?_
    refine w_get C 72 1 (Nat.le_of_ble_eq_true rfl) rfl rfl inB_X5 (by decide) tw2_75 rfl dX5_isAsSeen_37 rfl ?_
    refine w_get C 66 3 (Nat.le_of_ble_eq_true rfl) rfl rfl inB_X2 (by decide) tw2_46 rfl dX5_isAsSeen_40 rfl ?_
    refine w_icmp_ne C (qt := 50) dX5_isAsSeen_43 (by decide) rfl h (fun _ h => ?_) (fun _ h => ?_)
    · refine w_iconst C 0 dX5_isAsSeen_50 rfl (by decide) ?_
      refine w_iadd C dX5_isAsSeen_51 rfl ?_
      refine w_nm h (fun x17 h => ?_)
      refine w_istore_n C [(2, .int x17), (3, .int v2.1), (0, .ref (ad 72)), (1, .ref (ad 30))] dX5_isAsSeen_52 rfl (by decide) rfl ?_
      refine w_iinc (j := 1) C (v2.1 + 1) [(3, .int (v2.1 + 1)), (2, .int x17), (0, .ref (ad 72)), (1, .ref (ad 30))] dX5_isAsSeen_53 rfl rfl rfl (by decide) rfl ?_
      refine w_goto (q := 21) C dX5_isAsSeen_56 (by decide) ?_
      exact w_sub [0, 1, 2, 3] rfl (hK4 _ h)
    · refine w_iconst C 1 dX5_isAsSeen_46 rfl (by decide) ?_
      refine w_goto (q := 51) C dX5_isAsSeen_47 (by decide) ?_
      refine w_iadd C dX5_isAsSeen_51 rfl ?_
      refine w_nm h (fun x18 h => ?_)
      refine w_istore_n C [(2, .int x18), (3, .int v2.1), (0, .ref (ad 72)), (1, .ref (ad 30))] dX5_isAsSeen_52 rfl (by decide) rfl ?_
      refine w_iinc (j := 1) C (v2.1 + 1) [(3, .int (v2.1 + 1)), (2, .int x18), (0, .ref (ad 72)), (1, .ref (ad 30))] dX5_isAsSeen_53 rfl rfl rfl (by decide) rfl ?_
      refine w_goto (q := 21) C dX5_isAsSeen_56 (by decide) ?_
      exact w_sub [0, 1, 2, 3] rfl (hK4 _ h)
theorem cfX5_isAsSeen (D : va_G) (cI : ClassId) (ad : Nat → Nat) {l : Launch} (had : gAp (gC D cI ad)) {F : Nat} {σ : St}  {r : Int32} {σ' : St} (h : fX5_isAsSeen F σ = some (r, σ')) : MI l yX5_isAsSeen (wB yX5_isAsSeen cX5_isAsSeen 5 (some .boolean)) 2 55 (gC D cI ad) [.ref (ad 72), .ref (ad 30)] σ r σ' := mk_MZ had (by decide +kernel) (Nat.le_of_ble_eq_true rfl) (fun X hX C hr => wfX5_isAsSeen C hr h)

