def fX11_boundBy (F : Nat) (σ : St) (a0 : Int32) (a1 : Int32) (a2 : Int32) : Option (Int32 × St) := lp (fun (K2 : (St × Int32 × Int32) → Option (Int32 × St)) (v1 : St × Int32 × Int32) => if (v1.1 5 1) ≤ v1.2.1 then (some (v1.2.2, v1.1)) else bd1 (fX11_isOf F v1.1 a0 v1.2.1) fun r4 => jn (fun v5 : St × Int32 => if v5.2 = ((-1)) then (K2 ((v5.1, v1.2.1 + 1, v1.2.2))) else if v1.2.2 = ((-1)) then (K2 ((v5.1, v1.2.1 + 1, v5.2))) else nm (if v5.2 < v1.2.2 then v5.2 else v1.2.2) fun x8 => K2 ((v5.1, v1.2.1 + 1, x8))) fun J6 => if r4 = 0 then (J6 ((v1.1, (-1)))) else bd2 (fX11_leastBy F v1.1 v1.2.1 a1 a2) fun r9 u10 => J6 ((u10, r9))) F ((σ, 0, (-1)))
set_option maxRecDepth 20000 in
theorem wfX11_boundBy {X : XT} {D : va_G} {cI cT : ClassId} {ad : Nat → Nat} {F : Nat} {σ : St} {a0 : Int32} {a1 : Int32} {a2 : Int32} {r : Int32} {σ' : St} (C : Cx X (gM D cI cT ad) cX11_boundBy 7 RX11 4 98 0) (hr : RetI X (gM D cI cT ad) cX11_boundBy 7 0 r σ') (h : fX11_boundBy F σ a0 a1 a2 = some (r, σ')) : WP X (gM D cI cT ad) 7 0 0 σ [(0, .ref (ad 0)), (1, .int a0), (2, .int a1), (3, .int a2)] [] := by
  unfold fX11_boundBy at h
  refine w_iconst C (-1) dX11_boundBy_0 rfl (by decide) ?_
  refine w_istore C [(4, .int ((-1))), (0, .ref (ad 0)), (1, .int a0), (2, .int a1), (3, .int a2)] dX11_boundBy_1 rfl (by decide) rfl ?_
  refine w_iconst C 0 dX11_boundBy_3 rfl (by decide) ?_
  refine w_istore C [(5, .int 0), (4, .int ((-1))), (0, .ref (ad 0)), (1, .int a0), (2, .int a1), (3, .int a2)] dX11_boundBy_4 rfl (by decide) rfl ?_
  refine w_sub [0, 1, 2, 3, 4, 5] rfl ?_
  refine lp_w (fun v1 : St × Int32 × Int32 => WP X (gM D cI cT ad) 7 0 6 v1.1 [(5, .int v1.2.1), (4, .int v1.2.2), (0, .ref (ad 0)), (1, .int a0), (2, .int a1), (3, .int a2)] []) (fun K2 hK3 v1 h => ?_) F _ h
  refine w_iload C dX11_boundBy_6 rfl 0 rfl ?_
  refine w_aload_n C dX11_boundBy_8 rfl 2 rfl ?_
  refine w_get C 0 5 (Nat.le_of_ble_eq_true rfl) rfl rfl inB_X11 (by decide) tw6_166 rfl dX11_boundBy_9 rfl ?_
  refine w_iconst C 1 dX11_boundBy_12 rfl (by decide) ?_
  refine w_ialdc C 5 8 0 1 (Nat.le_of_ble_eq_true rfl) (fun _ => rfl) rfl (by decide) (by decide) dX11_boundBy_13 rfl ?_
  refine w_icmp_ge C (qt := 72) dX11_boundBy_14 (by decide) rfl h (fun _ h => ?_) (fun _ h => ?_)
  · refine w_iload C dX11_boundBy_72 rfl 1 rfl ?_
    exact w_ri2 hr h (by decide) dX11_boundBy_74
  · refine w_iload_n C dX11_boundBy_17 rfl 3 rfl ?_
    refine w_iload C dX11_boundBy_18 rfl 0 rfl ?_
    refine bd1_w h (fun r4 hc h => ?_)
    refine w_callSi C (As := [.int a0, .int v1.2.1]) (st := []) (cfX11_isOf D cI cT ad (l := X.2.1) C.2.2.1 hc) tw8_9 cs_X11_isOf (by decide +kernel) ⟨Nat.le_of_ble_eq_true rfl, Nat.le_of_ble_eq_true rfl⟩ (by decide) rfl rfl (Nat.le_of_ble_eq_true rfl) dX11_boundBy_20 rfl ?_
    refine jn_w (fun v5 : St × Int32 => WP X (gM D cI cT ad) 7 0 38 v5.1 [(5, .int v1.2.1), (4, .int v1.2.2), (0, .ref (ad 0)), (1, .int a0), (2, .int a1), (3, .int a2)] [.int v5.2]) h (fun v5 h => ?_) (fun J6 hJ7 h => ?_)
    · refine w_istore C [(6, .int v5.2), (5, .int v1.2.1), (4, .int v1.2.2), (0, .ref (ad 0)), (1, .int a0), (2, .int a1), (3, .int a2)] dX11_boundBy_38 rfl (by decide) rfl ?_
      refine w_iload C dX11_boundBy_40 rfl 0 rfl ?_
      refine w_iconst C (-1) dX11_boundBy_42 rfl (by decide) ?_
      refine w_icmp_eq C (qt := 66) dX11_boundBy_43 (by decide) rfl h (fun _ h => ?_) (fun _ h => ?_)
      · refine w_iinc (j := 1) C (v1.2.1 + 1) [(5, .int (v1.2.1 + 1)), (6, .int v5.2), (4, .int v1.2.2), (0, .ref (ad 0)), (1, .int a0), (2, .int a1), (3, .int a2)] dX11_boundBy_66 rfl rfl rfl (by decide) rfl ?_
        refine w_goto (q := 6) C dX11_boundBy_69 (by decide) ?_
        exact w_sub [0, 2, 3, 4, 5, 6] rfl (hK3 _ h)
      · refine w_iload C dX11_boundBy_46 rfl 2 rfl ?_
        refine w_iconst C (-1) dX11_boundBy_48 rfl (by decide) ?_
        refine w_icmp_ne C (qt := 57) dX11_boundBy_49 (by decide) rfl h (fun _ h => ?_) (fun _ h => ?_)
        · refine w_iload C dX11_boundBy_57 rfl 2 rfl ?_
          refine w_iload C dX11_boundBy_59 rfl 0 rfl ?_
          refine w_mmin C (by intro w hw; simp only [List.mem_cons, List.not_mem_nil, or_false] at hw; rcases hw with rfl | rfl | rfl | rfl; exacts [tw7_136, tw3_112, tw1_17, tw3_113]) ⟨Nat.le_of_ble_eq_true rfl, Nat.le_of_ble_eq_true rfl⟩ (by decide) dX11_boundBy_61 rfl ?_
          refine w_nm h (fun x8 h => ?_)
          refine w_istore C [(4, .int x8), (6, .int v5.2), (5, .int v1.2.1), (0, .ref (ad 0)), (1, .int a0), (2, .int a1), (3, .int a2)] dX11_boundBy_64 rfl (by decide) rfl ?_
          refine w_iinc (j := 2) C (v1.2.1 + 1) [(5, .int (v1.2.1 + 1)), (4, .int x8), (6, .int v5.2), (0, .ref (ad 0)), (1, .int a0), (2, .int a1), (3, .int a2)] dX11_boundBy_66 rfl rfl rfl (by decide) rfl ?_
          refine w_goto (q := 6) C dX11_boundBy_69 (by decide) ?_
          exact w_sub [0, 1, 3, 4, 5, 6] rfl (hK3 _ h)
        · refine w_iload C dX11_boundBy_52 rfl 0 rfl ?_
          refine w_goto (q := 64) C dX11_boundBy_54 (by decide) ?_
          refine w_istore C [(4, .int v5.2), (6, .int v5.2), (5, .int v1.2.1), (0, .ref (ad 0)), (1, .int a0), (2, .int a1), (3, .int a2)] dX11_boundBy_64 rfl (by decide) rfl ?_
          refine w_iinc (j := 2) C (v1.2.1 + 1) [(5, .int (v1.2.1 + 1)), (4, .int v5.2), (6, .int v5.2), (0, .ref (ad 0)), (1, .int a0), (2, .int a1), (3, .int a2)] dX11_boundBy_66 rfl rfl rfl (by decide) rfl ?_
          refine w_goto (q := 6) C dX11_boundBy_69 (by decide) ?_
          exact w_sub [0, 1, 3, 4, 5, 6] rfl (hK3 _ h)
    · refine w_if_eq C (qt := 37) dX11_boundBy_23 (by decide) rfl h (fun _ h => ?_) (fun _ h => ?_)
      · refine w_iconst C (-1) dX11_boundBy_37 rfl (by decide) ?_
        exact w_sub [0, 1, 2, 3, 4, 5] rfl (hJ7 _ h)
      · refine w_aload_n C dX11_boundBy_26 rfl 2 rfl ?_
        refine w_iload C dX11_boundBy_27 rfl 0 rfl ?_
        refine w_iload_n C dX11_boundBy_29 rfl 4 rfl ?_
        refine w_iload_n C dX11_boundBy_30 rfl 5 rfl ?_
        refine bd2_w h (fun r9 u10 hc h => ?_)
        refine w_callVi C (As := [.int v1.2.1, .int a1, .int a2]) (st := []) 0 (Nat.le_of_ble_eq_true rfl) rfl rfl (cfX11_leastBy D cI cT ad (l := X.2.1) C.2.2.1 hc) tw8_56 cy_X11_leastBy (by decide +kernel) ⟨Nat.le_of_ble_eq_true rfl, Nat.le_of_ble_eq_true rfl⟩ (by decide) rfl rfl (Nat.le_of_ble_eq_true rfl) dX11_boundBy_31 rfl ?_
        refine w_goto (q := 38) C dX11_boundBy_34 (by decide) ?_
        exact w_sub [0, 1, 2, 3, 4, 5] rfl (hJ7 _ h)
theorem cfX11_boundBy (D : va_G) (cI cT : ClassId) (ad : Nat → Nat) {l : Launch} (had : gAp (gM D cI cT ad)) {F : Nat} {σ : St} {a0 : Int32} {a1 : Int32} {a2 : Int32} {r : Int32} {σ' : St} (h : fX11_boundBy F σ a0 a1 a2 = some (r, σ')) : MI l yX11_boundBy (wB yX11_boundBy cX11_boundBy 7 (some .int)) 4 98 (gM D cI cT ad) [.ref (ad 0), .int a0, .int a1, .int a2] σ r σ' := mk_MI had (by decide +kernel) (Nat.le_of_ble_eq_true rfl) (fun X hX C hr => wfX11_boundBy C hr h)

def fX11_hasStamped (F : Nat) (σ : St) (a0 : Int32) (a1 : Int32) (a2 : Int32) (a3 : Int32) : Option (Int32 × St) := bd2 (fX11_boundBy F σ a0 a1 a2) fun r1 u2 => if r1 = ((-1)) then (some (0, u2)) else if a3 ≤ r1 then (some (0, u2)) else some (1, u2)
set_option maxRecDepth 20000 in
theorem wfX11_hasStamped {X : XT} {D : va_G} {cI cT : ClassId} {ad : Nat → Nat} {F : Nat} {σ : St} {a0 : Int32} {a1 : Int32} {a2 : Int32} {a3 : Int32} {r : Int32} {σ' : St} (C : Cx X (gM D cI cT ad) cX11_hasStamped 6 RX11 5 124 0) (hr : RetZ X (gM D cI cT ad) cX11_hasStamped 6 0 r σ') (h : fX11_hasStamped F σ a0 a1 a2 a3 = some (r, σ')) : WP X (gM D cI cT ad) 6 0 0 σ [(0, .ref (ad 0)), (1, .int a0), (2, .int a1), (3, .int a2), (4, .int a3)] [] := by
  unfold fX11_hasStamped at h
  refine w_aload_n C dX11_hasStamped_0 rfl 0 rfl ?_
  refine w_iload_n C dX11_hasStamped_1 rfl 1 rfl ?_
  refine w_iload_n C dX11_hasStamped_2 rfl 2 rfl ?_
  refine w_iload_n C dX11_hasStamped_3 rfl 3 rfl ?_
  refine bd2_w h (fun r1 u2 hc h => ?_)
  refine w_callVi C (As := [.int a0, .int a1, .int a2]) (st := []) 0 (Nat.le_of_ble_eq_true rfl) rfl rfl (cfX11_boundBy D cI cT ad (l := X.2.1) C.2.2.1 hc) tw8_52 cy_X11_boundBy (by decide +kernel) ⟨Nat.le_of_ble_eq_true rfl, Nat.le_of_ble_eq_true rfl⟩ (by decide) rfl rfl (Nat.le_of_ble_eq_true rfl) dX11_hasStamped_4 rfl ?_
  refine w_istore C [(5, .int r1), (0, .ref (ad 0)), (1, .int a0), (2, .int a1), (3, .int a2), (4, .int a3)] dX11_hasStamped_7 rfl (by decide) rfl ?_
  refine w_iload C dX11_hasStamped_9 rfl 0 rfl ?_
  refine w_iconst C (-1) dX11_hasStamped_11 rfl (by decide) ?_
  refine w_icmp_eq C (qt := 26) dX11_hasStamped_12 (by decide) rfl h (fun _ h => ?_) (fun _ h => ?_)
  · refine w_iconst C 0 dX11_hasStamped_26 rfl (by decide) ?_
    exact w_rz2 hr (by decide) h (by decide) dX11_hasStamped_27
  · refine w_iload C dX11_hasStamped_15 rfl 5 rfl ?_
    refine w_iload C dX11_hasStamped_17 rfl 0 rfl ?_
    refine w_icmp_le C (qt := 26) dX11_hasStamped_19 (by decide) rfl h (fun _ h => ?_) (fun _ h => ?_)
    · refine w_iconst C 0 dX11_hasStamped_26 rfl (by decide) ?_
      exact w_rz2 hr (by decide) h (by decide) dX11_hasStamped_27
    · refine w_iconst C 1 dX11_hasStamped_22 rfl (by decide) ?_
      refine w_goto (q := 27) C dX11_hasStamped_23 (by decide) ?_
      exact w_rz2 hr (by decide) h (by decide) dX11_hasStamped_27
theorem cfX11_hasStamped (D : va_G) (cI cT : ClassId) (ad : Nat → Nat) {l : Launch} (had : gAp (gM D cI cT ad)) {F : Nat} {σ : St} {a0 : Int32} {a1 : Int32} {a2 : Int32} {a3 : Int32} {r : Int32} {σ' : St} (h : fX11_hasStamped F σ a0 a1 a2 a3 = some (r, σ')) : MI l yX11_hasStamped (wB yX11_hasStamped cX11_hasStamped 6 (some .boolean)) 5 124 (gM D cI cT ad) [.ref (ad 0), .int a0, .int a1, .int a2, .int a3] σ r σ' := mk_MZ had (by decide +kernel) (Nat.le_of_ble_eq_true rfl) (fun X hX C hr => wfX11_hasStamped C hr h)

def fX11_stamped (F : Nat) (σ : St) : Option (Int32 × St) := bd2 (fX11_binding F σ) fun r1 u2 => lp (fun (K4 : (St × Int32 × Int32) → Option (Int32 × St)) (v3 : St × Int32 × Int32) => if (v3.1 5 0) ≤ v3.2.1 then (some (v3.2.2, v3.1)) else lp (fun (K7 : (St × Int32 × Int32) → Option (Int32 × St)) (v6 : St × Int32 × Int32) => if 8 ≤ v6.2.1 then (if v6.2.2 = 0 then (nm (v3.2.2 + 0) fun x9 => K4 ((v6.1, v3.2.1 + 1, x9))) else nm (v3.2.2 + 1) fun x10 => K4 ((v6.1, v3.2.1 + 1, x10))) else if v6.2.2 = 0 then (ckI ((8 * v3.2.1) + v6.2.1) 48 (bd2 (fX11_hasStamped F v6.1 r1 v3.2.1 v6.2.1 (v6.1 19 (Int32.toNatClampNeg ((8 * v3.2.1) + v6.2.1)))) fun r11 u12 => if r11 = 0 then (K7 ((u12, v6.2.1 + 1, 0))) else K7 ((u12, v6.2.1 + 1, 1)))) else K7 ((v6.1, v6.2.1 + 1, 1))) F ((v3.1, 0, 0))) F ((u2, 0, 0))
set_option maxRecDepth 20000 in
theorem wfX11_stamped {X : XT} {D : va_G} {cI cT : ClassId} {ad : Nat → Nat} {F : Nat} {σ : St}  {r : Int32} {σ' : St} (C : Cx X (gM D cI cT ad) cX11_stamped 6 RX11 7 162 0) (hr : RetI X (gM D cI cT ad) cX11_stamped 6 0 r σ') (h : fX11_stamped F σ = some (r, σ')) : WP X (gM D cI cT ad) 6 0 0 σ [(0, .ref (ad 0))] [] := by
  unfold fX11_stamped at h
  refine w_aload_n C dX11_stamped_0 rfl 0 rfl ?_
  refine bd2_w h (fun r1 u2 hc h => ?_)
  refine w_callVi C (As := []) (st := []) 0 (Nat.le_of_ble_eq_true rfl) rfl rfl (cfX11_binding D cI cT ad (l := X.2.1) C.2.2.1 hc) tw8_1 cy_X11_binding (by decide +kernel) ⟨Nat.le_of_ble_eq_true rfl, Nat.le_of_ble_eq_true rfl⟩ (by decide) rfl rfl (Nat.le_of_ble_eq_true rfl) dX11_stamped_1 rfl ?_
  refine w_istore_n C [(1, .int r1), (0, .ref (ad 0))] dX11_stamped_4 rfl (by decide) rfl ?_
  refine w_iconst C 0 dX11_stamped_5 rfl (by decide) ?_
  refine w_istore_n C [(2, .int 0), (1, .int r1), (0, .ref (ad 0))] dX11_stamped_6 rfl (by decide) rfl ?_
  refine w_iconst C 0 dX11_stamped_7 rfl (by decide) ?_
  refine w_istore_n C [(3, .int 0), (2, .int 0), (1, .int r1), (0, .ref (ad 0))] dX11_stamped_8 rfl (by decide) rfl ?_
  refine w_sub [0, 1, 2, 3] rfl ?_
  refine lp_w (fun v3 : St × Int32 × Int32 => WP X (gM D cI cT ad) 6 0 9 v3.1 [(3, .int v3.2.1), (2, .int v3.2.2), (1, .int r1), (0, .ref (ad 0))] []) (fun K4 hK5 v3 h => ?_) F _ h
  refine w_iload_n C dX11_stamped_9 rfl 0 rfl ?_
  refine w_aload_n C dX11_stamped_10 rfl 3 rfl ?_
  refine w_get C 0 5 (Nat.le_of_ble_eq_true rfl) rfl rfl inB_X11 (by decide) tw6_166 rfl dX11_stamped_11 rfl ?_
  refine w_iconst C 0 dX11_stamped_14 rfl (by decide) ?_
  refine w_ialdc C 5 8 0 0 (Nat.le_of_ble_eq_true rfl) (fun _ => rfl) rfl (by decide) (by decide) dX11_stamped_15 rfl ?_
  refine w_icmp_ge C (qt := 92) dX11_stamped_16 (by decide) rfl h (fun _ h => ?_) (fun _ h => ?_)
  · refine w_iload_n C dX11_stamped_92 rfl 1 rfl ?_
    exact w_ri2 hr h (by decide) dX11_stamped_93
  · refine w_iconst C 0 dX11_stamped_19 rfl (by decide) ?_
    refine w_istore C [(4, .int 0), (3, .int v3.2.1), (2, .int v3.2.2), (1, .int r1), (0, .ref (ad 0))] dX11_stamped_20 rfl (by decide) rfl ?_
    refine w_iconst C 0 dX11_stamped_22 rfl (by decide) ?_
    refine w_istore C [(5, .int 0), (4, .int 0), (3, .int v3.2.1), (2, .int v3.2.2), (1, .int r1), (0, .ref (ad 0))] dX11_stamped_23 rfl (by decide) rfl ?_
    refine w_sub [0, 1, 2, 3, 4, 5] rfl ?_
    refine lp_w (fun v6 : St × Int32 × Int32 => WP X (gM D cI cT ad) 6 0 25 v6.1 [(5, .int v6.2.1), (4, .int v6.2.2), (3, .int v3.2.1), (2, .int v3.2.2), (1, .int r1), (0, .ref (ad 0))] []) (fun K7 hK8 v6 h => ?_) F _ h
    refine w_iload C dX11_stamped_25 rfl 0 rfl ?_
    refine w_bipush C 8 dX11_stamped_27 rfl (by decide) ?_
    refine w_icmp_ge C (qt := 73) dX11_stamped_29 (by decide) rfl h (fun _ h => ?_) (fun _ h => ?_)
    · refine w_iload_n C dX11_stamped_73 rfl 3 rfl ?_
      refine w_iload C dX11_stamped_74 rfl 1 rfl ?_
      refine w_if_eq C (qt := 83) dX11_stamped_76 (by decide) rfl h (fun _ h => ?_) (fun _ h => ?_)
      · refine w_iconst C 0 dX11_stamped_83 rfl (by decide) ?_
        refine w_iadd C dX11_stamped_84 rfl ?_
        refine w_nm h (fun x9 h => ?_)
        refine w_istore_n C [(2, .int x9), (5, .int v6.2.1), (4, .int v6.2.2), (3, .int v3.2.1), (1, .int r1), (0, .ref (ad 0))] dX11_stamped_85 rfl (by decide) rfl ?_
        refine w_iinc (j := 3) C (v3.2.1 + 1) [(3, .int (v3.2.1 + 1)), (2, .int x9), (5, .int v6.2.1), (4, .int v6.2.2), (1, .int r1), (0, .ref (ad 0))] dX11_stamped_86 rfl rfl rfl (by decide) rfl ?_
        refine w_goto (q := 9) C dX11_stamped_89 (by decide) ?_
        exact w_sub [0, 1, 4, 5] rfl (hK5 _ h)
      · refine w_iconst C 1 dX11_stamped_79 rfl (by decide) ?_
        refine w_goto (q := 84) C dX11_stamped_80 (by decide) ?_
        refine w_iadd C dX11_stamped_84 rfl ?_
        refine w_nm h (fun x10 h => ?_)
        refine w_istore_n C [(2, .int x10), (5, .int v6.2.1), (4, .int v6.2.2), (3, .int v3.2.1), (1, .int r1), (0, .ref (ad 0))] dX11_stamped_85 rfl (by decide) rfl ?_
        refine w_iinc (j := 3) C (v3.2.1 + 1) [(3, .int (v3.2.1 + 1)), (2, .int x10), (5, .int v6.2.1), (4, .int v6.2.2), (1, .int r1), (0, .ref (ad 0))] dX11_stamped_86 rfl rfl rfl (by decide) rfl ?_
        refine w_goto (q := 9) C dX11_stamped_89 (by decide) ?_
        exact w_sub [0, 1, 4, 5] rfl (hK5 _ h)
    · refine w_iload C dX11_stamped_32 rfl 1 rfl ?_
      refine w_if_ne C (qt := 60) dX11_stamped_34 (by decide) rfl h (fun _ h => ?_) (fun _ h => ?_)
      · refine w_iconst C 1 dX11_stamped_60 rfl (by decide) ?_
        refine w_goto (q := 65) C dX11_stamped_61 (by decide) ?_
        refine w_istore C [(4, .int 1), (5, .int v6.2.1), (3, .int v3.2.1), (2, .int v3.2.2), (1, .int r1), (0, .ref (ad 0))] dX11_stamped_65 rfl (by decide) rfl ?_
        refine w_iinc (j := 1) C (v6.2.1 + 1) [(5, .int (v6.2.1 + 1)), (4, .int 1), (3, .int v3.2.1), (2, .int v3.2.2), (1, .int r1), (0, .ref (ad 0))] dX11_stamped_67 rfl rfl rfl (by decide) rfl ?_
        refine w_goto (q := 25) C dX11_stamped_70 (by decide) ?_
        exact w_sub [0, 1, 2, 3, 4, 5] rfl (hK8 _ h)
      · refine w_aload_n C dX11_stamped_37 rfl 5 rfl ?_
        refine w_iload_n C dX11_stamped_38 rfl 4 rfl ?_
        refine w_iload_n C dX11_stamped_39 rfl 2 rfl ?_
        refine w_iload C dX11_stamped_40 rfl 0 rfl ?_
        refine w_aload_n C dX11_stamped_42 rfl 5 rfl ?_
        refine w_get C 0 29 (Nat.le_of_ble_eq_true rfl) rfl rfl inB_X11 (by decide) tw6_190 rfl dX11_stamped_43 rfl ?_
        refine w_bipush C 8 dX11_stamped_46 rfl (by decide) ?_
        refine w_iload_n C dX11_stamped_48 rfl 2 rfl ?_
        refine w_imul C dX11_stamped_49 rfl ?_
        refine w_iload C dX11_stamped_50 rfl 0 rfl ?_
        refine w_iadd C dX11_stamped_52 rfl ?_
        refine w_iald C 19 48 0 (Nat.le_of_ble_eq_true rfl) (fun _ => rfl) rfl h dX11_stamped_53 rfl (fun h => ?_)
        refine bd2_w h (fun r11 u12 hc h => ?_)
        refine w_callVi C (As := [.int r1, .int v3.2.1, .int v6.2.1, .int (v6.1 19 (Int32.toNatClampNeg ((8 * v3.2.1) + v6.2.1)))]) (st := []) 0 (Nat.le_of_ble_eq_true rfl) rfl rfl (cfX11_hasStamped D cI cT ad (l := X.2.1) C.2.2.1 hc) tw8_48 cy_X11_hasStamped (by decide +kernel) ⟨Nat.le_of_ble_eq_true rfl, Nat.le_of_ble_eq_true rfl⟩ (by decide) rfl rfl (Nat.le_of_ble_eq_true rfl) dX11_stamped_54 rfl ?_
        refine w_if_eq C (qt := 64) dX11_stamped_57 (by decide) rfl h (fun _ h => ?_) (fun _ h => ?_)
        · refine w_iconst C 0 dX11_stamped_64 rfl (by decide) ?_
          refine w_istore C [(4, .int 0), (5, .int v6.2.1), (3, .int v3.2.1), (2, .int v3.2.2), (1, .int r1), (0, .ref (ad 0))] dX11_stamped_65 rfl (by decide) rfl ?_
          refine w_iinc (j := 1) C (v6.2.1 + 1) [(5, .int (v6.2.1 + 1)), (4, .int 0), (3, .int v3.2.1), (2, .int v3.2.2), (1, .int r1), (0, .ref (ad 0))] dX11_stamped_67 rfl rfl rfl (by decide) rfl ?_
          refine w_goto (q := 25) C dX11_stamped_70 (by decide) ?_
          exact w_sub [0, 1, 2, 3, 4, 5] rfl (hK8 _ h)
        · refine w_iconst C 1 dX11_stamped_60 rfl (by decide) ?_
          refine w_goto (q := 65) C dX11_stamped_61 (by decide) ?_
          refine w_istore C [(4, .int 1), (5, .int v6.2.1), (3, .int v3.2.1), (2, .int v3.2.2), (1, .int r1), (0, .ref (ad 0))] dX11_stamped_65 rfl (by decide) rfl ?_
          refine w_iinc (j := 1) C (v6.2.1 + 1) [(5, .int (v6.2.1 + 1)), (4, .int 1), (3, .int v3.2.1), (2, .int v3.2.2), (1, .int r1), (0, .ref (ad 0))] dX11_stamped_67 rfl rfl rfl (by decide) rfl ?_
          refine w_goto (q := 25) C dX11_stamped_70 (by decide) ?_
          exact w_sub [0, 1, 2, 3, 4, 5] rfl (hK8 _ h)
theorem cfX11_stamped (D : va_G) (cI cT : ClassId) (ad : Nat → Nat) {l : Launch} (had : gAp (gM D cI cT ad)) {F : Nat} {σ : St}  {r : Int32} {σ' : St} (h : fX11_stamped F σ = some (r, σ')) : MI l yX11_stamped (wB yX11_stamped cX11_stamped 6 (some .int)) 7 162 (gM D cI cT ad) [.ref (ad 0)] σ r σ' := mk_MI had (by decide +kernel) (Nat.le_of_ble_eq_true rfl) (fun X hX C hr => wfX11_stamped C hr h)

def fX11_bitsOf (F : Nat) (σ : St) (a0 : Int32) : Option Int32 := lp (fun (K2 : (Int32 × Int32) → Option Int32) (v1 : Int32 × Int32) => if v1.1 = 0 then (some v1.2) else nm (v1.1 &&& (v1.1 - 1)) fun x4 => K2 ((x4, v1.2 + 1))) F ((a0, 0))
set_option maxRecDepth 20000 in
theorem wfX11_bitsOf {X : XT} {D : va_G} {cI cT : ClassId} {ad : Nat → Nat} {F : Nat} {σ : St} {a0 : Int32} {r : Int32} (C : Cx X (gM D cI cT ad) cX11_bitsOf 3 RX11 0 0 0) (hr : RetI X (gM D cI cT ad) cX11_bitsOf 3 0 r σ) (h : fX11_bitsOf F σ a0 = some r) : WP X (gM D cI cT ad) 3 0 0 σ [(0, .int a0)] [] := by
  unfold fX11_bitsOf at h
  refine w_iconst C 0 dX11_bitsOf_0 rfl (by decide) ?_
  refine w_istore_n C [(1, .int 0), (0, .int a0)] dX11_bitsOf_1 rfl (by decide) rfl ?_
  refine w_iload_n C dX11_bitsOf_2 rfl 1 rfl ?_
  refine w_istore_n C [(2, .int a0), (1, .int 0), (0, .int a0)] dX11_bitsOf_3 rfl (by decide) rfl ?_
  refine w_sub [0, 1] rfl ?_
  refine lp_w (fun v1 : Int32 × Int32 => WP X (gM D cI cT ad) 3 0 4 σ [(2, .int v1.1), (1, .int v1.2)] []) (fun K2 hK3 v1 h => ?_) F _ h
  refine w_iload_n C dX11_bitsOf_4 rfl 0 rfl ?_
  refine w_if_eq C (qt := 20) dX11_bitsOf_5 (by decide) rfl h (fun _ h => ?_) (fun _ h => ?_)
  · refine w_iload_n C dX11_bitsOf_20 rfl 1 rfl ?_
    exact w_ri1 hr h (by decide) dX11_bitsOf_21
  · refine w_iinc (j := 1) C (v1.2 + 1) [(1, .int (v1.2 + 1)), (2, .int v1.1)] dX11_bitsOf_8 rfl rfl rfl (by decide) rfl ?_
    refine w_iload_n C dX11_bitsOf_11 rfl 1 rfl ?_
    refine w_iload_n C dX11_bitsOf_12 rfl 1 rfl ?_
    refine w_iconst C 1 dX11_bitsOf_13 rfl (by decide) ?_
    refine w_isub C dX11_bitsOf_14 rfl ?_
    refine w_iand C dX11_bitsOf_15 rfl ?_
    refine w_nm h (fun x4 h => ?_)
    refine w_istore_n C [(2, .int x4), (1, .int (v1.2 + 1))] dX11_bitsOf_16 rfl (by decide) rfl ?_
    refine w_goto (q := 4) C dX11_bitsOf_17 (by decide) ?_
    exact w_sub [0, 1] rfl (hK3 _ h)
theorem cfX11_bitsOf (D : va_G) (cI cT : ClassId) (ad : Nat → Nat) {l : Launch} (had : gAp (gM D cI cT ad)) {F : Nat} {σ : St} {a0 : Int32} {r : Int32} (h : fX11_bitsOf F σ a0 = some r) : MI l yX11_bitsOf (wB yX11_bitsOf cX11_bitsOf 3 (some .int)) 0 0 (gM D cI cT ad) [.int a0] σ r σ := mk_MI had (by decide +kernel) (Nat.le_of_ble_eq_true rfl) (fun X hX C hr => wfX11_bitsOf C hr h)

def fX11_count (F : Nat) (σ : St) (a0 : Int32) : Option (Int32 × St) := nm (up σ 0 4 0) fun u2 => if a0 = 0 then (ckI (a0) 8 (some (u2 5 (Int32.toNatClampNeg a0), u2))) else if a0 = 1 then (ckI (a0) 8 (some (u2 5 (Int32.toNatClampNeg a0), u2))) else if a0 = 2 then (ckI (a0) 8 (some (u2 5 (Int32.toNatClampNeg a0), u2))) else if a0 = 3 then (some (u2 0 31, u2)) else if a0 = 4 then (bd2 (fX11_binding F u2) fun r7 u8 => some (r7, u8)) else if a0 = 5 then (bd2 (fX11_stamped F u2) fun r10 u11 => some (r10, u11)) else if a0 = 6 then (some (u2 0 33, u2)) else if a0 = 7 then (some (u2 0 34, u2)) else if a0 = 8 then (some (u2 0 18, u2)) else if a0 = 9 then (ckI (a0 - 9) 3 (some (u2 16 (Int32.toNatClampNeg (a0 - 9)), u2))) else if a0 = 10 then (ckI (a0 - 9) 3 (some (u2 16 (Int32.toNatClampNeg (a0 - 9)), u2))) else if a0 = 11 then (ckI (a0 - 9) 3 (some (u2 16 (Int32.toNatClampNeg (a0 - 9)), u2))) else bd2 (fX11_fail F u2 1) fun r19 u20 => some (r19, u20)
set_option maxRecDepth 20000 in
theorem wfX11_count {X : XT} {D : va_G} {cI cT : ClassId} {ad : Nat → Nat} {F : Nat} {σ : St} {a0 : Int32} {r : Int32} {σ' : St} (C : Cx X (gM D cI cT ad) cX11_count 2 RX11 8 187 0) (hr : RetI X (gM D cI cT ad) cX11_count 2 0 r σ') (h : fX11_count F σ a0 = some (r, σ')) : WP X (gM D cI cT ad) 2 0 0 σ [(0, .ref (ad 0)), (1, .int a0)] [] := by
  unfold fX11_count at h
  refine w_aload_n C dX11_count_0 rfl 0 rfl ?_
  refine w_iconst C 0 dX11_count_1 rfl (by decide) ?_
  refine w_put C 0 4 0 (Nat.le_of_ble_eq_true rfl) rfl rfl inB_X11 tyX11_ok nmX11 (by decide) tw6_165 rfl rfl rfl (Nat.le_of_ble_eq_true rfl) rfl dX11_count_2 rfl ?_
  refine w_nst h (fun u2 h => ?_)
  refine w_iload_n C dX11_count_5 rfl 1 rfl ?_
  refine if_w h (fun e3 h => ?_) (fun e3 h => ?_)
  · refine w_tsIn (q := 68) C 0 e3 dX11_count_6 (by decide) (by decide) rfl (by decide) ?_
    refine w_aload_n C dX11_count_68 rfl 0 rfl ?_
    refine w_get C 0 5 (Nat.le_of_ble_eq_true rfl) rfl rfl inB_X11 (by decide) tw6_166 rfl dX11_count_69 rfl ?_
    refine w_iload_n C dX11_count_72 rfl 1 rfl ?_
    refine w_iald C 5 8 0 (Nat.le_of_ble_eq_true rfl) (fun _ => rfl) rfl h dX11_count_73 rfl (fun h => ?_)
    exact w_ri2 hr h (by decide) dX11_count_74
  refine if_w h (fun e4 h => ?_) (fun e4 h => ?_)
  · refine w_tsIn (q := 68) C 1 e4 dX11_count_6 (by decide) (by decide) rfl (by decide) ?_
    refine w_aload_n C dX11_count_68 rfl 0 rfl ?_
    refine w_get C 0 5 (Nat.le_of_ble_eq_true rfl) rfl rfl inB_X11 (by decide) tw6_166 rfl dX11_count_69 rfl ?_
    refine w_iload_n C dX11_count_72 rfl 1 rfl ?_
    refine w_iald C 5 8 0 (Nat.le_of_ble_eq_true rfl) (fun _ => rfl) rfl h dX11_count_73 rfl (fun h => ?_)
    exact w_ri2 hr h (by decide) dX11_count_74
  refine if_w h (fun e5 h => ?_) (fun e5 h => ?_)
  · refine w_tsIn (q := 68) C 2 e5 dX11_count_6 (by decide) (by decide) rfl (by decide) ?_
    refine w_aload_n C dX11_count_68 rfl 0 rfl ?_
    refine w_get C 0 5 (Nat.le_of_ble_eq_true rfl) rfl rfl inB_X11 (by decide) tw6_166 rfl dX11_count_69 rfl ?_
    refine w_iload_n C dX11_count_72 rfl 1 rfl ?_
    refine w_iald C 5 8 0 (Nat.le_of_ble_eq_true rfl) (fun _ => rfl) rfl h dX11_count_73 rfl (fun h => ?_)
    exact w_ri2 hr h (by decide) dX11_count_74
  refine if_w h (fun e6 h => ?_) (fun e6 h => ?_)
  · refine w_tsIn (q := 75) C 3 e6 dX11_count_6 (by decide) (by decide) rfl (by decide) ?_
    refine w_aload_n C dX11_count_75 rfl 0 rfl ?_
    refine w_get C 0 31 (Nat.le_of_ble_eq_true rfl) rfl rfl inB_X11 (by decide) tw6_192 rfl dX11_count_76 rfl ?_
    exact w_ri2 hr h (by decide) dX11_count_79
  refine if_w h (fun e9 h => ?_) (fun e9 h => ?_)
  · refine w_tsIn (q := 80) C 4 e9 dX11_count_6 (by decide) (by decide) rfl (by decide) ?_
    refine w_aload_n C dX11_count_80 rfl 0 rfl ?_
    refine bd2_w h (fun r7 u8 hc h => ?_)
    refine w_callVi C (As := []) (st := []) 0 (Nat.le_of_ble_eq_true rfl) rfl rfl (cfX11_binding D cI cT ad (l := X.2.1) C.2.2.1 hc) tw8_1 cy_X11_binding (by decide +kernel) ⟨Nat.le_of_ble_eq_true rfl, Nat.le_of_ble_eq_true rfl⟩ (by decide) rfl rfl (Nat.le_of_ble_eq_true rfl) dX11_count_81 rfl ?_
    exact w_ri2 hr h (by decide) dX11_count_84
  refine if_w h (fun e12 h => ?_) (fun e12 h => ?_)
  · refine w_tsIn (q := 85) C 5 e12 dX11_count_6 (by decide) (by decide) rfl (by decide) ?_
    refine w_aload_n C dX11_count_85 rfl 0 rfl ?_
    refine bd2_w h (fun r10 u11 hc h => ?_)
    refine w_callVi C (As := []) (st := []) 0 (Nat.le_of_ble_eq_true rfl) rfl rfl (cfX11_stamped D cI cT ad (l := X.2.1) C.2.2.1 hc) tw8_44 cy_X11_stamped (by decide +kernel) ⟨Nat.le_of_ble_eq_true rfl, Nat.le_of_ble_eq_true rfl⟩ (by decide) rfl rfl (Nat.le_of_ble_eq_true rfl) dX11_count_86 rfl ?_
    exact w_ri2 hr h (by decide) dX11_count_89
  refine if_w h (fun e13 h => ?_) (fun e13 h => ?_)
  · refine w_tsIn (q := 90) C 6 e13 dX11_count_6 (by decide) (by decide) rfl (by decide) ?_
    refine w_aload_n C dX11_count_90 rfl 0 rfl ?_
    refine w_get C 0 33 (Nat.le_of_ble_eq_true rfl) rfl rfl inB_X11 (by decide) tw6_194 rfl dX11_count_91 rfl ?_
    exact w_ri2 hr h (by decide) dX11_count_94
  refine if_w h (fun e14 h => ?_) (fun e14 h => ?_)
  · refine w_tsIn (q := 95) C 7 e14 dX11_count_6 (by decide) (by decide) rfl (by decide) ?_
    refine w_aload_n C dX11_count_95 rfl 0 rfl ?_
    refine w_get C 0 34 (Nat.le_of_ble_eq_true rfl) rfl rfl inB_X11 (by decide) tw6_195 rfl dX11_count_96 rfl ?_
    exact w_ri2 hr h (by decide) dX11_count_99
  refine if_w h (fun e15 h => ?_) (fun e15 h => ?_)
  · refine w_tsIn (q := 100) C 8 e15 dX11_count_6 (by decide) (by decide) rfl (by decide) ?_
    refine w_aload_n C dX11_count_100 rfl 0 rfl ?_
    refine w_get C 0 18 (Nat.le_of_ble_eq_true rfl) rfl rfl inB_X11 (by decide) tw6_179 rfl dX11_count_101 rfl ?_
    exact w_ri2 hr h (by decide) dX11_count_104
  refine if_w h (fun e16 h => ?_) (fun e16 h => ?_)
  · refine w_tsIn (q := 105) C 9 e16 dX11_count_6 (by decide) (by decide) rfl (by decide) ?_
    refine w_aload_n C dX11_count_105 rfl 0 rfl ?_
    refine w_get C 0 16 (Nat.le_of_ble_eq_true rfl) rfl rfl inB_X11 (by decide) tw6_177 rfl dX11_count_106 rfl ?_
    refine w_iload_n C dX11_count_109 rfl 1 rfl ?_
    refine w_bipush C 9 dX11_count_110 rfl (by decide) ?_
    refine w_isub C dX11_count_112 rfl ?_
    refine w_iald C 16 3 0 (Nat.le_of_ble_eq_true rfl) (fun _ => rfl) rfl h dX11_count_113 rfl (fun h => ?_)
    exact w_ri2 hr h (by decide) dX11_count_114
  refine if_w h (fun e17 h => ?_) (fun e17 h => ?_)
  · refine w_tsIn (q := 105) C 10 e17 dX11_count_6 (by decide) (by decide) rfl (by decide) ?_
    refine w_aload_n C dX11_count_105 rfl 0 rfl ?_
    refine w_get C 0 16 (Nat.le_of_ble_eq_true rfl) rfl rfl inB_X11 (by decide) tw6_177 rfl dX11_count_106 rfl ?_
    refine w_iload_n C dX11_count_109 rfl 1 rfl ?_
    refine w_bipush C 9 dX11_count_110 rfl (by decide) ?_
    refine w_isub C dX11_count_112 rfl ?_
    refine w_iald C 16 3 0 (Nat.le_of_ble_eq_true rfl) (fun _ => rfl) rfl h dX11_count_113 rfl (fun h => ?_)
    exact w_ri2 hr h (by decide) dX11_count_114
  refine if_w h (fun e18 h => ?_) (fun e18 h => ?_)
  · refine w_tsIn (q := 105) C 11 e18 dX11_count_6 (by decide) (by decide) rfl (by decide) ?_
    refine w_aload_n C dX11_count_105 rfl 0 rfl ?_
    refine w_get C 0 16 (Nat.le_of_ble_eq_true rfl) rfl rfl inB_X11 (by decide) tw6_177 rfl dX11_count_106 rfl ?_
    refine w_iload_n C dX11_count_109 rfl 1 rfl ?_
    refine w_bipush C 9 dX11_count_110 rfl (by decide) ?_
    refine w_isub C dX11_count_112 rfl ?_
    refine w_iald C 16 3 0 (Nat.le_of_ble_eq_true rfl) (fun _ => rfl) rfl h dX11_count_113 rfl (fun h => ?_)
    exact w_ri2 hr h (by decide) dX11_count_114
  refine w_tsOut (q := 115) C dX11_count_6 (ts_out (0) 11 (by decide) (fun k hk => by
    have hk : k = 0 ∨ k = 1 ∨ k = 2 ∨ k = 3 ∨ k = 4 ∨ k = 5 ∨ k = 6 ∨ k = 7 ∨ k = 8 ∨ k = 9 ∨ k = 10 ∨ k = 11 := by omega
    rcases hk with rfl | rfl | rfl | rfl | rfl | rfl | rfl | rfl | rfl | rfl | rfl | rfl
    exacts [e3, e4, e5, e6, e9, e12, e13, e14, e15, e16, e17, e18])) (by decide) ?_
  refine w_aload_n C dX11_count_115 rfl 0 rfl ?_
  refine w_iconst C 1 dX11_count_116 rfl (by decide) ?_
  refine bd2_w h (fun r19 u20 hc h => ?_)
  refine w_callVi C (As := [.int 1]) (st := []) 0 (Nat.le_of_ble_eq_true rfl) rfl rfl (cfX11_fail D cI cT ad (l := X.2.1) C.2.2.1 hc) tw7_117 cy_X11_fail (by decide +kernel) ⟨Nat.le_of_ble_eq_true rfl, Nat.le_of_ble_eq_true rfl⟩ (by decide) rfl rfl (Nat.le_of_ble_eq_true rfl) dX11_count_117 rfl ?_
  exact w_ri2 hr h (by decide) dX11_count_120
theorem cfX11_count (D : va_G) (cI cT : ClassId) (ad : Nat → Nat) {l : Launch} (had : gAp (gM D cI cT ad)) {F : Nat} {σ : St} {a0 : Int32} {r : Int32} {σ' : St} (h : fX11_count F σ a0 = some (r, σ')) : MI l yX11_count (wB yX11_count cX11_count 2 (some .int)) 8 187 (gM D cI cT ad) [.ref (ad 0), .int a0] σ r σ' := mk_MI had (by decide +kernel) (Nat.le_of_ble_eq_true rfl) (fun X hX C hr => wfX11_count C hr h)

def fX11_knees (F : Nat) (σ : St) (a0 : Int32) : Option (Int32 × St) := nm (up σ 0 4 0) fun u2 => bd1 (fX11_isValley F u2 a0) fun r3 => if r3 = 0 then (bd2 (fX11_fail F u2 1) fun r4 u5 => some (r4, u5)) else ckI (a0) 12 (some (u2 6 (Int32.toNatClampNeg a0), u2))
set_option maxRecDepth 20000 in
theorem wfX11_knees {X : XT} {D : va_G} {cI cT : ClassId} {ad : Nat → Nat} {F : Nat} {σ : St} {a0 : Int32} {r : Int32} {σ' : St} (C : Cx X (gM D cI cT ad) cX11_knees 2 RX11 2 46 0) (hr : RetI X (gM D cI cT ad) cX11_knees 2 0 r σ') (h : fX11_knees F σ a0 = some (r, σ')) : WP X (gM D cI cT ad) 2 0 0 σ [(0, .ref (ad 0)), (1, .int a0)] [] := by
  unfold fX11_knees at h
  refine w_aload_n C dX11_knees_0 rfl 0 rfl ?_
  refine w_iconst C 0 dX11_knees_1 rfl (by decide) ?_
  refine w_put C 0 4 0 (Nat.le_of_ble_eq_true rfl) rfl rfl inB_X11 tyX11_ok nmX11 (by decide) tw6_165 rfl rfl rfl (Nat.le_of_ble_eq_true rfl) rfl dX11_knees_2 rfl ?_
  refine w_nst h (fun u2 h => ?_)
  refine w_aload_n C dX11_knees_5 rfl 0 rfl ?_
  refine w_iload_n C dX11_knees_6 rfl 1 rfl ?_
  refine bd1_w h (fun r3 hc h => ?_)
  refine w_callVi C (As := [.int a0]) (st := []) 0 (Nat.le_of_ble_eq_true rfl) rfl rfl (cfX11_isValley D cI cT ad (l := X.2.1) C.2.2.1 hc) tw8_95 cy_X11_isValley (by decide +kernel) ⟨Nat.le_of_ble_eq_true rfl, Nat.le_of_ble_eq_true rfl⟩ (by decide) rfl rfl (Nat.le_of_ble_eq_true rfl) dX11_knees_7 rfl ?_
  refine w_if_eq C (qt := 22) dX11_knees_10 (by decide) rfl h (fun _ h => ?_) (fun _ h => ?_)
  · refine w_aload_n C dX11_knees_22 rfl 0 rfl ?_
    refine w_iconst C 1 dX11_knees_23 rfl (by decide) ?_
    refine bd2_w h (fun r4 u5 hc h => ?_)
    refine w_callVi C (As := [.int 1]) (st := []) 0 (Nat.le_of_ble_eq_true rfl) rfl rfl (cfX11_fail D cI cT ad (l := X.2.1) C.2.2.1 hc) tw7_117 cy_X11_fail (by decide +kernel) ⟨Nat.le_of_ble_eq_true rfl, Nat.le_of_ble_eq_true rfl⟩ (by decide) rfl rfl (Nat.le_of_ble_eq_true rfl) dX11_knees_24 rfl ?_
    exact w_ri2 hr h (by decide) dX11_knees_27
  · refine w_aload_n C dX11_knees_13 rfl 0 rfl ?_
    refine w_get C 0 6 (Nat.le_of_ble_eq_true rfl) rfl rfl inB_X11 (by decide) tw6_167 rfl dX11_knees_14 rfl ?_
    refine w_iload_n C dX11_knees_17 rfl 1 rfl ?_
    refine w_iald C 6 12 0 (Nat.le_of_ble_eq_true rfl) (fun _ => rfl) rfl h dX11_knees_18 rfl (fun h => ?_)
    refine w_goto (q := 27) C dX11_knees_19 (by decide) ?_
    exact w_ri2 hr h (by decide) dX11_knees_27
theorem cfX11_knees (D : va_G) (cI cT : ClassId) (ad : Nat → Nat) {l : Launch} (had : gAp (gM D cI cT ad)) {F : Nat} {σ : St} {a0 : Int32} {r : Int32} {σ' : St} (h : fX11_knees F σ a0 = some (r, σ')) : MI l yX11_knees (wB yX11_knees cX11_knees 2 (some .int)) 2 46 (gM D cI cT ad) [.ref (ad 0), .int a0] σ r σ' := mk_MI had (by decide +kernel) (Nat.le_of_ble_eq_true rfl) (fun X hX C hr => wfX11_knees C hr h)

def fX11_dance (F : Nat) (σ : St) (a0 : Int32) (a1 : Int32) : Option (Int32 × St) := nm (up σ 0 4 0) fun u2 => bd1 (fX11_isDance F u2 a0) fun r3 => if r3 = 0 then (bd2 (fX11_fail F u2 1) fun r19 u20 => some (r19, u20)) else if a1 = 0 then (ckI (a0) 16 (some (u2 7 (Int32.toNatClampNeg a0), u2))) else if a1 = 1 then (ckI (a0) 16 (some (u2 8 (Int32.toNatClampNeg a0), u2))) else if a1 = 2 then (ckI (a0) 16 (some (u2 9 (Int32.toNatClampNeg a0), u2))) else if a1 = 3 then (ckI (a0) 16 (some (u2 10 (Int32.toNatClampNeg a0), u2))) else if a1 = 4 then (ckI (a0) 8 (some ((u2 0 31) - (u2 18 (Int32.toNatClampNeg a0)), u2))) else if a1 = 5 then (bd1 (fX11_isOf F u2 (u2 0 32) a0) fun r9 => if r9 = 0 then (some (0, u2)) else some (1, u2)) else if a1 = 6 then (bd2 (fX11_isBinding F u2 a0) fun r11 u12 => if r11 = 0 then (some (0, u12)) else some (1, u12)) else if a1 = 7 then (ckI (a0) 16 (bd2 (fX11_danceTo F u2 a0 (u2 10 (Int32.toNatClampNeg a0))) fun r14 u15 => ckI (a0) 16 (if r14 = (u15 10 (Int32.toNatClampNeg a0)) then (some ((-1), u15)) else some (r14, u15)))) else bd2 (fX11_fail F u2 1) fun r17 u18 => some (r17, u18)
set_option maxRecDepth 20000 in
theorem wfX11_dance {X : XT} {D : va_G} {cI cT : ClassId} {ad : Nat → Nat} {F : Nat} {σ : St} {a0 : Int32} {a1 : Int32} {r : Int32} {σ' : St} (C : Cx X (gM D cI cT ad) cX11_dance 4 RX11 6 140 0) (hr : RetI X (gM D cI cT ad) cX11_dance 4 0 r σ') (h : fX11_dance F σ a0 a1 = some (r, σ')) : WP X (gM D cI cT ad) 4 0 0 σ [(0, .ref (ad 0)), (1, .int a0), (2, .int a1)] [] := by
  unfold fX11_dance at h
  refine w_aload_n C dX11_dance_0 rfl 0 rfl ?_
  refine w_iconst C 0 dX11_dance_1 rfl (by decide) ?_
  refine w_put C 0 4 0 (Nat.le_of_ble_eq_true rfl) rfl rfl inB_X11 tyX11_ok nmX11 (by decide) tw6_165 rfl rfl rfl (Nat.le_of_ble_eq_true rfl) rfl dX11_dance_2 rfl ?_
  refine w_nst h (fun u2 h => ?_)
  refine w_aload_n C dX11_dance_5 rfl 0 rfl ?_
  refine w_iload_n C dX11_dance_6 rfl 1 rfl ?_
  refine bd1_w h (fun r3 hc h => ?_)
  refine w_callVi C (As := [.int a0]) (st := []) 0 (Nat.le_of_ble_eq_true rfl) rfl rfl (cfX11_isDance D cI cT ad (l := X.2.1) C.2.2.1 hc) tw8_106 cy_X11_isDance (by decide +kernel) ⟨Nat.le_of_ble_eq_true rfl, Nat.le_of_ble_eq_true rfl⟩ (by decide) rfl rfl (Nat.le_of_ble_eq_true rfl) dX11_dance_7 rfl ?_
  refine w_if_ne C (qt := 19) dX11_dance_10 (by decide) rfl h (fun _ h => ?_) (fun _ h => ?_)
  · refine w_iload_n C dX11_dance_19 rfl 2 rfl ?_
    refine if_w h (fun e4 h => ?_) (fun e4 h => ?_)
    · refine w_tsIn (q := 68) C 0 e4 dX11_dance_20 (by decide) (by decide) rfl (by decide) ?_
      refine w_aload_n C dX11_dance_68 rfl 0 rfl ?_
      refine w_get C 0 7 (Nat.le_of_ble_eq_true rfl) rfl rfl inB_X11 (by decide) tw6_168 rfl dX11_dance_69 rfl ?_
      refine w_iload_n C dX11_dance_72 rfl 1 rfl ?_
      refine w_iald C 7 16 0 (Nat.le_of_ble_eq_true rfl) (fun _ => rfl) rfl h dX11_dance_73 rfl (fun h => ?_)
      exact w_ri2 hr h (by decide) dX11_dance_74
    refine if_w h (fun e5 h => ?_) (fun e5 h => ?_)
    · refine w_tsIn (q := 75) C 1 e5 dX11_dance_20 (by decide) (by decide) rfl (by decide) ?_
      refine w_aload_n C dX11_dance_75 rfl 0 rfl ?_
      refine w_get C 0 8 (Nat.le_of_ble_eq_true rfl) rfl rfl inB_X11 (by decide) tw6_169 rfl dX11_dance_76 rfl ?_
      refine w_iload_n C dX11_dance_79 rfl 1 rfl ?_
      refine w_iald C 8 16 0 (Nat.le_of_ble_eq_true rfl) (fun _ => rfl) rfl h dX11_dance_80 rfl (fun h => ?_)
      exact w_ri2 hr h (by decide) dX11_dance_81
    refine if_w h (fun e6 h => ?_) (fun e6 h => ?_)
    · refine w_tsIn (q := 82) C 2 e6 dX11_dance_20 (by decide) (by decide) rfl (by decide) ?_
      refine w_aload_n C dX11_dance_82 rfl 0 rfl ?_
      refine w_get C 0 9 (Nat.le_of_ble_eq_true rfl) rfl rfl inB_X11 (by decide) tw6_170 rfl dX11_dance_83 rfl ?_
      refine w_iload_n C dX11_dance_86 rfl 1 rfl ?_
      refine w_iald C 9 16 0 (Nat.le_of_ble_eq_true rfl) (fun _ => rfl) rfl h dX11_dance_87 rfl (fun h => ?_)
      exact w_ri2 hr h (by decide) dX11_dance_88
    refine if_w h (fun e7 h => ?_) (fun e7 h => ?_)
    · refine w_tsIn (q := 89) C 3 e7 dX11_dance_20 (by decide) (by decide) rfl (by decide) ?_
      refine w_aload_n C dX11_dance_89 rfl 0 rfl ?_
      refine w_get C 0 10 (Nat.le_of_ble_eq_true rfl) rfl rfl inB_X11 (by decide) tw6_171 rfl dX11_dance_90 rfl ?_
      refine w_iload_n C dX11_dance_93 rfl 1 rfl ?_
      refine w_iald C 10 16 0 (Nat.le_of_ble_eq_true rfl) (fun _ => rfl) rfl h dX11_dance_94 rfl (fun h => ?_)
      exact w_ri2 hr h (by decide) dX11_dance_95
    refine if_w h (fun e8 h => ?_) (fun e8 h => ?_)
    · refine w_tsIn (q := 96) C 4 e8 dX11_dance_20 (by decide) (by decide) rfl (by decide) ?_
      refine w_aload_n C dX11_dance_96 rfl 0 rfl ?_
      refine w_get C 0 31 (Nat.le_of_ble_eq_true rfl) rfl rfl inB_X11 (by decide) tw6_192 rfl dX11_dance_97 rfl ?_
      refine w_aload_n C dX11_dance_100 rfl 0 rfl ?_
      refine w_get C 0 28 (Nat.le_of_ble_eq_true rfl) rfl rfl inB_X11 (by decide) tw6_189 rfl dX11_dance_101 rfl ?_
      refine w_iload_n C dX11_dance_104 rfl 1 rfl ?_
      refine w_iald C 18 8 0 (Nat.le_of_ble_eq_true rfl) (fun _ => rfl) rfl h dX11_dance_105 rfl (fun h => ?_)
      refine w_isub C dX11_dance_106 rfl ?_
      exact w_ri2 hr h (by decide) dX11_dance_107
    refine if_w h (fun e10 h => ?_) (fun e10 h => ?_)
    · refine w_tsIn (q := 108) C 5 e10 dX11_dance_20 (by decide) (by decide) rfl (by decide) ?_
      refine w_aload_n C dX11_dance_108 rfl 0 rfl ?_
      refine w_get C 0 32 (Nat.le_of_ble_eq_true rfl) rfl rfl inB_X11 (by decide) tw6_193 rfl dX11_dance_109 rfl ?_
      refine w_iload_n C dX11_dance_112 rfl 1 rfl ?_
      refine bd1_w h (fun r9 hc h => ?_)
      refine w_callSi C (As := [.int (u2 0 32), .int a0]) (st := []) (cfX11_isOf D cI cT ad (l := X.2.1) C.2.2.1 hc) tw8_9 cs_X11_isOf (by decide +kernel) ⟨Nat.le_of_ble_eq_true rfl, Nat.le_of_ble_eq_true rfl⟩ (by decide) rfl rfl (Nat.le_of_ble_eq_true rfl) dX11_dance_113 rfl ?_
      refine w_if_eq C (qt := 123) dX11_dance_116 (by decide) rfl h (fun _ h => ?_) (fun _ h => ?_)
      · refine w_iconst C 0 dX11_dance_123 rfl (by decide) ?_
        exact w_ri2 hr h (by decide) dX11_dance_124
      · refine w_iconst C 1 dX11_dance_119 rfl (by decide) ?_
        refine w_goto (q := 124) C dX11_dance_120 (by decide) ?_
        exact w_ri2 hr h (by decide) dX11_dance_124
    refine if_w h (fun e13 h => ?_) (fun e13 h => ?_)
    · refine w_tsIn (q := 125) C 6 e13 dX11_dance_20 (by decide) (by decide) rfl (by decide) ?_
      refine w_aload_n C dX11_dance_125 rfl 0 rfl ?_
      refine w_iload_n C dX11_dance_126 rfl 1 rfl ?_
      refine bd2_w h (fun r11 u12 hc h => ?_)
      refine w_callVi C (As := [.int a0]) (st := []) 0 (Nat.le_of_ble_eq_true rfl) rfl rfl (cfX11_isBinding D cI cT ad (l := X.2.1) C.2.2.1 hc) tw8_5 cy_X11_isBinding (by decide +kernel) ⟨Nat.le_of_ble_eq_true rfl, Nat.le_of_ble_eq_true rfl⟩ (by decide) rfl rfl (Nat.le_of_ble_eq_true rfl) dX11_dance_127 rfl ?_
      refine w_if_eq C (qt := 137) dX11_dance_130 (by decide) rfl h (fun _ h => ?_) (fun _ h => ?_)
      · refine w_iconst C 0 dX11_dance_137 rfl (by decide) ?_
        exact w_ri2 hr h (by decide) dX11_dance_138
      · refine w_iconst C 1 dX11_dance_133 rfl (by decide) ?_
        refine w_goto (q := 138) C dX11_dance_134 (by decide) ?_
        exact w_ri2 hr h (by decide) dX11_dance_138
    refine if_w h (fun e16 h => ?_) (fun e16 h => ?_)
    · refine w_tsIn (q := 139) C 7 e16 dX11_dance_20 (by decide) (by decide) rfl (by decide) ?_
      refine w_aload_n C dX11_dance_139 rfl 0 rfl ?_
      refine w_iload_n C dX11_dance_140 rfl 1 rfl ?_
      refine w_aload_n C dX11_dance_141 rfl 0 rfl ?_
      refine w_get C 0 10 (Nat.le_of_ble_eq_true rfl) rfl rfl inB_X11 (by decide) tw6_171 rfl dX11_dance_142 rfl ?_
      refine w_iload_n C dX11_dance_145 rfl 1 rfl ?_
      refine w_iald C 10 16 0 (Nat.le_of_ble_eq_true rfl) (fun _ => rfl) rfl h dX11_dance_146 rfl (fun h => ?_)
      refine bd2_w h (fun r14 u15 hc h => ?_)
      refine w_callVi C (As := [.int a0, .int (u2 10 (Int32.toNatClampNeg a0))]) (st := []) 0 (Nat.le_of_ble_eq_true rfl) rfl rfl (cfX11_danceTo D cI cT ad (l := X.2.1) C.2.2.1 hc) tw8_16 cy_X11_danceTo (by decide +kernel) ⟨Nat.le_of_ble_eq_true rfl, Nat.le_of_ble_eq_true rfl⟩ (by decide) rfl rfl (Nat.le_of_ble_eq_true rfl) dX11_dance_147 rfl ?_
      refine w_istore_n C [(3, .int r14), (0, .ref (ad 0)), (1, .int a0), (2, .int a1)] dX11_dance_150 rfl (by decide) rfl ?_
      refine w_iload_n C dX11_dance_151 rfl 0 rfl ?_
      refine w_aload_n C dX11_dance_152 rfl 1 rfl ?_
      refine w_get C 0 10 (Nat.le_of_ble_eq_true rfl) rfl rfl inB_X11 (by decide) tw6_171 rfl dX11_dance_153 rfl ?_
      refine w_iload_n C dX11_dance_156 rfl 2 rfl ?_
      refine w_iald C 10 16 0 (Nat.le_of_ble_eq_true rfl) (fun _ => rfl) rfl h dX11_dance_157 rfl (fun h => ?_)
      refine w_icmp_ne C (qt := 165) dX11_dance_158 (by decide) rfl h (fun _ h => ?_) (fun _ h => ?_)
      · refine w_iload_n C dX11_dance_165 rfl 0 rfl ?_
        exact w_ri2 hr h (by decide) dX11_dance_166
      · refine w_iconst C (-1) dX11_dance_161 rfl (by decide) ?_
        refine w_goto (q := 166) C dX11_dance_162 (by decide) ?_
        exact w_ri2 hr h (by decide) dX11_dance_166
    refine w_tsOut (q := 167) C dX11_dance_20 (ts_out (0) 7 (by decide) (fun k hk => by
      have hk : k = 0 ∨ k = 1 ∨ k = 2 ∨ k = 3 ∨ k = 4 ∨ k = 5 ∨ k = 6 ∨ k = 7 := by omega
      rcases hk with rfl | rfl | rfl | rfl | rfl | rfl | rfl | rfl
      exacts [e4, e5, e6, e7, e8, e10, e13, e16])) (by decide) ?_
    refine w_aload_n C dX11_dance_167 rfl 0 rfl ?_
    refine w_iconst C 1 dX11_dance_168 rfl (by decide) ?_
    refine bd2_w h (fun r17 u18 hc h => ?_)
    refine w_callVi C (As := [.int 1]) (st := []) 0 (Nat.le_of_ble_eq_true rfl) rfl rfl (cfX11_fail D cI cT ad (l := X.2.1) C.2.2.1 hc) tw7_117 cy_X11_fail (by decide +kernel) ⟨Nat.le_of_ble_eq_true rfl, Nat.le_of_ble_eq_true rfl⟩ (by decide) rfl rfl (Nat.le_of_ble_eq_true rfl) dX11_dance_169 rfl ?_
    exact w_ri2 hr h (by decide) dX11_dance_172
  · refine w_aload_n C dX11_dance_13 rfl 0 rfl ?_
    refine w_iconst C 1 dX11_dance_14 rfl (by decide) ?_
    refine bd2_w h (fun r19 u20 hc h => ?_)
    refine w_callVi C (As := [.int 1]) (st := []) 0 (Nat.le_of_ble_eq_true rfl) rfl rfl (cfX11_fail D cI cT ad (l := X.2.1) C.2.2.1 hc) tw7_117 cy_X11_fail (by decide +kernel) ⟨Nat.le_of_ble_eq_true rfl, Nat.le_of_ble_eq_true rfl⟩ (by decide) rfl rfl (Nat.le_of_ble_eq_true rfl) dX11_dance_15 rfl ?_
    exact w_ri2 hr h (by decide) dX11_dance_18
theorem cfX11_dance (D : va_G) (cI cT : ClassId) (ad : Nat → Nat) {l : Launch} (had : gAp (gM D cI cT ad)) {F : Nat} {σ : St} {a0 : Int32} {a1 : Int32} {r : Int32} {σ' : St} (h : fX11_dance F σ a0 a1 = some (r, σ')) : MI l yX11_dance (wB yX11_dance cX11_dance 4 (some .int)) 6 140 (gM D cI cT ad) [.ref (ad 0), .int a0, .int a1] σ r σ' := mk_MI had (by decide +kernel) (Nat.le_of_ble_eq_true rfl) (fun X hX C hr => wfX11_dance C hr h)

def fX11_step (F : Nat) (σ : St) (a0 : Int32) (a1 : Int32) (a2 : Int32) : Option (Int32 × St) := nm (up σ 0 4 0) fun u2 => bd1 (fX11_isStep F u2 a0 a1) fun r3 => jn (fun v4 : Unit => bd2 (fX11_fail F u2 1) fun r7 u8 => some (r7, u8)) fun J5 => if r3 = 0 then (J5 (())) else bd1 (fX11_isIn F u2 (Int32.toInt64 a2) 0 3) fun r9 => if r9 = 0 then (J5 (())) else nm ((10 * a0) + a1) fun x10 => if a2 = 0 then (ckI (x10) 160 (some (u2 11 (Int32.toNatClampNeg x10), u2))) else if a2 = 1 then (ckI (x10) 160 (some (u2 12 (Int32.toNatClampNeg x10), u2))) else if a2 = 2 then (ckI (x10) 160 (some (u2 13 (Int32.toNatClampNeg x10), u2))) else ckI (x10) 160 (some (u2 14 (Int32.toNatClampNeg x10), u2))
set_option maxRecDepth 20000 in
theorem wfX11_step {X : XT} {D : va_G} {cI cT : ClassId} {ad : Nat → Nat} {F : Nat} {σ : St} {a0 : Int32} {a1 : Int32} {a2 : Int32} {r : Int32} {σ' : St} (C : Cx X (gM D cI cT ad) cX11_step 5 RX11 3 68 0) (hr : RetI X (gM D cI cT ad) cX11_step 5 0 r σ') (h : fX11_step F σ a0 a1 a2 = some (r, σ')) : WP X (gM D cI cT ad) 5 0 0 σ [(0, .ref (ad 0)), (1, .int a0), (2, .int a1), (3, .int a2)] [] := by
  unfold fX11_step at h
  refine w_aload_n C dX11_step_0 rfl 0 rfl ?_
  refine w_iconst C 0 dX11_step_1 rfl (by decide) ?_
  refine w_put C 0 4 0 (Nat.le_of_ble_eq_true rfl) rfl rfl inB_X11 tyX11_ok nmX11 (by decide) tw6_165 rfl rfl rfl (Nat.le_of_ble_eq_true rfl) rfl dX11_step_2 rfl ?_
  refine w_nst h (fun u2 h => ?_)
  refine w_aload_n C dX11_step_5 rfl 0 rfl ?_
  refine w_iload_n C dX11_step_6 rfl 1 rfl ?_
  refine w_iload_n C dX11_step_7 rfl 2 rfl ?_
  refine bd1_w h (fun r3 hc h => ?_)
  refine w_callVi C (As := [.int a0, .int a1]) (st := []) 0 (Nat.le_of_ble_eq_true rfl) rfl rfl (cfX11_isStep D cI cT ad (l := X.2.1) C.2.2.1 hc) tw8_114 cy_X11_isStep (by decide +kernel) ⟨Nat.le_of_ble_eq_true rfl, Nat.le_of_ble_eq_true rfl⟩ (by decide) rfl rfl (Nat.le_of_ble_eq_true rfl) dX11_step_8 rfl ?_
  refine jn_w (fun v4 : Unit => WP X (gM D cI cT ad) 5 0 26 u2 [(0, .ref (ad 0))] []) h (fun v4 h => ?_) (fun J5 hJ6 h => ?_)
  · refine w_aload_n C dX11_step_26 rfl 0 rfl ?_
    refine w_iconst C 1 dX11_step_27 rfl (by decide) ?_
    refine bd2_w h (fun r7 u8 hc h => ?_)
    refine w_callVi C (As := [.int 1]) (st := []) 0 (Nat.le_of_ble_eq_true rfl) rfl rfl (cfX11_fail D cI cT ad (l := X.2.1) C.2.2.1 hc) tw7_117 cy_X11_fail (by decide +kernel) ⟨Nat.le_of_ble_eq_true rfl, Nat.le_of_ble_eq_true rfl⟩ (by decide) rfl rfl (Nat.le_of_ble_eq_true rfl) dX11_step_28 rfl ?_
    exact w_ri2 hr h (by decide) dX11_step_31
  · refine w_if_eq C (qt := 26) dX11_step_11 (by decide) rfl h (fun _ h => ?_) (fun _ h => ?_)
    · exact w_sub [0] rfl (hJ6 _ h)
    · refine w_iload_n C dX11_step_14 rfl 3 rfl ?_
      refine w_i2l C dX11_step_15 rfl ?_
      refine w_lconst C 0 dX11_step_16 rfl (by decide) ?_
      refine w_ldc2 C (3) dX11_step_17 rfl tw8_118 ?_
      refine bd1_w h (fun r9 hc h => ?_)
      refine w_callSi C (As := [.long (Int32.toInt64 a2), .long 0, .long 3]) (st := []) (cfX11_isIn D cI cT ad (l := X.2.1) C.2.2.1 hc) tw8_99 cs_X11_isIn (by decide +kernel) ⟨Nat.le_of_ble_eq_true rfl, Nat.le_of_ble_eq_true rfl⟩ (by decide) rfl rfl (Nat.le_of_ble_eq_true rfl) dX11_step_20 rfl ?_
      refine w_if_ne C (qt := 32) dX11_step_23 (by decide) rfl h (fun _ h => ?_) (fun _ h => ?_)
      · refine w_bipush C 10 dX11_step_32 rfl (by decide) ?_
        refine w_iload_n C dX11_step_34 rfl 1 rfl ?_
        refine w_imul C dX11_step_35 rfl ?_
        refine w_iload_n C dX11_step_36 rfl 2 rfl ?_
        refine w_iadd C dX11_step_37 rfl ?_
        refine w_nm h (fun x10 h => ?_)
        refine w_istore C [(4, .int x10), (0, .ref (ad 0)), (1, .int a0), (2, .int a1), (3, .int a2)] dX11_step_38 rfl (by decide) rfl ?_
        refine w_iload_n C dX11_step_40 rfl 4 rfl ?_
        refine w_if_ne C (qt := 54) dX11_step_41 (by decide) rfl h (fun _ h => ?_) (fun _ h => ?_)
        · refine w_iload_n C dX11_step_54 rfl 4 rfl ?_
          refine w_iconst C 1 dX11_step_55 rfl (by decide) ?_
          refine w_icmp_ne C (qt := 69) dX11_step_56 (by decide) rfl h (fun _ h => ?_) (fun _ h => ?_)
          · refine w_iload_n C dX11_step_69 rfl 4 rfl ?_
            refine w_iconst C 2 dX11_step_70 rfl (by decide) ?_
            refine w_icmp_ne C (qt := 84) dX11_step_71 (by decide) rfl h (fun _ h => ?_) (fun _ h => ?_)
            · refine w_aload_n C dX11_step_84 rfl 1 rfl ?_
              refine w_get C 0 14 (Nat.le_of_ble_eq_true rfl) rfl rfl inB_X11 (by decide) tw6_175 rfl dX11_step_85 rfl ?_
              refine w_iload C dX11_step_88 rfl 0 rfl ?_
              refine w_iald C 14 160 0 (Nat.le_of_ble_eq_true rfl) (fun _ => rfl) rfl h dX11_step_90 rfl (fun h => ?_)
              exact w_ri2 hr h (by decide) dX11_step_91
            · refine w_aload_n C dX11_step_74 rfl 1 rfl ?_
              refine w_get C 0 13 (Nat.le_of_ble_eq_true rfl) rfl rfl inB_X11 (by decide) tw6_174 rfl dX11_step_75 rfl ?_
              refine w_iload C dX11_step_78 rfl 0 rfl ?_
              refine w_iald C 13 160 0 (Nat.le_of_ble_eq_true rfl) (fun _ => rfl) rfl h dX11_step_80 rfl (fun h => ?_)
              refine w_goto (q := 91) C dX11_step_81 (by decide) ?_
              exact w_ri2 hr h (by decide) dX11_step_91
          · refine w_aload_n C dX11_step_59 rfl 1 rfl ?_
            refine w_get C 0 12 (Nat.le_of_ble_eq_true rfl) rfl rfl inB_X11 (by decide) tw6_173 rfl dX11_step_60 rfl ?_
            refine w_iload C dX11_step_63 rfl 0 rfl ?_
            refine w_iald C 12 160 0 (Nat.le_of_ble_eq_true rfl) (fun _ => rfl) rfl h dX11_step_65 rfl (fun h => ?_)
            refine w_goto (q := 91) C dX11_step_66 (by decide) ?_
            exact w_ri2 hr h (by decide) dX11_step_91
        · refine w_aload_n C dX11_step_44 rfl 1 rfl ?_
          refine w_get C 0 11 (Nat.le_of_ble_eq_true rfl) rfl rfl inB_X11 (by decide) tw6_172 rfl dX11_step_45 rfl ?_
          refine w_iload C dX11_step_48 rfl 0 rfl ?_
          refine w_iald C 11 160 0 (Nat.le_of_ble_eq_true rfl) (fun _ => rfl) rfl h dX11_step_50 rfl (fun h => ?_)
          refine w_goto (q := 91) C dX11_step_51 (by decide) ?_
          exact w_ri2 hr h (by decide) dX11_step_91
      · exact w_sub [0] rfl (hJ6 _ h)
theorem cfX11_step (D : va_G) (cI cT : ClassId) (ad : Nat → Nat) {l : Launch} (had : gAp (gM D cI cT ad)) {F : Nat} {σ : St} {a0 : Int32} {a1 : Int32} {a2 : Int32} {r : Int32} {σ' : St} (h : fX11_step F σ a0 a1 a2 = some (r, σ')) : MI l yX11_step (wB yX11_step cX11_step 5 (some .int)) 3 68 (gM D cI cT ad) [.ref (ad 0), .int a0, .int a1, .int a2] σ r σ' := mk_MI had (by decide +kernel) (Nat.le_of_ble_eq_true rfl) (fun X hX C hr => wfX11_step C hr h)

def fX11_where (F : Nat) (σ : St) (a0 : Int32) (a1 : Int32) (a2 : Int32) (a3 : Int32) : Option (Int32 × St) := nm (up σ 0 4 0) fun u2 => bd1 (fX11_isDance F u2 a0) fun r3 => jn (fun v4 : St => bd2 (fX11_fail F v4 1) fun r7 u8 => some (r7, u8)) fun J5 => if r3 = 0 then (J5 u2) else ckI (a0) 16 (bd1 (fX11_isIn F u2 (Int32.toInt64 a1) (-1) (Int32.toInt64 ((u2 10 (Int32.toNatClampNeg a0)) - 1))) fun r9 => if r9 = 0 then (J5 u2) else if a2 < 0 then (J5 u2) else if 1 < a2 then (J5 u2) else bd1 (fX11_isIn F u2 (Int32.toInt64 a3) 0 2) fun r10 => if r10 = 0 then (J5 u2) else bd2 (fX11_danceTo F u2 a0 (a1 + 1)) fun r11 u12 => if r11 = (a1 + 1) then (if a3 = 0 then (ckI (a2) 2 (some (u12 21 (Int32.toNatClampNeg a2), u12))) else if a3 = 1 then (ckI (a2) 2 (some (u12 22 (Int32.toNatClampNeg a2), u12))) else ckI (a2) 2 (some (u12 23 (Int32.toNatClampNeg a2), u12))) else J5 u12)
set_option maxRecDepth 20000 in
theorem wfX11_where {X : XT} {D : va_G} {cI cT : ClassId} {ad : Nat → Nat} {F : Nat} {σ : St} {a0 : Int32} {a1 : Int32} {a2 : Int32} {a3 : Int32} {r : Int32} {σ' : St} (C : Cx X (gM D cI cT ad) cX11_where 5 RX11 4 98 0) (hr : RetI X (gM D cI cT ad) cX11_where 5 0 r σ') (h : fX11_where F σ a0 a1 a2 a3 = some (r, σ')) : WP X (gM D cI cT ad) 5 0 0 σ [(0, .ref (ad 0)), (1, .int a0), (2, .int a1), (3, .int a2), (4, .int a3)] [] := by
  unfold fX11_where at h
  refine w_aload_n C dX11_where_0 rfl 0 rfl ?_
  refine w_iconst C 0 dX11_where_1 rfl (by decide) ?_
  refine w_put C 0 4 0 (Nat.le_of_ble_eq_true rfl) rfl rfl inB_X11 tyX11_ok nmX11 (by decide) tw6_165 rfl rfl rfl (Nat.le_of_ble_eq_true rfl) rfl dX11_where_2 rfl ?_
  refine w_nst h (fun u2 h => ?_)
  refine w_aload_n C dX11_where_5 rfl 0 rfl ?_
  refine w_iload_n C dX11_where_6 rfl 1 rfl ?_
  refine bd1_w h (fun r3 hc h => ?_)
  refine w_callVi C (As := [.int a0]) (st := []) 0 (Nat.le_of_ble_eq_true rfl) rfl rfl (cfX11_isDance D cI cT ad (l := X.2.1) C.2.2.1 hc) tw8_106 cy_X11_isDance (by decide +kernel) ⟨Nat.le_of_ble_eq_true rfl, Nat.le_of_ble_eq_true rfl⟩ (by decide) rfl rfl (Nat.le_of_ble_eq_true rfl) dX11_where_7 rfl ?_
  refine jn_w (fun v4 : St => WP X (gM D cI cT ad) 5 0 69 v4 [(0, .ref (ad 0))] []) h (fun v4 h => ?_) (fun J5 hJ6 h => ?_)
  · refine w_aload_n C dX11_where_69 rfl 0 rfl ?_
    refine w_iconst C 1 dX11_where_70 rfl (by decide) ?_
    refine bd2_w h (fun r7 u8 hc h => ?_)
    refine w_callVi C (As := [.int 1]) (st := []) 0 (Nat.le_of_ble_eq_true rfl) rfl rfl (cfX11_fail D cI cT ad (l := X.2.1) C.2.2.1 hc) tw7_117 cy_X11_fail (by decide +kernel) ⟨Nat.le_of_ble_eq_true rfl, Nat.le_of_ble_eq_true rfl⟩ (by decide) rfl rfl (Nat.le_of_ble_eq_true rfl) dX11_where_71 rfl ?_
    exact w_ri2 hr h (by decide) dX11_where_74
  · refine w_if_eq C (qt := 69) dX11_where_10 (by decide) rfl h (fun _ h => ?_) (fun _ h => ?_)
    · exact w_sub [0] rfl (hJ6 _ h)
    · refine w_iload_n C dX11_where_13 rfl 2 rfl ?_
      refine w_i2l C dX11_where_14 rfl ?_
      refine w_ldc2 C (-1) dX11_where_15 rfl tw8_123 ?_
      refine w_aload_n C dX11_where_18 rfl 0 rfl ?_
      refine w_get C 0 10 (Nat.le_of_ble_eq_true rfl) rfl rfl inB_X11 (by decide) tw6_171 rfl dX11_where_19 rfl ?_
      refine w_iload_n C dX11_where_22 rfl 1 rfl ?_
      refine w_iald C 10 16 0 (Nat.le_of_ble_eq_true rfl) (fun _ => rfl) rfl h dX11_where_23 rfl (fun h => ?_)
      refine w_iconst C 1 dX11_where_24 rfl (by decide) ?_
      refine w_isub C dX11_where_25 rfl ?_
      refine w_i2l C dX11_where_26 rfl ?_
      refine bd1_w h (fun r9 hc h => ?_)
      refine w_callSi C (As := [.long (Int32.toInt64 a1), .long (-1), .long (Int32.toInt64 ((u2 10 (Int32.toNatClampNeg a0)) - 1))]) (st := []) (cfX11_isIn D cI cT ad (l := X.2.1) C.2.2.1 hc) tw8_99 cs_X11_isIn (by decide +kernel) ⟨Nat.le_of_ble_eq_true rfl, Nat.le_of_ble_eq_true rfl⟩ (by decide) rfl rfl (Nat.le_of_ble_eq_true rfl) dX11_where_27 rfl ?_
      refine w_if_eq C (qt := 69) dX11_where_30 (by decide) rfl h (fun _ h => ?_) (fun _ h => ?_)
      · exact w_sub [0] rfl (hJ6 _ h)
      · refine w_iload_n C dX11_where_33 rfl 3 rfl ?_
        refine w_if_lt C (qt := 69) dX11_where_34 (by decide) rfl h (fun _ h => ?_) (fun _ h => ?_)
        · exact w_sub [0] rfl (hJ6 _ h)
        · refine w_iload_n C dX11_where_37 rfl 3 rfl ?_
          refine w_iconst C 1 dX11_where_38 rfl (by decide) ?_
          refine w_icmp_gt C (qt := 69) dX11_where_39 (by decide) rfl h (fun _ h => ?_) (fun _ h => ?_)
          · exact w_sub [0] rfl (hJ6 _ h)
          · refine w_iload C dX11_where_42 rfl 4 rfl ?_
            refine w_i2l C dX11_where_44 rfl ?_
            refine w_lconst C 0 dX11_where_45 rfl (by decide) ?_
            refine w_ldc2 C (2) dX11_where_46 rfl tw8_124 ?_
            refine bd1_w h (fun r10 hc h => ?_)
            refine w_callSi C (As := [.long (Int32.toInt64 a3), .long 0, .long 2]) (st := []) (cfX11_isIn D cI cT ad (l := X.2.1) C.2.2.1 hc) tw8_99 cs_X11_isIn (by decide +kernel) ⟨Nat.le_of_ble_eq_true rfl, Nat.le_of_ble_eq_true rfl⟩ (by decide) rfl rfl (Nat.le_of_ble_eq_true rfl) dX11_where_49 rfl ?_
            refine w_if_eq C (qt := 69) dX11_where_52 (by decide) rfl h (fun _ h => ?_) (fun _ h => ?_)
            · exact w_sub [0] rfl (hJ6 _ h)
            · refine w_aload_n C dX11_where_55 rfl 0 rfl ?_
              refine w_iload_n C dX11_where_56 rfl 1 rfl ?_
              refine w_iload_n C dX11_where_57 rfl 2 rfl ?_
              refine w_iconst C 1 dX11_where_58 rfl (by decide) ?_
              refine w_iadd C dX11_where_59 rfl ?_
              refine bd2_w h (fun r11 u12 hc h => ?_)
              refine w_callVi C (As := [.int a0, .int (a1 + 1)]) (st := []) 0 (Nat.le_of_ble_eq_true rfl) rfl rfl (cfX11_danceTo D cI cT ad (l := X.2.1) C.2.2.1 hc) tw8_16 cy_X11_danceTo (by decide +kernel) ⟨Nat.le_of_ble_eq_true rfl, Nat.le_of_ble_eq_true rfl⟩ (by decide) rfl rfl (Nat.le_of_ble_eq_true rfl) dX11_where_60 rfl ?_
              refine w_iload_n C dX11_where_63 rfl 2 rfl ?_
              refine w_iconst C 1 dX11_where_64 rfl (by decide) ?_
              refine w_iadd C dX11_where_65 rfl ?_
              refine w_icmp_eq C (qt := 75) dX11_where_66 (by decide) rfl h (fun _ h => ?_) (fun _ h => ?_)
              · refine w_iload C dX11_where_75 rfl 4 rfl ?_
                refine w_if_ne C (qt := 89) dX11_where_77 (by decide) rfl h (fun _ h => ?_) (fun _ h => ?_)
                · refine w_iload C dX11_where_89 rfl 4 rfl ?_
                  refine w_iconst C 1 dX11_where_91 rfl (by decide) ?_
                  refine w_icmp_ne C (qt := 104) dX11_where_92 (by decide) rfl h (fun _ h => ?_) (fun _ h => ?_)
                  · refine w_aload_n C dX11_where_104 rfl 0 rfl ?_
                    refine w_get C 0 37 (Nat.le_of_ble_eq_true rfl) rfl rfl inB_X11 (by decide) tw6_198 rfl dX11_where_105 rfl ?_
                    refine w_iload_n C dX11_where_108 rfl 3 rfl ?_
                    refine w_iald C 23 2 0 (Nat.le_of_ble_eq_true rfl) (fun _ => rfl) rfl h dX11_where_109 rfl (fun h => ?_)
                    exact w_ri2 hr h (by decide) dX11_where_110
                  · refine w_aload_n C dX11_where_95 rfl 0 rfl ?_
                    refine w_get C 0 36 (Nat.le_of_ble_eq_true rfl) rfl rfl inB_X11 (by decide) tw6_197 rfl dX11_where_96 rfl ?_
                    refine w_iload_n C dX11_where_99 rfl 3 rfl ?_
                    refine w_iald C 22 2 0 (Nat.le_of_ble_eq_true rfl) (fun _ => rfl) rfl h dX11_where_100 rfl (fun h => ?_)
                    refine w_goto (q := 110) C dX11_where_101 (by decide) ?_
                    exact w_ri2 hr h (by decide) dX11_where_110
                · refine w_aload_n C dX11_where_80 rfl 0 rfl ?_
                  refine w_get C 0 35 (Nat.le_of_ble_eq_true rfl) rfl rfl inB_X11 (by decide) tw6_196 rfl dX11_where_81 rfl ?_
                  refine w_iload_n C dX11_where_84 rfl 3 rfl ?_
                  refine w_iald C 21 2 0 (Nat.le_of_ble_eq_true rfl) (fun _ => rfl) rfl h dX11_where_85 rfl (fun h => ?_)
                  refine w_goto (q := 110) C dX11_where_86 (by decide) ?_
                  exact w_ri2 hr h (by decide) dX11_where_110
              · exact w_sub [0] rfl (hJ6 _ h)
theorem cfX11_where (D : va_G) (cI cT : ClassId) (ad : Nat → Nat) {l : Launch} (had : gAp (gM D cI cT ad)) {F : Nat} {σ : St} {a0 : Int32} {a1 : Int32} {a2 : Int32} {a3 : Int32} {r : Int32} {σ' : St} (h : fX11_where F σ a0 a1 a2 a3 = some (r, σ')) : MI l yX11_where (wB yX11_where cX11_where 5 (some .int)) 4 98 (gM D cI cT ad) [.ref (ad 0), .int a0, .int a1, .int a2, .int a3] σ r σ' := mk_MI had (by decide +kernel) (Nat.le_of_ble_eq_true rfl) (fun X hX C hr => wfX11_where C hr h)

def fX11_bound (F : Nat) (σ : St) (a0 : Int32) (a1 : Int32) : Option (Int32 × St) := nm (up σ 0 4 0) fun u2 => bd1 (fX11_isValley F u2 a0) fun r3 => jn (fun v4 : Unit => bd2 (fX11_fail F u2 1) fun r7 u8 => some (r7, u8)) fun J5 => if r3 = 0 then (J5 (())) else bd1 (fX11_isAbout F u2 a1) fun r9 => if r9 = 0 then (J5 (())) else bd2 (fX11_binding F u2) fun r10 u11 => bd2 (fX11_boundBy F u11 r10 a0 a1) fun r12 u13 => some (r12, u13)
set_option maxRecDepth 20000 in
theorem wfX11_bound {X : XT} {D : va_G} {cI cT : ClassId} {ad : Nat → Nat} {F : Nat} {σ : St} {a0 : Int32} {a1 : Int32} {r : Int32} {σ' : St} (C : Cx X (gM D cI cT ad) cX11_bound 3 RX11 7 162 0) (hr : RetI X (gM D cI cT ad) cX11_bound 3 0 r σ') (h : fX11_bound F σ a0 a1 = some (r, σ')) : WP X (gM D cI cT ad) 3 0 0 σ [(0, .ref (ad 0)), (1, .int a0), (2, .int a1)] [] := by
  unfold fX11_bound at h
  refine w_aload_n C dX11_bound_0 rfl 0 rfl ?_
  refine w_iconst C 0 dX11_bound_1 rfl (by decide) ?_
  refine w_put C 0 4 0 (Nat.le_of_ble_eq_true rfl) rfl rfl inB_X11 tyX11_ok nmX11 (by decide) tw6_165 rfl rfl rfl (Nat.le_of_ble_eq_true rfl) rfl dX11_bound_2 rfl ?_
  refine w_nst h (fun u2 h => ?_)
  refine w_aload_n C dX11_bound_5 rfl 0 rfl ?_
  refine w_iload_n C dX11_bound_6 rfl 1 rfl ?_
  refine bd1_w h (fun r3 hc h => ?_)
  refine w_callVi C (As := [.int a0]) (st := []) 0 (Nat.le_of_ble_eq_true rfl) rfl rfl (cfX11_isValley D cI cT ad (l := X.2.1) C.2.2.1 hc) tw8_95 cy_X11_isValley (by decide +kernel) ⟨Nat.le_of_ble_eq_true rfl, Nat.le_of_ble_eq_true rfl⟩ (by decide) rfl rfl (Nat.le_of_ble_eq_true rfl) dX11_bound_7 rfl ?_
  refine jn_w (fun v4 : Unit => WP X (gM D cI cT ad) 3 0 33 u2 [(0, .ref (ad 0))] []) h (fun v4 h => ?_) (fun J5 hJ6 h => ?_)
  · refine w_aload_n C dX11_bound_33 rfl 0 rfl ?_
    refine w_iconst C 1 dX11_bound_34 rfl (by decide) ?_
    refine bd2_w h (fun r7 u8 hc h => ?_)
    refine w_callVi C (As := [.int 1]) (st := []) 0 (Nat.le_of_ble_eq_true rfl) rfl rfl (cfX11_fail D cI cT ad (l := X.2.1) C.2.2.1 hc) tw7_117 cy_X11_fail (by decide +kernel) ⟨Nat.le_of_ble_eq_true rfl, Nat.le_of_ble_eq_true rfl⟩ (by decide) rfl rfl (Nat.le_of_ble_eq_true rfl) dX11_bound_35 rfl ?_
    exact w_ri2 hr h (by decide) dX11_bound_38
  · refine w_if_eq C (qt := 33) dX11_bound_10 (by decide) rfl h (fun _ h => ?_) (fun _ h => ?_)
    · exact w_sub [0] rfl (hJ6 _ h)
    · refine w_iload_n C dX11_bound_13 rfl 2 rfl ?_
      refine bd1_w h (fun r9 hc h => ?_)
      refine w_callSi C (As := [.int a1]) (st := []) (cfX11_isAbout D cI cT ad (l := X.2.1) C.2.2.1 hc) tw8_129 cs_X11_isAbout (by decide +kernel) ⟨Nat.le_of_ble_eq_true rfl, Nat.le_of_ble_eq_true rfl⟩ (by decide) rfl rfl (Nat.le_of_ble_eq_true rfl) dX11_bound_14 rfl ?_
      refine w_if_eq C (qt := 33) dX11_bound_17 (by decide) rfl h (fun _ h => ?_) (fun _ h => ?_)
      · exact w_sub [0] rfl (hJ6 _ h)
      · refine w_aload_n C dX11_bound_20 rfl 0 rfl ?_
        refine w_aload_n C dX11_bound_21 rfl 0 rfl ?_
        refine bd2_w h (fun r10 u11 hc h => ?_)
        refine w_callVi C (As := []) (st := [.ref (ad 0)]) 0 (Nat.le_of_ble_eq_true rfl) rfl rfl (cfX11_binding D cI cT ad (l := X.2.1) C.2.2.1 hc) tw8_1 cy_X11_binding (by decide +kernel) ⟨Nat.le_of_ble_eq_true rfl, Nat.le_of_ble_eq_true rfl⟩ (by decide) rfl rfl (Nat.le_of_ble_eq_true rfl) dX11_bound_22 rfl ?_
        refine w_iload_n C dX11_bound_25 rfl 1 rfl ?_
        refine w_iload_n C dX11_bound_26 rfl 2 rfl ?_
        refine bd2_w h (fun r12 u13 hc h => ?_)
        refine w_callVi C (As := [.int r10, .int a0, .int a1]) (st := []) 0 (Nat.le_of_ble_eq_true rfl) rfl rfl (cfX11_boundBy D cI cT ad (l := X.2.1) C.2.2.1 hc) tw8_52 cy_X11_boundBy (by decide +kernel) ⟨Nat.le_of_ble_eq_true rfl, Nat.le_of_ble_eq_true rfl⟩ (by decide) rfl rfl (Nat.le_of_ble_eq_true rfl) dX11_bound_27 rfl ?_
        refine w_goto (q := 38) C dX11_bound_30 (by decide) ?_
        exact w_ri2 hr h (by decide) dX11_bound_38
theorem cfX11_bound (D : va_G) (cI cT : ClassId) (ad : Nat → Nat) {l : Launch} (had : gAp (gM D cI cT ad)) {F : Nat} {σ : St} {a0 : Int32} {a1 : Int32} {r : Int32} {σ' : St} (h : fX11_bound F σ a0 a1 = some (r, σ')) : MI l yX11_bound (wB yX11_bound cX11_bound 3 (some .int)) 7 162 (gM D cI cT ad) [.ref (ad 0), .int a0, .int a1] σ r σ' := mk_MI had (by decide +kernel) (Nat.le_of_ble_eq_true rfl) (fun X hX C hr => wfX11_bound C hr h)

def fX11_clausesOf (F : Nat) (σ : St) (a0 : Int32) (a1 : Int32) (a2 : Int32) : Option Int32 := lp (fun (K2 : (Int32 × Int32) → Option Int32) (v1 : Int32 × Int32) => ckI (a0) 16 (if (σ 10 (Int32.toNatClampNeg a0)) ≤ v1.1 then (some v1.2) else nm ((10 * a0) + v1.1) fun x4 => jn (fun v5 : Int32 => if v5 = 0 then (nm (v1.2 + 0) fun x8 => K2 ((v1.1 + 1, x8))) else nm (v1.2 + 1) fun x9 => K2 ((v1.1 + 1, x9))) fun J6 => if a2 = 0 then (bd1 (fX11_binds F σ a0 v1.1 a1) fun r18 => J6 r18) else if a2 = 1 then (bd1 (fX11_isClause F σ a0 v1.1) fun r14 => jn (fun v15 : Unit => J6 0) fun J16 => if r14 = 0 then (J16 (())) else ckI (x4) 160 (if (σ 11 (Int32.toNatClampNeg x4)) = 2 then (ckI (x4) 160 (if (σ 12 (Int32.toNatClampNeg x4)) = (1 - a1) then (J6 1) else J16 (()))) else J16 (()))) else ckI (x4) 160 (jn (fun v10 : Unit => J6 0) fun J11 => if (σ 11 (Int32.toNatClampNeg x4)) = 3 then (bd1 (fX11_isOfHim F σ a0 v1.1 a1) fun r13 => if r13 = 0 then (J11 (())) else J6 1) else J11 (())))) F ((0, 0))
set_option maxRecDepth 20000 in
theorem wfX11_clausesOf {X : XT} {D : va_G} {cI cT : ClassId} {ad : Nat → Nat} {F : Nat} {σ : St} {a0 : Int32} {a1 : Int32} {a2 : Int32} {r : Int32} (C : Cx X (gM D cI cT ad) cX11_clausesOf 8 RX11 3 71 0) (hr : RetI X (gM D cI cT ad) cX11_clausesOf 8 0 r σ) (h : fX11_clausesOf F σ a0 a1 a2 = some r) : WP X (gM D cI cT ad) 8 0 0 σ [(0, .ref (ad 0)), (1, .int a0), (2, .int a1), (3, .int a2)] [] := by
  unfold fX11_clausesOf at h
  refine w_iconst C 0 dX11_clausesOf_0 rfl (by decide) ?_
  refine w_istore C [(4, .int 0), (0, .ref (ad 0)), (1, .int a0), (2, .int a1), (3, .int a2)] dX11_clausesOf_1 rfl (by decide) rfl ?_
  refine w_iconst C 0 dX11_clausesOf_3 rfl (by decide) ?_
  refine w_istore C [(5, .int 0), (4, .int 0), (0, .ref (ad 0)), (1, .int a0), (2, .int a1), (3, .int a2)] dX11_clausesOf_4 rfl (by decide) rfl ?_
  refine w_sub [0, 1, 2, 3, 4, 5] rfl ?_
  refine lp_w (fun v1 : Int32 × Int32 => WP X (gM D cI cT ad) 8 0 6 σ [(5, .int v1.1), (4, .int v1.2), (0, .ref (ad 0)), (1, .int a0), (2, .int a1), (3, .int a2)] []) (fun K2 hK3 v1 h => ?_) F _ h
  refine w_iload C dX11_clausesOf_6 rfl 0 rfl ?_
  refine w_aload_n C dX11_clausesOf_8 rfl 2 rfl ?_
  refine w_get C 0 10 (Nat.le_of_ble_eq_true rfl) rfl rfl inB_X11 (by decide) tw6_171 rfl dX11_clausesOf_9 rfl ?_
  refine w_iload_n C dX11_clausesOf_12 rfl 3 rfl ?_
  refine w_iald C 10 16 0 (Nat.le_of_ble_eq_true rfl) (fun _ => rfl) rfl h dX11_clausesOf_13 rfl (fun h => ?_)
  refine w_icmp_ge C (qt := 138) dX11_clausesOf_14 (by decide) rfl h (fun _ h => ?_) (fun _ h => ?_)
  · refine w_iload C dX11_clausesOf_138 rfl 1 rfl ?_
    exact w_ri1 hr h (by decide) dX11_clausesOf_140
  · refine w_bipush C 10 dX11_clausesOf_17 rfl (by decide) ?_
    refine w_iload_n C dX11_clausesOf_19 rfl 3 rfl ?_
    refine w_imul C dX11_clausesOf_20 rfl ?_
    refine w_iload C dX11_clausesOf_21 rfl 0 rfl ?_
    refine w_iadd C dX11_clausesOf_23 rfl ?_
    refine w_nm h (fun x4 h => ?_)
    refine w_istore C [(6, .int x4), (5, .int v1.1), (4, .int v1.2), (0, .ref (ad 0)), (1, .int a0), (2, .int a1), (3, .int a2)] dX11_clausesOf_24 rfl (by decide) rfl ?_
    refine w_iload_n C dX11_clausesOf_26 rfl 6 rfl ?_
    refine jn_w (fun v5 : Int32 => WP X (gM D cI cT ad) 8 0 115 σ [(5, .int v1.1), (4, .int v1.2), (0, .ref (ad 0)), (1, .int a0), (2, .int a1), (3, .int a2)] [.int v5]) h (fun v5 h => ?_) (fun J6 hJ7 h => ?_)
    · refine w_istore C [(7, .int v5), (5, .int v1.1), (4, .int v1.2), (0, .ref (ad 0)), (1, .int a0), (2, .int a1), (3, .int a2)] dX11_clausesOf_115 rfl (by decide) rfl ?_
      refine w_iload C dX11_clausesOf_117 rfl 2 rfl ?_
      refine w_iload C dX11_clausesOf_119 rfl 0 rfl ?_
      refine w_if_eq C (qt := 128) dX11_clausesOf_121 (by decide) rfl h (fun _ h => ?_) (fun _ h => ?_)
      · refine w_iconst C 0 dX11_clausesOf_128 rfl (by decide) ?_
        refine w_iadd C dX11_clausesOf_129 rfl ?_
        refine w_nm h (fun x8 h => ?_)
        refine w_istore C [(4, .int x8), (7, .int v5), (5, .int v1.1), (0, .ref (ad 0)), (1, .int a0), (2, .int a1), (3, .int a2)] dX11_clausesOf_130 rfl (by decide) rfl ?_
        refine w_iinc (j := 2) C (v1.1 + 1) [(5, .int (v1.1 + 1)), (4, .int x8), (7, .int v5), (0, .ref (ad 0)), (1, .int a0), (2, .int a1), (3, .int a2)] dX11_clausesOf_132 rfl rfl rfl (by decide) rfl ?_
        refine w_goto (q := 6) C dX11_clausesOf_135 (by decide) ?_
        exact w_sub [0, 1, 3, 4, 5, 6] rfl (hK3 _ h)
      · refine w_iconst C 1 dX11_clausesOf_124 rfl (by decide) ?_
        refine w_goto (q := 129) C dX11_clausesOf_125 (by decide) ?_
        refine w_iadd C dX11_clausesOf_129 rfl ?_
        refine w_nm h (fun x9 h => ?_)
        refine w_istore C [(4, .int x9), (7, .int v5), (5, .int v1.1), (0, .ref (ad 0)), (1, .int a0), (2, .int a1), (3, .int a2)] dX11_clausesOf_130 rfl (by decide) rfl ?_
        refine w_iinc (j := 2) C (v1.1 + 1) [(5, .int (v1.1 + 1)), (4, .int x9), (7, .int v5), (0, .ref (ad 0)), (1, .int a0), (2, .int a1), (3, .int a2)] dX11_clausesOf_132 rfl rfl rfl (by decide) rfl ?_
        refine w_goto (q := 6) C dX11_clausesOf_135 (by decide) ?_
        exact w_sub [0, 1, 3, 4, 5, 6] rfl (hK3 _ h)
    · refine w_if_ne C (qt := 41) dX11_clausesOf_27 (by decide) rfl h (fun _ h => ?_) (fun _ h => ?_)
      · refine w_iload_n C dX11_clausesOf_41 rfl 6 rfl ?_
        refine w_iconst C 1 dX11_clausesOf_42 rfl (by decide) ?_
        refine w_icmp_ne C (qt := 88) dX11_clausesOf_43 (by decide) rfl h (fun _ h => ?_) (fun _ h => ?_)
        · refine w_aload_n C dX11_clausesOf_88 rfl 3 rfl ?_
          refine w_get C 0 11 (Nat.le_of_ble_eq_true rfl) rfl rfl inB_X11 (by decide) tw6_172 rfl dX11_clausesOf_89 rfl ?_
          refine w_iload C dX11_clausesOf_92 rfl 0 rfl ?_
          refine w_iald C 11 160 0 (Nat.le_of_ble_eq_true rfl) (fun _ => rfl) rfl h dX11_clausesOf_94 rfl (fun h => ?_)
          refine w_iconst C 3 dX11_clausesOf_95 rfl (by decide) ?_
          refine jn_w (fun v10 : Unit => WP X (gM D cI cT ad) 8 0 114 σ [(5, .int v1.1), (4, .int v1.2), (0, .ref (ad 0)), (1, .int a0), (2, .int a1), (3, .int a2)] []) h (fun v10 h => ?_) (fun J11 hJ12 h => ?_)
          · refine w_iconst C 0 dX11_clausesOf_114 rfl (by decide) ?_
            exact w_sub [0, 1, 2, 3, 4, 5] rfl (hJ7 _ h)
          · refine w_icmp_ne C (qt := 114) dX11_clausesOf_96 (by decide) rfl h (fun _ h => ?_) (fun _ h => ?_)
            · exact w_sub [1, 2, 3, 4, 5, 6] rfl (hJ12 _ h)
            · refine w_aload_n C dX11_clausesOf_99 rfl 3 rfl ?_
              refine w_iload_n C dX11_clausesOf_100 rfl 4 rfl ?_
              refine w_iload C dX11_clausesOf_101 rfl 1 rfl ?_
              refine w_iload_n C dX11_clausesOf_103 rfl 5 rfl ?_
              refine bd1_w h (fun r13 hc h => ?_)
              refine w_callVi C (As := [.int a0, .int v1.1, .int a1]) (st := []) 0 (Nat.le_of_ble_eq_true rfl) rfl rfl (cfX11_isOfHim D cI cT ad (l := X.2.1) C.2.2.1 hc) tw8_72 cy_X11_isOfHim (by decide +kernel) ⟨Nat.le_of_ble_eq_true rfl, Nat.le_of_ble_eq_true rfl⟩ (by decide) rfl rfl (Nat.le_of_ble_eq_true rfl) dX11_clausesOf_104 rfl ?_
              refine w_if_eq C (qt := 114) dX11_clausesOf_107 (by decide) rfl h (fun _ h => ?_) (fun _ h => ?_)
              · exact w_sub [1, 2, 3, 4, 5, 6] rfl (hJ12 _ h)
              · refine w_iconst C 1 dX11_clausesOf_110 rfl (by decide) ?_
                refine w_goto (q := 115) C dX11_clausesOf_111 (by decide) ?_
                exact w_sub [1, 2, 3, 4, 5, 6] rfl (hJ7 _ h)
        · refine w_aload_n C dX11_clausesOf_46 rfl 3 rfl ?_
          refine w_iload_n C dX11_clausesOf_47 rfl 4 rfl ?_
          refine w_iload C dX11_clausesOf_48 rfl 1 rfl ?_
          refine bd1_w h (fun r14 hc h => ?_)
          refine w_callVi C (As := [.int a0, .int v1.1]) (st := []) 0 (Nat.le_of_ble_eq_true rfl) rfl rfl (cfX11_isClause D cI cT ad (l := X.2.1) C.2.2.1 hc) tw8_68 cy_X11_isClause (by decide +kernel) ⟨Nat.le_of_ble_eq_true rfl, Nat.le_of_ble_eq_true rfl⟩ (by decide) rfl rfl (Nat.le_of_ble_eq_true rfl) dX11_clausesOf_50 rfl ?_
          refine jn_w (fun v15 : Unit => WP X (gM D cI cT ad) 8 0 84 σ [(5, .int v1.1), (4, .int v1.2), (0, .ref (ad 0)), (1, .int a0), (2, .int a1), (3, .int a2)] []) h (fun v15 h => ?_) (fun J16 hJ17 h => ?_)
          · refine w_iconst C 0 dX11_clausesOf_84 rfl (by decide) ?_
            refine w_goto (q := 115) C dX11_clausesOf_85 (by decide) ?_
            exact w_sub [0, 1, 2, 3, 4, 5] rfl (hJ7 _ h)
          · refine w_if_eq C (qt := 84) dX11_clausesOf_53 (by decide) rfl h (fun _ h => ?_) (fun _ h => ?_)
            · exact w_sub [1, 2, 3, 4, 5, 6] rfl (hJ17 _ h)
            · refine w_aload_n C dX11_clausesOf_56 rfl 3 rfl ?_
              refine w_get C 0 11 (Nat.le_of_ble_eq_true rfl) rfl rfl inB_X11 (by decide) tw6_172 rfl dX11_clausesOf_57 rfl ?_
              refine w_iload C dX11_clausesOf_60 rfl 0 rfl ?_
              refine w_iald C 11 160 0 (Nat.le_of_ble_eq_true rfl) (fun _ => rfl) rfl h dX11_clausesOf_62 rfl (fun h => ?_)
              refine w_iconst C 2 dX11_clausesOf_63 rfl (by decide) ?_
              refine w_icmp_ne C (qt := 84) dX11_clausesOf_64 (by decide) rfl h (fun _ h => ?_) (fun _ h => ?_)
              · exact w_sub [1, 2, 3, 4, 5, 6] rfl (hJ17 _ h)
              · refine w_aload_n C dX11_clausesOf_67 rfl 3 rfl ?_
                refine w_get C 0 12 (Nat.le_of_ble_eq_true rfl) rfl rfl inB_X11 (by decide) tw6_173 rfl dX11_clausesOf_68 rfl ?_
                refine w_iload C dX11_clausesOf_71 rfl 0 rfl ?_
                refine w_iald C 12 160 0 (Nat.le_of_ble_eq_true rfl) (fun _ => rfl) rfl h dX11_clausesOf_73 rfl (fun h => ?_)
                refine w_iconst C 1 dX11_clausesOf_74 rfl (by decide) ?_
                refine w_iload_n C dX11_clausesOf_75 rfl 5 rfl ?_
                refine w_isub C dX11_clausesOf_76 rfl ?_
                refine w_icmp_ne C (qt := 84) dX11_clausesOf_77 (by decide) rfl h (fun _ h => ?_) (fun _ h => ?_)
                · exact w_sub [1, 2, 3, 4, 5, 6] rfl (hJ17 _ h)
                · refine w_iconst C 1 dX11_clausesOf_80 rfl (by decide) ?_
                  refine w_goto (q := 115) C dX11_clausesOf_81 (by decide) ?_
                  exact w_sub [1, 2, 3, 4, 5, 6] rfl (hJ7 _ h)
      · refine w_aload_n C dX11_clausesOf_30 rfl 3 rfl ?_
        refine w_iload_n C dX11_clausesOf_31 rfl 4 rfl ?_
        refine w_iload C dX11_clausesOf_32 rfl 1 rfl ?_
        refine w_iload_n C dX11_clausesOf_34 rfl 5 rfl ?_
        refine bd1_w h (fun r18 hc h => ?_)
        refine w_callVi C (As := [.int a0, .int v1.1, .int a1]) (st := []) 0 (Nat.le_of_ble_eq_true rfl) rfl rfl (cfX11_binds D cI cT ad (l := X.2.1) C.2.2.1 hc) tw8_64 cy_X11_binds (by decide +kernel) ⟨Nat.le_of_ble_eq_true rfl, Nat.le_of_ble_eq_true rfl⟩ (by decide) rfl rfl (Nat.le_of_ble_eq_true rfl) dX11_clausesOf_35 rfl ?_
        refine w_goto (q := 115) C dX11_clausesOf_38 (by decide) ?_
        exact w_sub [1, 2, 3, 4, 5, 6] rfl (hJ7 _ h)
theorem cfX11_clausesOf (D : va_G) (cI cT : ClassId) (ad : Nat → Nat) {l : Launch} (had : gAp (gM D cI cT ad)) {F : Nat} {σ : St} {a0 : Int32} {a1 : Int32} {a2 : Int32} {r : Int32} (h : fX11_clausesOf F σ a0 a1 a2 = some r) : MI l yX11_clausesOf (wB yX11_clausesOf cX11_clausesOf 8 (some .int)) 3 71 (gM D cI cT ad) [.ref (ad 0), .int a0, .int a1, .int a2] σ r σ := mk_MI had (by decide +kernel) (Nat.le_of_ble_eq_true rfl) (fun X hX C hr => wfX11_clausesOf C hr h)

def fX11_clauses (F : Nat) (σ : St) (a0 : Int32) (a1 : Int32) : Option (Int32 × St) := nm (up σ 0 4 0) fun u2 => bd1 (fX11_isValley F u2 a0) fun r3 => jn (fun v4 : Unit => bd2 (fX11_fail F u2 1) fun r7 u8 => some (r7, u8)) fun J5 => if r3 = 0 then (J5 (())) else bd1 (fX11_isIn F u2 (Int32.toInt64 a1) 0 2) fun r9 => if r9 = 0 then (J5 (())) else lp (fun (K11 : (St × Int32 × Int32) → Option (Int32 × St)) (v10 : St × Int32 × Int32) => if (v10.1 5 1) ≤ v10.2.1 then (some (v10.2.2, v10.1)) else bd1 (fX11_roleOf F v10.1 a0 v10.2.1) fun r13 => if r13 = ((-1)) then (K11 ((v10.1, v10.2.1 + 1, v10.2.2))) else bd2 (fX11_isBinding F v10.1 v10.2.1) fun r14 u15 => if r14 = 0 then (K11 ((u15, v10.2.1 + 1, v10.2.2))) else bd1 (fX11_roleOf F u15 a0 v10.2.1) fun r16 => bd1 (fX11_clausesOf F u15 v10.2.1 r16 a1) fun r17 => nm (v10.2.2 + r17) fun x18 => K11 ((u15, v10.2.1 + 1, x18))) F ((u2, 0, 0))
set_option maxRecDepth 20000 in
theorem wfX11_clauses {X : XT} {D : va_G} {cI cT : ClassId} {ad : Nat → Nat} {F : Nat} {σ : St} {a0 : Int32} {a1 : Int32} {r : Int32} {σ' : St} (C : Cx X (gM D cI cT ad) cX11_clauses 5 RX11 6 140 0) (hr : RetI X (gM D cI cT ad) cX11_clauses 5 0 r σ') (h : fX11_clauses F σ a0 a1 = some (r, σ')) : WP X (gM D cI cT ad) 5 0 0 σ [(0, .ref (ad 0)), (1, .int a0), (2, .int a1)] [] := by
  unfold fX11_clauses at h
  refine w_aload_n C dX11_clauses_0 rfl 0 rfl ?_
  refine w_iconst C 0 dX11_clauses_1 rfl (by decide) ?_
  refine w_put C 0 4 0 (Nat.le_of_ble_eq_true rfl) rfl rfl inB_X11 tyX11_ok nmX11 (by decide) tw6_165 rfl rfl rfl (Nat.le_of_ble_eq_true rfl) rfl dX11_clauses_2 rfl ?_
  refine w_nst h (fun u2 h => ?_)
  refine w_aload_n C dX11_clauses_5 rfl 0 rfl ?_
  refine w_iload_n C dX11_clauses_6 rfl 1 rfl ?_
  refine bd1_w h (fun r3 hc h => ?_)
  refine w_callVi C (As := [.int a0]) (st := []) 0 (Nat.le_of_ble_eq_true rfl) rfl rfl (cfX11_isValley D cI cT ad (l := X.2.1) C.2.2.1 hc) tw8_95 cy_X11_isValley (by decide +kernel) ⟨Nat.le_of_ble_eq_true rfl, Nat.le_of_ble_eq_true rfl⟩ (by decide) rfl rfl (Nat.le_of_ble_eq_true rfl) dX11_clauses_7 rfl ?_
  refine jn_w (fun v4 : Unit => WP X (gM D cI cT ad) 5 0 25 u2 [(0, .ref (ad 0))] []) h (fun v4 h => ?_) (fun J5 hJ6 h => ?_)
  · refine w_aload_n C dX11_clauses_25 rfl 0 rfl ?_
    refine w_iconst C 1 dX11_clauses_26 rfl (by decide) ?_
    refine bd2_w h (fun r7 u8 hc h => ?_)
    refine w_callVi C (As := [.int 1]) (st := []) 0 (Nat.le_of_ble_eq_true rfl) rfl rfl (cfX11_fail D cI cT ad (l := X.2.1) C.2.2.1 hc) tw7_117 cy_X11_fail (by decide +kernel) ⟨Nat.le_of_ble_eq_true rfl, Nat.le_of_ble_eq_true rfl⟩ (by decide) rfl rfl (Nat.le_of_ble_eq_true rfl) dX11_clauses_27 rfl ?_
    exact w_ri2 hr h (by decide) dX11_clauses_30
  · refine w_if_eq C (qt := 25) dX11_clauses_10 (by decide) rfl h (fun _ h => ?_) (fun _ h => ?_)
    · exact w_sub [0] rfl (hJ6 _ h)
    · refine w_iload_n C dX11_clauses_13 rfl 2 rfl ?_
      refine w_i2l C dX11_clauses_14 rfl ?_
      refine w_lconst C 0 dX11_clauses_15 rfl (by decide) ?_
      refine w_ldc2 C (2) dX11_clauses_16 rfl tw8_124 ?_
      refine bd1_w h (fun r9 hc h => ?_)
      refine w_callSi C (As := [.long (Int32.toInt64 a1), .long 0, .long 2]) (st := []) (cfX11_isIn D cI cT ad (l := X.2.1) C.2.2.1 hc) tw8_99 cs_X11_isIn (by decide +kernel) ⟨Nat.le_of_ble_eq_true rfl, Nat.le_of_ble_eq_true rfl⟩ (by decide) rfl rfl (Nat.le_of_ble_eq_true rfl) dX11_clauses_19 rfl ?_
      refine w_if_ne C (qt := 31) dX11_clauses_22 (by decide) rfl h (fun _ h => ?_) (fun _ h => ?_)
      · refine w_iconst C 0 dX11_clauses_31 rfl (by decide) ?_
        refine w_istore_n C [(3, .int 0), (0, .ref (ad 0)), (1, .int a0), (2, .int a1)] dX11_clauses_32 rfl (by decide) rfl ?_
        refine w_iconst C 0 dX11_clauses_33 rfl (by decide) ?_
        refine w_istore C [(4, .int 0), (3, .int 0), (0, .ref (ad 0)), (1, .int a0), (2, .int a1)] dX11_clauses_34 rfl (by decide) rfl ?_
        refine w_sub [0, 1, 2, 3, 4] rfl ?_
        refine lp_w (fun v10 : St × Int32 × Int32 => WP X (gM D cI cT ad) 5 0 36 v10.1 [(4, .int v10.2.1), (3, .int v10.2.2), (0, .ref (ad 0)), (1, .int a0), (2, .int a1)] []) (fun K11 hK12 v10 h => ?_) F _ h
        refine w_iload C dX11_clauses_36 rfl 0 rfl ?_
        refine w_aload_n C dX11_clauses_38 rfl 2 rfl ?_
        refine w_get C 0 5 (Nat.le_of_ble_eq_true rfl) rfl rfl inB_X11 (by decide) tw6_166 rfl dX11_clauses_39 rfl ?_
        refine w_iconst C 1 dX11_clauses_42 rfl (by decide) ?_
        refine w_ialdc C 5 8 0 1 (Nat.le_of_ble_eq_true rfl) (fun _ => rfl) rfl (by decide) (by decide) dX11_clauses_43 rfl ?_
        refine w_icmp_ge C (qt := 90) dX11_clauses_44 (by decide) rfl h (fun _ h => ?_) (fun _ h => ?_)
        · refine w_iload_n C dX11_clauses_90 rfl 1 rfl ?_
          exact w_ri2 hr h (by decide) dX11_clauses_91
        · refine w_aload_n C dX11_clauses_47 rfl 2 rfl ?_
          refine w_iload_n C dX11_clauses_48 rfl 3 rfl ?_
          refine w_iload C dX11_clauses_49 rfl 0 rfl ?_
          refine bd1_w h (fun r13 hc h => ?_)
          refine w_callVi C (As := [.int a0, .int v10.2.1]) (st := []) 0 (Nat.le_of_ble_eq_true rfl) rfl rfl (cfX11_roleOf D cI cT ad (l := X.2.1) C.2.2.1 hc) tw8_60 cy_X11_roleOf (by decide +kernel) ⟨Nat.le_of_ble_eq_true rfl, Nat.le_of_ble_eq_true rfl⟩ (by decide) rfl rfl (Nat.le_of_ble_eq_true rfl) dX11_clauses_51 rfl ?_
          refine w_iconst C (-1) dX11_clauses_54 rfl (by decide) ?_
          refine w_icmp_eq C (qt := 84) dX11_clauses_55 (by decide) rfl h (fun _ h => ?_) (fun _ h => ?_)
          · refine w_iinc (j := 0) C (v10.2.1 + 1) [(4, .int (v10.2.1 + 1)), (3, .int v10.2.2), (0, .ref (ad 0)), (1, .int a0), (2, .int a1)] dX11_clauses_84 rfl rfl rfl (by decide) rfl ?_
            refine w_goto (q := 36) C dX11_clauses_87 (by decide) ?_
            exact w_sub [0, 1, 2, 3, 4] rfl (hK12 _ h)
          · refine w_aload_n C dX11_clauses_58 rfl 2 rfl ?_
            refine w_iload C dX11_clauses_59 rfl 0 rfl ?_
            refine bd2_w h (fun r14 u15 hc h => ?_)
            refine w_callVi C (As := [.int v10.2.1]) (st := []) 0 (Nat.le_of_ble_eq_true rfl) rfl rfl (cfX11_isBinding D cI cT ad (l := X.2.1) C.2.2.1 hc) tw8_5 cy_X11_isBinding (by decide +kernel) ⟨Nat.le_of_ble_eq_true rfl, Nat.le_of_ble_eq_true rfl⟩ (by decide) rfl rfl (Nat.le_of_ble_eq_true rfl) dX11_clauses_61 rfl ?_
            refine w_if_eq C (qt := 84) dX11_clauses_64 (by decide) rfl h (fun _ h => ?_) (fun _ h => ?_)
            · refine w_iinc (j := 0) C (v10.2.1 + 1) [(4, .int (v10.2.1 + 1)), (3, .int v10.2.2), (0, .ref (ad 0)), (1, .int a0), (2, .int a1)] dX11_clauses_84 rfl rfl rfl (by decide) rfl ?_
              refine w_goto (q := 36) C dX11_clauses_87 (by decide) ?_
              exact w_sub [0, 1, 2, 3, 4] rfl (hK12 _ h)
            · refine w_iload_n C dX11_clauses_67 rfl 1 rfl ?_
              refine w_aload_n C dX11_clauses_68 rfl 2 rfl ?_
              refine w_iload C dX11_clauses_69 rfl 0 rfl ?_
              refine w_aload_n C dX11_clauses_71 rfl 2 rfl ?_
              refine w_iload_n C dX11_clauses_72 rfl 3 rfl ?_
              refine w_iload C dX11_clauses_73 rfl 0 rfl ?_
              refine bd1_w h (fun r16 hc h => ?_)
              refine w_callVi C (As := [.int a0, .int v10.2.1]) (st := [.int v10.2.1, .ref (ad 0), .int v10.2.2]) 0 (Nat.le_of_ble_eq_true rfl) rfl rfl (cfX11_roleOf D cI cT ad (l := X.2.1) C.2.2.1 hc) tw8_60 cy_X11_roleOf (by decide +kernel) ⟨Nat.le_of_ble_eq_true rfl, Nat.le_of_ble_eq_true rfl⟩ (by decide) rfl rfl (Nat.le_of_ble_eq_true rfl) dX11_clauses_75 rfl ?_
              refine w_iload_n C dX11_clauses_78 rfl 4 rfl ?_
              refine bd1_w h (fun r17 hc h => ?_)
              refine w_callVi C (As := [.int v10.2.1, .int r16, .int a1]) (st := [.int v10.2.2]) 0 (Nat.le_of_ble_eq_true rfl) rfl rfl (cfX11_clausesOf D cI cT ad (l := X.2.1) C.2.2.1 hc) tw8_137 cy_X11_clausesOf (by decide +kernel) ⟨Nat.le_of_ble_eq_true rfl, Nat.le_of_ble_eq_true rfl⟩ (by decide) rfl rfl (Nat.le_of_ble_eq_true rfl) dX11_clauses_79 rfl ?_
              refine w_iadd C dX11_clauses_82 rfl ?_
              refine w_nm h (fun x18 h => ?_)
              refine w_istore_n C [(3, .int x18), (4, .int v10.2.1), (0, .ref (ad 0)), (1, .int a0), (2, .int a1)] dX11_clauses_83 rfl (by decide) rfl ?_
              refine w_iinc (j := 1) C (v10.2.1 + 1) [(4, .int (v10.2.1 + 1)), (3, .int x18), (0, .ref (ad 0)), (1, .int a0), (2, .int a1)] dX11_clauses_84 rfl rfl rfl (by decide) rfl ?_
              refine w_goto (q := 36) C dX11_clauses_87 (by decide) ?_
              exact w_sub [0, 1, 2, 3, 4] rfl (hK12 _ h)
      · exact w_sub [0] rfl (hJ6 _ h)
theorem cfX11_clauses (D : va_G) (cI cT : ClassId) (ad : Nat → Nat) {l : Launch} (had : gAp (gM D cI cT ad)) {F : Nat} {σ : St} {a0 : Int32} {a1 : Int32} {r : Int32} {σ' : St} (h : fX11_clauses F σ a0 a1 = some (r, σ')) : MI l yX11_clauses (wB yX11_clauses cX11_clauses 5 (some .int)) 6 140 (gM D cI cT ad) [.ref (ad 0), .int a0, .int a1] σ r σ' := mk_MI had (by decide +kernel) (Nat.le_of_ble_eq_true rfl) (fun X hX C hr => wfX11_clauses C hr h)

def fX11_done (F : Nat) (σ : St) (a0 : Int32) (a1 : Int32) (a2 : Int32) : Option (Int32 × St) := nm (up σ 0 4 0) fun u2 => bd1 (fX11_isValley F u2 a0) fun r3 => jn (fun v4 : Unit => bd2 (fX11_fail F u2 1) fun r7 u8 => some (r7, u8)) fun J5 => if r3 = 0 then (J5 (())) else bd1 (fX11_isAbout F u2 a1) fun r9 => if r9 = 0 then (J5 (())) else if a2 < 0 then (J5 (())) else if a2 ≤ 1 then (ckI ((8 * a0) + a1) 48 (nm (u2 19 (Int32.toNatClampNeg ((8 * a0) + a1))) fun x10 => if a2 = 0 then (some (x10, u2)) else bd2 (fX11_binding F u2) fun r11 u12 => bd2 (fX11_hasStamped F u12 r11 a0 a1 x10) fun r13 u14 => if r13 = 0 then (some (0, u14)) else some (1, u14))) else J5 (())
set_option maxRecDepth 20000 in
theorem wfX11_done {X : XT} {D : va_G} {cI cT : ClassId} {ad : Nat → Nat} {F : Nat} {σ : St} {a0 : Int32} {a1 : Int32} {a2 : Int32} {r : Int32} {σ' : St} (C : Cx X (gM D cI cT ad) cX11_done 5 RX11 7 162 0) (hr : RetI X (gM D cI cT ad) cX11_done 5 0 r σ') (h : fX11_done F σ a0 a1 a2 = some (r, σ')) : WP X (gM D cI cT ad) 5 0 0 σ [(0, .ref (ad 0)), (1, .int a0), (2, .int a1), (3, .int a2)] [] := by
  unfold fX11_done at h
  refine w_aload_n C dX11_done_0 rfl 0 rfl ?_
  refine w_iconst C 0 dX11_done_1 rfl (by decide) ?_
  refine w_put C 0 4 0 (Nat.le_of_ble_eq_true rfl) rfl rfl inB_X11 tyX11_ok nmX11 (by decide) tw6_165 rfl rfl rfl (Nat.le_of_ble_eq_true rfl) rfl dX11_done_2 rfl ?_
  refine w_nst h (fun u2 h => ?_)
  refine w_aload_n C dX11_done_5 rfl 0 rfl ?_
  refine w_iload_n C dX11_done_6 rfl 1 rfl ?_
  refine bd1_w h (fun r3 hc h => ?_)
  refine w_callVi C (As := [.int a0]) (st := []) 0 (Nat.le_of_ble_eq_true rfl) rfl rfl (cfX11_isValley D cI cT ad (l := X.2.1) C.2.2.1 hc) tw8_95 cy_X11_isValley (by decide +kernel) ⟨Nat.le_of_ble_eq_true rfl, Nat.le_of_ble_eq_true rfl⟩ (by decide) rfl rfl (Nat.le_of_ble_eq_true rfl) dX11_done_7 rfl ?_
  refine jn_w (fun v4 : Unit => WP X (gM D cI cT ad) 5 0 29 u2 [(0, .ref (ad 0))] []) h (fun v4 h => ?_) (fun J5 hJ6 h => ?_)
  · refine w_aload_n C dX11_done_29 rfl 0 rfl ?_
    refine w_iconst C 1 dX11_done_30 rfl (by decide) ?_
    refine bd2_w h (fun r7 u8 hc h => ?_)
    refine w_callVi C (As := [.int 1]) (st := []) 0 (Nat.le_of_ble_eq_true rfl) rfl rfl (cfX11_fail D cI cT ad (l := X.2.1) C.2.2.1 hc) tw7_117 cy_X11_fail (by decide +kernel) ⟨Nat.le_of_ble_eq_true rfl, Nat.le_of_ble_eq_true rfl⟩ (by decide) rfl rfl (Nat.le_of_ble_eq_true rfl) dX11_done_31 rfl ?_
    exact w_ri2 hr h (by decide) dX11_done_34
  · refine w_if_eq C (qt := 29) dX11_done_10 (by decide) rfl h (fun _ h => ?_) (fun _ h => ?_)
    · exact w_sub [0] rfl (hJ6 _ h)
    · refine w_iload_n C dX11_done_13 rfl 2 rfl ?_
      refine bd1_w h (fun r9 hc h => ?_)
      refine w_callSi C (As := [.int a1]) (st := []) (cfX11_isAbout D cI cT ad (l := X.2.1) C.2.2.1 hc) tw8_129 cs_X11_isAbout (by decide +kernel) ⟨Nat.le_of_ble_eq_true rfl, Nat.le_of_ble_eq_true rfl⟩ (by decide) rfl rfl (Nat.le_of_ble_eq_true rfl) dX11_done_14 rfl ?_
      refine w_if_eq C (qt := 29) dX11_done_17 (by decide) rfl h (fun _ h => ?_) (fun _ h => ?_)
      · exact w_sub [0] rfl (hJ6 _ h)
      · refine w_iload_n C dX11_done_20 rfl 3 rfl ?_
        refine w_if_lt C (qt := 29) dX11_done_21 (by decide) rfl h (fun _ h => ?_) (fun _ h => ?_)
        · exact w_sub [0] rfl (hJ6 _ h)
        · refine w_iload_n C dX11_done_24 rfl 3 rfl ?_
          refine w_iconst C 1 dX11_done_25 rfl (by decide) ?_
          refine w_icmp_le C (qt := 35) dX11_done_26 (by decide) rfl h (fun _ h => ?_) (fun _ h => ?_)
          · refine w_aload_n C dX11_done_35 rfl 0 rfl ?_
            refine w_get C 0 29 (Nat.le_of_ble_eq_true rfl) rfl rfl inB_X11 (by decide) tw6_190 rfl dX11_done_36 rfl ?_
            refine w_bipush C 8 dX11_done_39 rfl (by decide) ?_
            refine w_iload_n C dX11_done_41 rfl 1 rfl ?_
            refine w_imul C dX11_done_42 rfl ?_
            refine w_iload_n C dX11_done_43 rfl 2 rfl ?_
            refine w_iadd C dX11_done_44 rfl ?_
            refine w_iald C 19 48 0 (Nat.le_of_ble_eq_true rfl) (fun _ => rfl) rfl h dX11_done_45 rfl (fun h => ?_)
            refine w_nm h (fun x10 h => ?_)
            refine w_istore C [(4, .int x10), (0, .ref (ad 0)), (1, .int a0), (2, .int a1), (3, .int a2)] dX11_done_46 rfl (by decide) rfl ?_
            refine w_iload_n C dX11_done_48 rfl 4 rfl ?_
            refine w_if_ne C (qt := 57) dX11_done_49 (by decide) rfl h (fun _ h => ?_) (fun _ h => ?_)
            · refine w_aload_n C dX11_done_57 rfl 1 rfl ?_
              refine w_aload_n C dX11_done_58 rfl 1 rfl ?_
              refine bd2_w h (fun r11 u12 hc h => ?_)
              refine w_callVi C (As := []) (st := [.ref (ad 0)]) 0 (Nat.le_of_ble_eq_true rfl) rfl rfl (cfX11_binding D cI cT ad (l := X.2.1) C.2.2.1 hc) tw8_1 cy_X11_binding (by decide +kernel) ⟨Nat.le_of_ble_eq_true rfl, Nat.le_of_ble_eq_true rfl⟩ (by decide) rfl rfl (Nat.le_of_ble_eq_true rfl) dX11_done_59 rfl ?_
              refine w_iload_n C dX11_done_62 rfl 2 rfl ?_
              refine w_iload_n C dX11_done_63 rfl 3 rfl ?_
              refine w_iload C dX11_done_64 rfl 0 rfl ?_
              refine bd2_w h (fun r13 u14 hc h => ?_)
              refine w_callVi C (As := [.int r11, .int a0, .int a1, .int x10]) (st := []) 0 (Nat.le_of_ble_eq_true rfl) rfl rfl (cfX11_hasStamped D cI cT ad (l := X.2.1) C.2.2.1 hc) tw8_48 cy_X11_hasStamped (by decide +kernel) ⟨Nat.le_of_ble_eq_true rfl, Nat.le_of_ble_eq_true rfl⟩ (by decide) rfl rfl (Nat.le_of_ble_eq_true rfl) dX11_done_66 rfl ?_
              refine w_if_eq C (qt := 76) dX11_done_69 (by decide) rfl h (fun _ h => ?_) (fun _ h => ?_)
              · refine w_iconst C 0 dX11_done_76 rfl (by decide) ?_
                exact w_ri2 hr h (by decide) dX11_done_77
              · refine w_iconst C 1 dX11_done_72 rfl (by decide) ?_
                refine w_goto (q := 77) C dX11_done_73 (by decide) ?_
                exact w_ri2 hr h (by decide) dX11_done_77
            · refine w_iload C dX11_done_52 rfl 0 rfl ?_
              refine w_goto (q := 77) C dX11_done_54 (by decide) ?_
              exact w_ri2 hr h (by decide) dX11_done_77
          · exact w_sub [0] rfl (hJ6 _ h)
theorem cfX11_done (D : va_G) (cI cT : ClassId) (ad : Nat → Nat) {l : Launch} (had : gAp (gM D cI cT ad)) {F : Nat} {σ : St} {a0 : Int32} {a1 : Int32} {a2 : Int32} {r : Int32} {σ' : St} (h : fX11_done F σ a0 a1 a2 = some (r, σ')) : MI l yX11_done (wB yX11_done cX11_done 5 (some .int)) 7 162 (gM D cI cT ad) [.ref (ad 0), .int a0, .int a1, .int a2] σ r σ' := mk_MI had (by decide +kernel) (Nat.le_of_ble_eq_true rfl) (fun X hX C hr => wfX11_done C hr h)

