def fX11_danceAgain (F : Nat) (σ : St) (a0 : Int32) : Option St := ckI (a0) 8 (nm (up σ 18 (Int32.toNatClampNeg a0) (σ 0 31)) fun u1 => nm (up u1 0 32 ((u1 0 32) &&& (((1 : Int32) <<< (a0 &&& 31)) ^^^ ((-1))))) fun u3 => some u3)
set_option maxRecDepth 20000 in
theorem wfX11_danceAgain {X : XT} {D : va_G} {cI cT : ClassId} {ad : Nat → Nat} {F : Nat} {σ : St} {a0 : Int32} {σ' : St} (C : Cx X (gM D cI cT ad) cX11_danceAgain 2 RX11 0 0 0) (hr : RetV X (gM D cI cT ad) cX11_danceAgain 2 0 σ') (h : fX11_danceAgain F σ a0 = some σ') : WP X (gM D cI cT ad) 2 0 0 σ [(0, .ref (ad 0)), (1, .int a0)] [] := by
  unfold fX11_danceAgain at h
  refine w_aload_n C dX11_danceAgain_0 rfl 0 rfl ?_
  refine w_get C 0 28 (Nat.le_of_ble_eq_true rfl) rfl rfl inB_X11 (by decide) tw6_189 rfl dX11_danceAgain_1 rfl ?_
  refine w_iload_n C dX11_danceAgain_4 rfl 1 rfl ?_
  refine w_aload_n C dX11_danceAgain_5 rfl 0 rfl ?_
  refine w_get C 0 31 (Nat.le_of_ble_eq_true rfl) rfl rfl inB_X11 (by decide) tw6_192 rfl dX11_danceAgain_6 rfl ?_
  refine w_iast C 18 8 0 (Nat.le_of_ble_eq_true rfl) (fun _ => rfl) rfl h dX11_danceAgain_9 rfl (fun h => ?_)
  refine w_nst h (fun u1 h => ?_)
  refine w_aload_n C dX11_danceAgain_10 rfl 0 rfl ?_
  refine w_dup C rfl dX11_danceAgain_11 rfl ?_
  refine w_get C 0 32 (Nat.le_of_ble_eq_true rfl) rfl rfl inB_X11 (by decide) tw6_193 rfl dX11_danceAgain_12 rfl ?_
  refine w_iconst C 1 dX11_danceAgain_15 rfl (by decide) ?_
  refine w_iload_n C dX11_danceAgain_16 rfl 1 rfl ?_
  refine w_ishl C dX11_danceAgain_17 rfl ?_
  refine w_iconst C (-1) dX11_danceAgain_18 rfl (by decide) ?_
  refine w_ixor C dX11_danceAgain_19 rfl ?_
  refine w_iand C dX11_danceAgain_20 rfl ?_
  refine w_put C 0 32 ((u1 0 32) &&& (((1 : Int32) <<< (a0 &&& 31)) ^^^ ((-1)))) (Nat.le_of_ble_eq_true rfl) rfl rfl inB_X11 tyX11_ok nmX11 (by decide) tw6_193 rfl rfl rfl (Nat.le_of_ble_eq_true rfl) rfl dX11_danceAgain_21 rfl ?_
  refine w_nst h (fun u3 h => ?_)
  exact w_rv hr h (by decide) dX11_danceAgain_24
theorem cfX11_danceAgain (D : va_G) (cI cT : ClassId) (ad : Nat → Nat) {l : Launch} (had : gAp (gM D cI cT ad)) {F : Nat} {σ : St} {a0 : Int32} {σ' : St} (h : fX11_danceAgain F σ a0 = some σ') : MV l yX11_danceAgain (wB yX11_danceAgain cX11_danceAgain 2 none) 0 0 (gM D cI cT ad) [.ref (ad 0), .int a0] σ σ' := mk_MV had (by decide +kernel) (Nat.le_of_ble_eq_true rfl) (fun X hX C hr => wfX11_danceAgain C hr h)

def fX11_again (F : Nat) (σ : St) (a0 : Int32) : Option (Int32 × St) := nm (up σ 0 4 0) fun u2 => bd1 (fX11_isDance F u2 a0) fun r3 => if r3 = 0 then (bd2 (fX11_fail F u2 1) fun r7 u8 => some (r7, u8)) else bd1 (fX11_keep F u2) fun u4 => ckI (a0) 8 (nm ((u4 0 31) - (u4 18 (Int32.toNatClampNeg a0))) fun x5 => bd1 (fX11_danceAgain F u4 a0) fun u6 => some (x5, u6))
set_option maxRecDepth 20000 in
theorem wfX11_again {X : XT} {D : va_G} {cI cT : ClassId} {ad : Nat → Nat} {F : Nat} {σ : St} {a0 : Int32} {r : Int32} {σ' : St} (C : Cx X (gM D cI cT ad) cX11_again 3 RX11 2 46 0) (hr : RetI X (gM D cI cT ad) cX11_again 3 0 r σ') (h : fX11_again F σ a0 = some (r, σ')) : WP X (gM D cI cT ad) 3 0 0 σ [(0, .ref (ad 0)), (1, .int a0)] [] := by
  unfold fX11_again at h
  refine w_aload_n C dX11_again_0 rfl 0 rfl ?_
  refine w_iconst C 0 dX11_again_1 rfl (by decide) ?_
  refine w_put C 0 4 0 (Nat.le_of_ble_eq_true rfl) rfl rfl inB_X11 tyX11_ok nmX11 (by decide) tw6_165 rfl rfl rfl (Nat.le_of_ble_eq_true rfl) rfl dX11_again_2 rfl ?_
  refine w_nst h (fun u2 h => ?_)
  refine w_aload_n C dX11_again_5 rfl 0 rfl ?_
  refine w_iload_n C dX11_again_6 rfl 1 rfl ?_
  refine bd1_w h (fun r3 hc h => ?_)
  refine w_callVi C (n := 1) (As := [.int a0]) (st := []) 0 (Nat.le_of_ble_eq_true rfl) rfl rfl (cfX11_isDance D cI cT ad (l := X.2.1) C.2.2.1 hc) tw8_106 cy_X11_isDance (by decide +kernel) ⟨Nat.le_of_ble_eq_true rfl, Nat.le_of_ble_eq_true rfl⟩ (by decide) rfl rfl (Nat.le_of_ble_eq_true rfl) dX11_again_7 rfl ?_
  refine w_if_ne C (qt := 19) dX11_again_10 (by decide) rfl h (fun _ h => ?_) (fun _ h => ?_)
  · refine w_aload_n C dX11_again_19 rfl 0 rfl ?_
    refine bd1_w h (fun u4 hc h => ?_)
    refine w_callVv C (n := 0) (As := []) (st := []) 0 (Nat.le_of_ble_eq_true rfl) rfl rfl (cfX11_keep D cI cT ad (l := X.2.1) C.2.2.1 hc) tw8_154 cy_X11_keep (by decide +kernel) ⟨Nat.le_of_ble_eq_true rfl, Nat.le_of_ble_eq_true rfl⟩ (by decide) rfl rfl (Nat.le_of_ble_eq_true rfl) dX11_again_20 rfl ?_
    refine w_aload_n C dX11_again_23 rfl 0 rfl ?_
    refine w_get C 0 31 (Nat.le_of_ble_eq_true rfl) rfl rfl inB_X11 (by decide) tw6_192 rfl dX11_again_24 rfl ?_
    refine w_aload_n C dX11_again_27 rfl 0 rfl ?_
    refine w_get C 0 28 (Nat.le_of_ble_eq_true rfl) rfl rfl inB_X11 (by decide) tw6_189 rfl dX11_again_28 rfl ?_
    refine w_iload_n C dX11_again_31 rfl 1 rfl ?_
    refine w_iald C 18 8 0 (Nat.le_of_ble_eq_true rfl) (fun _ => rfl) rfl h dX11_again_32 rfl (fun h => ?_)
    refine w_isub C dX11_again_33 rfl ?_
    refine w_nm h (fun x5 h => ?_)
    refine w_istore_n C [(2, .int x5), (0, .ref (ad 0)), (1, .int a0)] dX11_again_34 rfl (by decide) rfl ?_
    refine w_aload_n C dX11_again_35 rfl 1 rfl ?_
    refine w_iload_n C dX11_again_36 rfl 2 rfl ?_
    refine bd1_w h (fun u6 hc h => ?_)
    refine w_callVv C (n := 1) (As := [.int a0]) (st := []) 0 (Nat.le_of_ble_eq_true rfl) rfl rfl (cfX11_danceAgain D cI cT ad (l := X.2.1) C.2.2.1 hc) tw8_166 cy_X11_danceAgain (by decide +kernel) ⟨Nat.le_of_ble_eq_true rfl, Nat.le_of_ble_eq_true rfl⟩ (by decide) rfl rfl (Nat.le_of_ble_eq_true rfl) dX11_again_37 rfl ?_
    refine w_iload_n C dX11_again_40 rfl 0 rfl ?_
    exact w_ri2 hr h (by decide) dX11_again_41
  · refine w_aload_n C dX11_again_13 rfl 0 rfl ?_
    refine w_iconst C 1 dX11_again_14 rfl (by decide) ?_
    refine bd2_w h (fun r7 u8 hc h => ?_)
    refine w_callVi C (n := 1) (As := [.int 1]) (st := []) 0 (Nat.le_of_ble_eq_true rfl) rfl rfl (cfX11_fail D cI cT ad (l := X.2.1) C.2.2.1 hc) tw7_117 cy_X11_fail (by decide +kernel) ⟨Nat.le_of_ble_eq_true rfl, Nat.le_of_ble_eq_true rfl⟩ (by decide) rfl rfl (Nat.le_of_ble_eq_true rfl) dX11_again_15 rfl ?_
    exact w_ri2 hr h (by decide) dX11_again_18
theorem cfX11_again (D : va_G) (cI cT : ClassId) (ad : Nat → Nat) {l : Launch} (had : gAp (gM D cI cT ad)) {F : Nat} {σ : St} {a0 : Int32} {r : Int32} {σ' : St} (h : fX11_again F σ a0 = some (r, σ')) : MI l yX11_again (wB yX11_again cX11_again 3 (some .int)) 2 46 (gM D cI cT ad) [.ref (ad 0), .int a0] σ r σ' := mk_MI had (by decide +kernel) (Nat.le_of_ble_eq_true rfl) (fun X hX C hr => wfX11_again C hr h)

def fX11_breaks (F : Nat) (σ : St) (a0 : Int32) : Option (Int32 × St) := nm (up σ 0 4 0) fun u2 => bd1 (fX11_isDance F u2 a0) fun r3 => if r3 = 0 then (nm (up u2 0 4 1) fun u10 => some (0, u10)) else bd1 (fX11_isOf F u2 (u2 0 32) a0) fun r4 => if r4 = 0 then (bd1 (fX11_keep F u2) fun u5 => nm (up u5 0 32 ((u5 0 32) ||| ((1 : Int32) <<< (a0 &&& 31)))) fun u7 => some (1, u7)) else nm (up u2 16 1 ((u2 16 1) + 1)) fun u8 => some (0, u8)
set_option maxRecDepth 20000 in
theorem wfX11_breaks {X : XT} {D : va_G} {cI cT : ClassId} {ad : Nat → Nat} {F : Nat} {σ : St} {a0 : Int32} {r : Int32} {σ' : St} (C : Cx X (gM D cI cT ad) cX11_breaks 2 RX11 2 46 0) (hr : RetZ X (gM D cI cT ad) cX11_breaks 2 0 r σ') (h : fX11_breaks F σ a0 = some (r, σ')) : WP X (gM D cI cT ad) 2 0 0 σ [(0, .ref (ad 0)), (1, .int a0)] [] := by
  unfold fX11_breaks at h
  refine w_aload_n C dX11_breaks_0 rfl 0 rfl ?_
  refine w_iconst C 0 dX11_breaks_1 rfl (by decide) ?_
  refine w_put C 0 4 0 (Nat.le_of_ble_eq_true rfl) rfl rfl inB_X11 tyX11_ok nmX11 (by decide) tw6_165 rfl rfl rfl (Nat.le_of_ble_eq_true rfl) rfl dX11_breaks_2 rfl ?_
  refine w_nst h (fun u2 h => ?_)
  refine w_aload_n C dX11_breaks_5 rfl 0 rfl ?_
  refine w_iload_n C dX11_breaks_6 rfl 1 rfl ?_
  refine bd1_w h (fun r3 hc h => ?_)
  refine w_callVi C (n := 1) (As := [.int a0]) (st := []) 0 (Nat.le_of_ble_eq_true rfl) rfl rfl (cfX11_isDance D cI cT ad (l := X.2.1) C.2.2.1 hc) tw8_106 cy_X11_isDance (by decide +kernel) ⟨Nat.le_of_ble_eq_true rfl, Nat.le_of_ble_eq_true rfl⟩ (by decide) rfl rfl (Nat.le_of_ble_eq_true rfl) dX11_breaks_7 rfl ?_
  refine w_if_ne C (qt := 20) dX11_breaks_10 (by decide) rfl h (fun _ h => ?_) (fun _ h => ?_)
  · refine w_aload_n C dX11_breaks_20 rfl 0 rfl ?_
    refine w_get C 0 32 (Nat.le_of_ble_eq_true rfl) rfl rfl inB_X11 (by decide) tw6_193 rfl dX11_breaks_21 rfl ?_
    refine w_iload_n C dX11_breaks_24 rfl 1 rfl ?_
    refine bd1_w h (fun r4 hc h => ?_)
    refine w_callSi C (n := 2) (As := [.int (u2 0 32), .int a0]) (st := []) (cfX11_isOf D cI cT ad (l := X.2.1) C.2.2.1 hc) tw8_9 cs_X11_isOf (by decide +kernel) ⟨Nat.le_of_ble_eq_true rfl, Nat.le_of_ble_eq_true rfl⟩ (by decide) rfl rfl (Nat.le_of_ble_eq_true rfl) dX11_breaks_25 rfl ?_
    refine w_if_eq C (qt := 43) dX11_breaks_28 (by decide) rfl h (fun _ h => ?_) (fun _ h => ?_)
    · refine w_aload_n C dX11_breaks_43 rfl 0 rfl ?_
      refine bd1_w h (fun u5 hc h => ?_)
      refine w_callVv C (n := 0) (As := []) (st := []) 0 (Nat.le_of_ble_eq_true rfl) rfl rfl (cfX11_keep D cI cT ad (l := X.2.1) C.2.2.1 hc) tw8_154 cy_X11_keep (by decide +kernel) ⟨Nat.le_of_ble_eq_true rfl, Nat.le_of_ble_eq_true rfl⟩ (by decide) rfl rfl (Nat.le_of_ble_eq_true rfl) dX11_breaks_44 rfl ?_
      refine w_aload_n C dX11_breaks_47 rfl 0 rfl ?_
      refine w_dup C rfl dX11_breaks_48 rfl ?_
      refine w_get C 0 32 (Nat.le_of_ble_eq_true rfl) rfl rfl inB_X11 (by decide) tw6_193 rfl dX11_breaks_49 rfl ?_
      refine w_iconst C 1 dX11_breaks_52 rfl (by decide) ?_
      refine w_iload_n C dX11_breaks_53 rfl 1 rfl ?_
      refine w_ishl C dX11_breaks_54 rfl ?_
      refine w_ior C dX11_breaks_55 rfl ?_
      refine w_put C 0 32 ((u5 0 32) ||| ((1 : Int32) <<< (a0 &&& 31))) (Nat.le_of_ble_eq_true rfl) rfl rfl inB_X11 tyX11_ok nmX11 (by decide) tw6_193 rfl rfl rfl (Nat.le_of_ble_eq_true rfl) rfl dX11_breaks_56 rfl ?_
      refine w_nst h (fun u7 h => ?_)
      refine w_iconst C 1 dX11_breaks_59 rfl (by decide) ?_
      exact w_rz2 hr (by decide) h (by decide) dX11_breaks_60
    · refine w_aload_n C dX11_breaks_31 rfl 0 rfl ?_
      refine w_get C 0 16 (Nat.le_of_ble_eq_true rfl) rfl rfl inB_X11 (by decide) tw6_177 rfl dX11_breaks_32 rfl ?_
      refine w_iconst C 1 dX11_breaks_35 rfl (by decide) ?_
      refine w_dup2 C rfl rfl dX11_breaks_36 rfl ?_
      refine w_ialdc C 16 3 0 1 (Nat.le_of_ble_eq_true rfl) (fun _ => rfl) rfl (by decide) (by show ¬ (_ ∨ _); decide) dX11_breaks_37 rfl ?_
      refine w_iconst C 1 dX11_breaks_38 rfl (by decide) ?_
      refine w_iadd C dX11_breaks_39 rfl ?_
      refine w_iastc C 16 3 0 1 (Nat.le_of_ble_eq_true rfl) (fun _ => rfl) rfl (by decide) (by show ¬ (_ ∨ _); decide) dX11_breaks_40 rfl ?_
      refine w_nst h (fun u8 h => ?_)
      refine w_iconst C 0 dX11_breaks_41 rfl (by decide) ?_
      exact w_rz2 hr (by decide) h (by decide) dX11_breaks_42
  · refine w_aload_n C dX11_breaks_13 rfl 0 rfl ?_
    refine w_iconst C 1 dX11_breaks_14 rfl (by decide) ?_
    refine w_put C 0 4 1 (Nat.le_of_ble_eq_true rfl) rfl rfl inB_X11 tyX11_ok nmX11 (by decide) tw6_165 rfl rfl rfl (Nat.le_of_ble_eq_true rfl) rfl dX11_breaks_15 rfl ?_
    refine w_nst h (fun u10 h => ?_)
    refine w_iconst C 0 dX11_breaks_18 rfl (by decide) ?_
    exact w_rz2 hr (by decide) h (by decide) dX11_breaks_19
theorem cfX11_breaks (D : va_G) (cI cT : ClassId) (ad : Nat → Nat) {l : Launch} (had : gAp (gM D cI cT ad)) {F : Nat} {σ : St} {a0 : Int32} {r : Int32} {σ' : St} (h : fX11_breaks F σ a0 = some (r, σ')) : MI l yX11_breaks (wB yX11_breaks cX11_breaks 2 (some .boolean)) 2 46 (gM D cI cT ad) [.ref (ad 0), .int a0] σ r σ' := mk_MZ had (by decide +kernel) (Nat.le_of_ble_eq_true rfl) (fun X hX C hr => wfX11_breaks C hr h)

def fX11_isLimp (F : Nat) (σ : St) (a0 : Int32) (a1 : Int32) : Option Int32 := ckI ((10 * a0) + a1) 160 (nm (σ 11 (Int32.toNatClampNeg ((10 * a0) + a1))) fun x1 => if x1 = (3 : Int32) then (some 0) else if x1 = (4 : Int32) then (some 0) else some 1)
set_option maxRecDepth 20000 in
theorem wfX11_isLimp {X : XT} {D : va_G} {cI cT : ClassId} {ad : Nat → Nat} {F : Nat} {σ : St} {a0 : Int32} {a1 : Int32} {r : Int32} (C : Cx X (gM D cI cT ad) cX11_isLimp 4 RX11 0 0 0) (hr : RetZ X (gM D cI cT ad) cX11_isLimp 4 0 r σ) (h : fX11_isLimp F σ a0 a1 = some r) : WP X (gM D cI cT ad) 4 0 0 σ [(0, .ref (ad 0)), (1, .int a0), (2, .int a1)] [] := by
  unfold fX11_isLimp at h
  refine w_aload_n C dX11_isLimp_0 rfl 0 rfl ?_
  refine w_get C 0 11 (Nat.le_of_ble_eq_true rfl) rfl rfl inB_X11 (by decide) tw6_172 rfl dX11_isLimp_1 rfl ?_
  refine w_bipush C 10 dX11_isLimp_4 rfl (by decide) ?_
  refine w_iload_n C dX11_isLimp_6 rfl 1 rfl ?_
  refine w_imul C dX11_isLimp_7 rfl ?_
  refine w_iload_n C dX11_isLimp_8 rfl 2 rfl ?_
  refine w_iadd C dX11_isLimp_9 rfl ?_
  refine w_iald C 11 160 0 (Nat.le_of_ble_eq_true rfl) (fun _ => rfl) rfl h dX11_isLimp_10 rfl (fun h => ?_)
  refine w_nm h (fun x1 h => ?_)
  refine w_istore_n C [(3, .int x1), (0, .ref (ad 0)), (1, .int a0), (2, .int a1)] dX11_isLimp_11 rfl (by decide) rfl ?_
  refine w_iload_n C dX11_isLimp_12 rfl 0 rfl ?_
  refine w_iconst C 3 dX11_isLimp_13 rfl (by decide) ?_
  refine w_icmp_eq C (qt := 26) dX11_isLimp_14 (by decide) rfl h (fun _ h => ?_) (fun _ h => ?_)
  · refine w_iconst C 0 dX11_isLimp_26 rfl (by decide) ?_
    exact w_rz1 hr (by decide) h (by decide) dX11_isLimp_27
  · refine w_iload_n C dX11_isLimp_17 rfl 0 rfl ?_
    refine w_iconst C 4 dX11_isLimp_18 rfl (by decide) ?_
    refine w_icmp_eq C (qt := 26) dX11_isLimp_19 (by decide) rfl h (fun _ h => ?_) (fun _ h => ?_)
    · refine w_iconst C 0 dX11_isLimp_26 rfl (by decide) ?_
      exact w_rz1 hr (by decide) h (by decide) dX11_isLimp_27
    · refine w_iconst C 1 dX11_isLimp_22 rfl (by decide) ?_
      refine w_goto (q := 27) C dX11_isLimp_23 (by decide) ?_
      exact w_rz1 hr (by decide) h (by decide) dX11_isLimp_27
theorem cfX11_isLimp (D : va_G) (cI cT : ClassId) (ad : Nat → Nat) {l : Launch} (had : gAp (gM D cI cT ad)) {F : Nat} {σ : St} {a0 : Int32} {a1 : Int32} {r : Int32} (h : fX11_isLimp F σ a0 a1 = some r) : MI l yX11_isLimp (wB yX11_isLimp cX11_isLimp 4 (some .boolean)) 0 0 (gM D cI cT ad) [.ref (ad 0), .int a0, .int a1] σ r σ := mk_MZ had (by decide +kernel) (Nat.le_of_ble_eq_true rfl) (fun X hX C hr => wfX11_isLimp C hr h)

def fX11_stumble (F : Nat) (σ : St) (a0 : Int32) (a1 : Int32) (a2 : Int32) : Option (Int32 × St) := nm (up σ 0 4 0) fun u2 => bd1 (fX11_isStep F u2 a0 a1) fun r3 => if r3 = 0 then (bd2 (fX11_fail F u2 1) fun r14 u15 => some (r14, u15)) else bd1 (fX11_isIn F u2 (Int32.toInt64 a2) 0 9) fun r4 => jn (fun v5 : Unit => bd2 (fX11_refuse F u2 1) fun r8 u9 => some (r8, u9)) fun J6 => if r4 = 0 then (J6 (())) else bd1 (fX11_isLimp F u2 a0 a1) fun r10 => if r10 = 0 then (J6 (())) else bd1 (fX11_keep F u2) fun u11 => ckI ((10 * a0) + a1) 160 (nm (u11 13 (Int32.toNatClampNeg ((10 * a0) + a1))) fun x12 => ckI ((10 * a0) + a1) 160 (nm (up u11 13 (Int32.toNatClampNeg ((10 * a0) + a1)) a2) fun u13 => some (x12, u13)))
set_option maxRecDepth 20000 in
theorem wfX11_stumble {X : XT} {D : va_G} {cI cT : ClassId} {ad : Nat → Nat} {F : Nat} {σ : St} {a0 : Int32} {a1 : Int32} {a2 : Int32} {r : Int32} {σ' : St} (C : Cx X (gM D cI cT ad) cX11_stumble 5 RX11 3 68 0) (hr : RetI X (gM D cI cT ad) cX11_stumble 5 0 r σ') (h : fX11_stumble F σ a0 a1 a2 = some (r, σ')) : WP X (gM D cI cT ad) 5 0 0 σ [(0, .ref (ad 0)), (1, .int a0), (2, .int a1), (3, .int a2)] [] := by
  unfold fX11_stumble at h
  refine w_aload_n C dX11_stumble_0 rfl 0 rfl ?_
  refine w_iconst C 0 dX11_stumble_1 rfl (by decide) ?_
  refine w_put C 0 4 0 (Nat.le_of_ble_eq_true rfl) rfl rfl inB_X11 tyX11_ok nmX11 (by decide) tw6_165 rfl rfl rfl (Nat.le_of_ble_eq_true rfl) rfl dX11_stumble_2 rfl ?_
  refine w_nst h (fun u2 h => ?_)
  refine w_aload_n C dX11_stumble_5 rfl 0 rfl ?_
  refine w_iload_n C dX11_stumble_6 rfl 1 rfl ?_
  refine w_iload_n C dX11_stumble_7 rfl 2 rfl ?_
  refine bd1_w h (fun r3 hc h => ?_)
  refine w_callVi C (n := 2) (As := [.int a0, .int a1]) (st := []) 0 (Nat.le_of_ble_eq_true rfl) rfl rfl (cfX11_isStep D cI cT ad (l := X.2.1) C.2.2.1 hc) tw8_114 cy_X11_isStep (by decide +kernel) ⟨Nat.le_of_ble_eq_true rfl, Nat.le_of_ble_eq_true rfl⟩ (by decide) rfl rfl (Nat.le_of_ble_eq_true rfl) dX11_stumble_8 rfl ?_
  refine w_if_ne C (qt := 20) dX11_stumble_11 (by decide) rfl h (fun _ h => ?_) (fun _ h => ?_)
  · refine w_iload_n C dX11_stumble_20 rfl 3 rfl ?_
    refine w_i2l C dX11_stumble_21 rfl ?_
    refine w_lconst C 0 dX11_stumble_22 rfl (by decide) ?_
    refine w_ldc2 C (9) dX11_stumble_23 rfl tw8_178 ?_
    refine bd1_w h (fun r4 hc h => ?_)
    refine w_callSi C (n := 3) (As := [.long (Int32.toInt64 a2), .long 0, .long 9]) (st := []) (cfX11_isIn D cI cT ad (l := X.2.1) C.2.2.1 hc) tw8_99 cs_X11_isIn (by decide +kernel) ⟨Nat.le_of_ble_eq_true rfl, Nat.le_of_ble_eq_true rfl⟩ (by decide) rfl rfl (Nat.le_of_ble_eq_true rfl) dX11_stumble_26 rfl ?_
    refine jn_w (fun v5 : Unit => WP X (gM D cI cT ad) 5 0 41 u2 [(0, .ref (ad 0))] []) h (fun v5 h => ?_) (fun J6 hJ7 h => ?_)
    · refine w_aload_n C dX11_stumble_41 rfl 0 rfl ?_
      refine w_iconst C 1 dX11_stumble_42 rfl (by decide) ?_
      refine bd2_w h (fun r8 u9 hc h => ?_)
      refine w_callVi C (n := 1) (As := [.int 1]) (st := []) 0 (Nat.le_of_ble_eq_true rfl) rfl rfl (cfX11_refuse D cI cT ad (l := X.2.1) C.2.2.1 hc) tw8_150 cy_X11_refuse (by decide +kernel) ⟨Nat.le_of_ble_eq_true rfl, Nat.le_of_ble_eq_true rfl⟩ (by decide) rfl rfl (Nat.le_of_ble_eq_true rfl) dX11_stumble_43 rfl ?_
      exact w_ri2 hr h (by decide) dX11_stumble_46
    · refine w_if_eq C (qt := 41) dX11_stumble_29 (by decide) rfl h (fun _ h => ?_) (fun _ h => ?_)
      · exact w_sub (lv' := [(0, .ref (ad 0))]) [0] rfl (hJ7 (()) h)
      · refine w_aload_n C dX11_stumble_32 rfl 0 rfl ?_
        refine w_iload_n C dX11_stumble_33 rfl 1 rfl ?_
        refine w_iload_n C dX11_stumble_34 rfl 2 rfl ?_
        refine bd1_w h (fun r10 hc h => ?_)
        refine w_callVi C (n := 2) (As := [.int a0, .int a1]) (st := []) 0 (Nat.le_of_ble_eq_true rfl) rfl rfl (cfX11_isLimp D cI cT ad (l := X.2.1) C.2.2.1 hc) tw8_179 cy_X11_isLimp (by decide +kernel) ⟨Nat.le_of_ble_eq_true rfl, Nat.le_of_ble_eq_true rfl⟩ (by decide) rfl rfl (Nat.le_of_ble_eq_true rfl) dX11_stumble_35 rfl ?_
        refine w_if_ne C (qt := 47) dX11_stumble_38 (by decide) rfl h (fun _ h => ?_) (fun _ h => ?_)
        · refine w_aload_n C dX11_stumble_47 rfl 0 rfl ?_
          refine bd1_w h (fun u11 hc h => ?_)
          refine w_callVv C (n := 0) (As := []) (st := []) 0 (Nat.le_of_ble_eq_true rfl) rfl rfl (cfX11_keep D cI cT ad (l := X.2.1) C.2.2.1 hc) tw8_154 cy_X11_keep (by decide +kernel) ⟨Nat.le_of_ble_eq_true rfl, Nat.le_of_ble_eq_true rfl⟩ (by decide) rfl rfl (Nat.le_of_ble_eq_true rfl) dX11_stumble_48 rfl ?_
          refine w_aload_n C dX11_stumble_51 rfl 0 rfl ?_
          refine w_get C 0 13 (Nat.le_of_ble_eq_true rfl) rfl rfl inB_X11 (by decide) tw6_174 rfl dX11_stumble_52 rfl ?_
          refine w_bipush C 10 dX11_stumble_55 rfl (by decide) ?_
          refine w_iload_n C dX11_stumble_57 rfl 1 rfl ?_
          refine w_imul C dX11_stumble_58 rfl ?_
          refine w_iload_n C dX11_stumble_59 rfl 2 rfl ?_
          refine w_iadd C dX11_stumble_60 rfl ?_
          refine w_iald C 13 160 0 (Nat.le_of_ble_eq_true rfl) (fun _ => rfl) rfl h dX11_stumble_61 rfl (fun h => ?_)
          refine w_nm h (fun x12 h => ?_)
          refine w_istore C [(4, .int x12), (0, .ref (ad 0)), (1, .int a0), (2, .int a1), (3, .int a2)] dX11_stumble_62 rfl (by decide) rfl ?_
          refine w_aload_n C dX11_stumble_64 rfl 1 rfl ?_
          refine w_get C 0 13 (Nat.le_of_ble_eq_true rfl) rfl rfl inB_X11 (by decide) tw6_174 rfl dX11_stumble_65 rfl ?_
          refine w_bipush C 10 dX11_stumble_68 rfl (by decide) ?_
          refine w_iload_n C dX11_stumble_70 rfl 2 rfl ?_
          refine w_imul C dX11_stumble_71 rfl ?_
          refine w_iload_n C dX11_stumble_72 rfl 3 rfl ?_
          refine w_iadd C dX11_stumble_73 rfl ?_
          refine w_iload_n C dX11_stumble_74 rfl 4 rfl ?_
          refine w_iast C 13 160 0 (Nat.le_of_ble_eq_true rfl) (fun _ => rfl) rfl h dX11_stumble_75 rfl (fun h => ?_)
          refine w_nst h (fun u13 h => ?_)
          refine w_iload C dX11_stumble_76 rfl 0 rfl ?_
          exact w_ri2 hr h (by decide) dX11_stumble_78
        · exact w_sub (lv' := [(0, .ref (ad 0))]) [0] rfl (hJ7 (()) h)
  · refine w_aload_n C dX11_stumble_14 rfl 0 rfl ?_
    refine w_iconst C 1 dX11_stumble_15 rfl (by decide) ?_
    refine bd2_w h (fun r14 u15 hc h => ?_)
    refine w_callVi C (n := 1) (As := [.int 1]) (st := []) 0 (Nat.le_of_ble_eq_true rfl) rfl rfl (cfX11_fail D cI cT ad (l := X.2.1) C.2.2.1 hc) tw7_117 cy_X11_fail (by decide +kernel) ⟨Nat.le_of_ble_eq_true rfl, Nat.le_of_ble_eq_true rfl⟩ (by decide) rfl rfl (Nat.le_of_ble_eq_true rfl) dX11_stumble_16 rfl ?_
    exact w_ri2 hr h (by decide) dX11_stumble_19
theorem cfX11_stumble (D : va_G) (cI cT : ClassId) (ad : Nat → Nat) {l : Launch} (had : gAp (gM D cI cT ad)) {F : Nat} {σ : St} {a0 : Int32} {a1 : Int32} {a2 : Int32} {r : Int32} {σ' : St} (h : fX11_stumble F σ a0 a1 a2 = some (r, σ')) : MI l yX11_stumble (wB yX11_stumble cX11_stumble 5 (some .int)) 3 68 (gM D cI cT ad) [.ref (ad 0), .int a0, .int a1, .int a2] σ r σ' := mk_MI had (by decide +kernel) (Nat.le_of_ble_eq_true rfl) (fun X hX C hr => wfX11_stumble C hr h)

def fX11_act (F : Nat) (σ : St) (a0 : Int32) (a1 : Int32) (a2 : Int32) : Option (Int32 × St) := nm (up σ 0 4 0) fun u2 => bd1 (fX11_isValley F u2 a0) fun r3 => jn (fun v4 : Unit => bd2 (fX11_fail F u2 1) fun r7 u8 => some (r7, u8)) fun J5 => if r3 = 0 then (J5 (())) else bd1 (fX11_isAbout F u2 a1) fun r9 => if r9 = 0 then (J5 (())) else bd1 (fX11_isIn F u2 (Int32.toInt64 a2) 1 99) fun r10 => jn (fun v11 : Unit => bd2 (fX11_refuse F u2 1) fun r14 u15 => some (r14, u15)) fun J12 => if r10 = 0 then (J12 (())) else ckI ((8 * a0) + a1) 48 (if ((u2 19 (Int32.toNatClampNeg ((8 * a0) + a1))) + a2) ≤ (9999 : Int32) then (bd1 (fX11_keep F u2) fun u16 => nm ((8 * a0) + a1) fun x17 => ckI (x17) 48 (ckI (x17) 48 (nm (up u16 19 (Int32.toNatClampNeg x17) ((u16 19 (Int32.toNatClampNeg x17)) + a2)) fun u18 => ckI ((8 * a0) + a1) 48 (some (u18 19 (Int32.toNatClampNeg ((8 * a0) + a1)), u18))))) else J12 (()))
set_option maxRecDepth 20000 in
theorem wfX11_act {X : XT} {D : va_G} {cI cT : ClassId} {ad : Nat → Nat} {F : Nat} {σ : St} {a0 : Int32} {a1 : Int32} {a2 : Int32} {r : Int32} {σ' : St} (C : Cx X (gM D cI cT ad) cX11_act 4 RX11 2 46 0) (hr : RetI X (gM D cI cT ad) cX11_act 4 0 r σ') (h : fX11_act F σ a0 a1 a2 = some (r, σ')) : WP X (gM D cI cT ad) 4 0 0 σ [(0, .ref (ad 0)), (1, .int a0), (2, .int a1), (3, .int a2)] [] := by
  unfold fX11_act at h
  refine w_aload_n C dX11_act_0 rfl 0 rfl ?_
  refine w_iconst C 0 dX11_act_1 rfl (by decide) ?_
  refine w_put C 0 4 0 (Nat.le_of_ble_eq_true rfl) rfl rfl inB_X11 tyX11_ok nmX11 (by decide) tw6_165 rfl rfl rfl (Nat.le_of_ble_eq_true rfl) rfl dX11_act_2 rfl ?_
  refine w_nst h (fun u2 h => ?_)
  refine w_aload_n C dX11_act_5 rfl 0 rfl ?_
  refine w_iload_n C dX11_act_6 rfl 1 rfl ?_
  refine bd1_w h (fun r3 hc h => ?_)
  refine w_callVi C (n := 1) (As := [.int a0]) (st := []) 0 (Nat.le_of_ble_eq_true rfl) rfl rfl (cfX11_isValley D cI cT ad (l := X.2.1) C.2.2.1 hc) tw8_95 cy_X11_isValley (by decide +kernel) ⟨Nat.le_of_ble_eq_true rfl, Nat.le_of_ble_eq_true rfl⟩ (by decide) rfl rfl (Nat.le_of_ble_eq_true rfl) dX11_act_7 rfl ?_
  refine jn_w (fun v4 : Unit => WP X (gM D cI cT ad) 4 0 20 u2 [(0, .ref (ad 0))] []) h (fun v4 h => ?_) (fun J5 hJ6 h => ?_)
  · refine w_aload_n C dX11_act_20 rfl 0 rfl ?_
    refine w_iconst C 1 dX11_act_21 rfl (by decide) ?_
    refine bd2_w h (fun r7 u8 hc h => ?_)
    refine w_callVi C (n := 1) (As := [.int 1]) (st := []) 0 (Nat.le_of_ble_eq_true rfl) rfl rfl (cfX11_fail D cI cT ad (l := X.2.1) C.2.2.1 hc) tw7_117 cy_X11_fail (by decide +kernel) ⟨Nat.le_of_ble_eq_true rfl, Nat.le_of_ble_eq_true rfl⟩ (by decide) rfl rfl (Nat.le_of_ble_eq_true rfl) dX11_act_22 rfl ?_
    exact w_ri2 hr h (by decide) dX11_act_25
  · refine w_if_eq C (qt := 20) dX11_act_10 (by decide) rfl h (fun _ h => ?_) (fun _ h => ?_)
    · exact w_sub (lv' := [(0, .ref (ad 0))]) [0] rfl (hJ6 (()) h)
    · refine w_iload_n C dX11_act_13 rfl 2 rfl ?_
      refine bd1_w h (fun r9 hc h => ?_)
      refine w_callSi C (n := 1) (As := [.int a1]) (st := []) (cfX11_isAbout D cI cT ad (l := X.2.1) C.2.2.1 hc) tw8_129 cs_X11_isAbout (by decide +kernel) ⟨Nat.le_of_ble_eq_true rfl, Nat.le_of_ble_eq_true rfl⟩ (by decide) rfl rfl (Nat.le_of_ble_eq_true rfl) dX11_act_14 rfl ?_
      refine w_if_ne C (qt := 26) dX11_act_17 (by decide) rfl h (fun _ h => ?_) (fun _ h => ?_)
      · refine w_iload_n C dX11_act_26 rfl 3 rfl ?_
        refine w_i2l C dX11_act_27 rfl ?_
        refine w_lconst C 1 dX11_act_28 rfl (by decide) ?_
        refine w_ldc2 C (99) dX11_act_29 rfl tw8_187 ?_
        refine bd1_w h (fun r10 hc h => ?_)
        refine w_callSi C (n := 3) (As := [.long (Int32.toInt64 a2), .long 1, .long 99]) (st := []) (cfX11_isIn D cI cT ad (l := X.2.1) C.2.2.1 hc) tw8_99 cs_X11_isIn (by decide +kernel) ⟨Nat.le_of_ble_eq_true rfl, Nat.le_of_ble_eq_true rfl⟩ (by decide) rfl rfl (Nat.le_of_ble_eq_true rfl) dX11_act_32 rfl ?_
        refine jn_w (fun v11 : Unit => WP X (gM D cI cT ad) 4 0 57 u2 [(0, .ref (ad 0))] []) h (fun v11 h => ?_) (fun J12 hJ13 h => ?_)
        · refine w_aload_n C dX11_act_57 rfl 0 rfl ?_
          refine w_iconst C 1 dX11_act_58 rfl (by decide) ?_
          refine bd2_w h (fun r14 u15 hc h => ?_)
          refine w_callVi C (n := 1) (As := [.int 1]) (st := []) 0 (Nat.le_of_ble_eq_true rfl) rfl rfl (cfX11_refuse D cI cT ad (l := X.2.1) C.2.2.1 hc) tw8_150 cy_X11_refuse (by decide +kernel) ⟨Nat.le_of_ble_eq_true rfl, Nat.le_of_ble_eq_true rfl⟩ (by decide) rfl rfl (Nat.le_of_ble_eq_true rfl) dX11_act_59 rfl ?_
          exact w_ri2 hr h (by decide) dX11_act_62
        · refine w_if_eq C (qt := 57) dX11_act_35 (by decide) rfl h (fun _ h => ?_) (fun _ h => ?_)
          · exact w_sub (lv' := [(0, .ref (ad 0))]) [0] rfl (hJ13 (()) h)
          · refine w_aload_n C dX11_act_38 rfl 0 rfl ?_
            refine w_get C 0 29 (Nat.le_of_ble_eq_true rfl) rfl rfl inB_X11 (by decide) tw6_190 rfl dX11_act_39 rfl ?_
            refine w_bipush C 8 dX11_act_42 rfl (by decide) ?_
            refine w_iload_n C dX11_act_44 rfl 1 rfl ?_
            refine w_imul C dX11_act_45 rfl ?_
            refine w_iload_n C dX11_act_46 rfl 2 rfl ?_
            refine w_iadd C dX11_act_47 rfl ?_
            refine w_iald C 19 48 0 (Nat.le_of_ble_eq_true rfl) (fun _ => rfl) rfl h dX11_act_48 rfl (fun h => ?_)
            refine w_iload_n C dX11_act_49 rfl 3 rfl ?_
            refine w_iadd C dX11_act_50 rfl ?_
            refine w_sipush C 9999 dX11_act_51 rfl (by decide) ?_
            refine w_icmp_le C (qt := 63) dX11_act_54 (by decide) rfl h (fun _ h => ?_) (fun _ h => ?_)
            · refine w_aload_n C dX11_act_63 rfl 0 rfl ?_
              refine bd1_w h (fun u16 hc h => ?_)
              refine w_callVv C (n := 0) (As := []) (st := []) 0 (Nat.le_of_ble_eq_true rfl) rfl rfl (cfX11_keep D cI cT ad (l := X.2.1) C.2.2.1 hc) tw8_154 cy_X11_keep (by decide +kernel) ⟨Nat.le_of_ble_eq_true rfl, Nat.le_of_ble_eq_true rfl⟩ (by decide) rfl rfl (Nat.le_of_ble_eq_true rfl) dX11_act_64 rfl ?_
              refine w_aload_n C dX11_act_67 rfl 0 rfl ?_
              refine w_get C 0 29 (Nat.le_of_ble_eq_true rfl) rfl rfl inB_X11 (by decide) tw6_190 rfl dX11_act_68 rfl ?_
              refine w_bipush C 8 dX11_act_71 rfl (by decide) ?_
              refine w_iload_n C dX11_act_73 rfl 1 rfl ?_
              refine w_imul C dX11_act_74 rfl ?_
              refine w_iload_n C dX11_act_75 rfl 2 rfl ?_
              refine w_iadd C dX11_act_76 rfl ?_
              refine w_nm h (fun x17 h => ?_)
              refine w_dup2 C rfl rfl dX11_act_77 rfl ?_
              refine w_iald C 19 48 0 (Nat.le_of_ble_eq_true rfl) (fun _ => rfl) rfl h dX11_act_78 rfl (fun h => ?_)
              refine w_iload_n C dX11_act_79 rfl 3 rfl ?_
              refine w_iadd C dX11_act_80 rfl ?_
              refine w_iast C 19 48 0 (Nat.le_of_ble_eq_true rfl) (fun _ => rfl) rfl h dX11_act_81 rfl (fun h => ?_)
              refine w_nst h (fun u18 h => ?_)
              refine w_aload_n C dX11_act_82 rfl 0 rfl ?_
              refine w_get C 0 29 (Nat.le_of_ble_eq_true rfl) rfl rfl inB_X11 (by decide) tw6_190 rfl dX11_act_83 rfl ?_
              refine w_bipush C 8 dX11_act_86 rfl (by decide) ?_
              refine w_iload_n C dX11_act_88 rfl 1 rfl ?_
              refine w_imul C dX11_act_89 rfl ?_
              refine w_iload_n C dX11_act_90 rfl 2 rfl ?_
              refine w_iadd C dX11_act_91 rfl ?_
              refine w_iald C 19 48 0 (Nat.le_of_ble_eq_true rfl) (fun _ => rfl) rfl h dX11_act_92 rfl (fun h => ?_)
              exact w_ri2 hr h (by decide) dX11_act_93
            · exact w_sub (lv' := [(0, .ref (ad 0))]) [0] rfl (hJ13 (()) h)
      · exact w_sub (lv' := [(0, .ref (ad 0))]) [0] rfl (hJ6 (()) h)
theorem cfX11_act (D : va_G) (cI cT : ClassId) (ad : Nat → Nat) {l : Launch} (had : gAp (gM D cI cT ad)) {F : Nat} {σ : St} {a0 : Int32} {a1 : Int32} {a2 : Int32} {r : Int32} {σ' : St} (h : fX11_act F σ a0 a1 a2 = some (r, σ')) : MI l yX11_act (wB yX11_act cX11_act 4 (some .int)) 2 46 (gM D cI cT ad) [.ref (ad 0), .int a0, .int a1, .int a2] σ r σ' := mk_MI had (by decide +kernel) (Nat.le_of_ble_eq_true rfl) (fun X hX C hr => wfX11_act C hr h)

def fX11_unpack (F : Nat) (σ : St) (a1 : Int32) : Option St := ckI (a1) 5520 (nm (up σ 0 31 (σ 20 (Int32.toNatClampNeg a1))) fun u2 => ckI (a1 + 1) 5520 (nm (up u2 0 32 (u2 20 (Int32.toNatClampNeg (a1 + 1)))) fun u4 => nm (a1 + 2) fun x5 => lp (fun (K7 : (St × Int32) → Option St) (v6 : St × Int32) => if (8 : Int32) ≤ v6.2 then (lp (fun (K10 : (St × Int32) → Option St) (v9 : St × Int32) => if (80 : Int32) ≤ v9.2 then (lp (fun (K13 : (St × Int32) → Option St) (v12 : St × Int32) => if (48 : Int32) ≤ v12.2 then (some v12.1) else ckI (((x5 + 8) + 80) + v12.2) 5520 (ckI (v12.2) 48 (nm (up v12.1 19 (Int32.toNatClampNeg v12.2) (v12.1 20 (Int32.toNatClampNeg (((x5 + 8) + 80) + v12.2)))) fun u15 => K13 ((u15, v12.2 + 1))))) F ((v9.1, 0))) else ckI ((x5 + 8) + v9.2) 5520 (ckI (v9.2) 160 (nm (up v9.1 13 (Int32.toNatClampNeg v9.2) (v9.1 20 (Int32.toNatClampNeg ((x5 + 8) + v9.2)))) fun u16 => K10 ((u16, v9.2 + 1))))) F ((v6.1, 0))) else ckI (x5 + v6.2) 5520 (ckI (v6.2) 8 (nm (up v6.1 18 (Int32.toNatClampNeg v6.2) (v6.1 20 (Int32.toNatClampNeg (x5 + v6.2)))) fun u17 => K7 ((u17, v6.2 + 1))))) F ((u4, 0))))
set_option maxRecDepth 20000 in
theorem wfX11_unpack {X : XT} {D : va_G} {cI cT : ClassId} {ad : Nat → Nat} {F : Nat} {σ : St} {a1 : Int32} {σ' : St} (C : Cx X (gM D cI cT ad) cX11_unpack 5 RX11 0 0 0) (hr : RetV X (gM D cI cT ad) cX11_unpack 5 0 σ') (h : fX11_unpack F σ a1 = some σ') : WP X (gM D cI cT ad) 5 0 0 σ [(0, .ref (ad 0)), (1, .ref (ad 20)), (2, .int a1)] [] := by
  unfold fX11_unpack at h
  refine w_aload_n C dX11_unpack_0 rfl 0 rfl ?_
  refine w_aload_n C dX11_unpack_1 rfl 1 rfl ?_
  refine w_iload_n C dX11_unpack_2 rfl 2 rfl ?_
  refine w_iald C 20 5520 0 (Nat.le_of_ble_eq_true rfl) (fun _ => rfl) rfl h dX11_unpack_3 rfl (fun h => ?_)
  refine w_put C 0 31 (σ 20 (Int32.toNatClampNeg a1)) (Nat.le_of_ble_eq_true rfl) rfl rfl inB_X11 tyX11_ok nmX11 (by decide) tw6_192 rfl rfl rfl (Nat.le_of_ble_eq_true rfl) rfl dX11_unpack_4 rfl ?_
  refine w_nst h (fun u2 h => ?_)
  refine w_aload_n C dX11_unpack_7 rfl 0 rfl ?_
  refine w_aload_n C dX11_unpack_8 rfl 1 rfl ?_
  refine w_iload_n C dX11_unpack_9 rfl 2 rfl ?_
  refine w_iconst C 1 dX11_unpack_10 rfl (by decide) ?_
  refine w_iadd C dX11_unpack_11 rfl ?_
  refine w_iald C 20 5520 0 (Nat.le_of_ble_eq_true rfl) (fun _ => rfl) rfl h dX11_unpack_12 rfl (fun h => ?_)
  refine w_put C 0 32 (u2 20 (Int32.toNatClampNeg (a1 + 1))) (Nat.le_of_ble_eq_true rfl) rfl rfl inB_X11 tyX11_ok nmX11 (by decide) tw6_193 rfl rfl rfl (Nat.le_of_ble_eq_true rfl) rfl dX11_unpack_13 rfl ?_
  refine w_nst h (fun u4 h => ?_)
  refine w_iload_n C dX11_unpack_16 rfl 2 rfl ?_
  refine w_iconst C 2 dX11_unpack_17 rfl (by decide) ?_
  refine w_iadd C dX11_unpack_18 rfl ?_
  refine w_nm h (fun x5 h => ?_)
  refine w_istore_n C [(3, .int x5), (0, .ref (ad 0)), (1, .ref (ad 20)), (2, .int a1)] dX11_unpack_19 rfl (by decide) rfl ?_
  refine w_iconst C 0 dX11_unpack_20 rfl (by decide) ?_
  refine w_istore C [(4, .int 0), (3, .int x5), (0, .ref (ad 0)), (1, .ref (ad 20)), (2, .int a1)] dX11_unpack_21 rfl (by decide) rfl ?_
  refine w_sub (lv' := [(4, .int 0), (3, .int x5), (0, .ref (ad 0)), (1, .ref (ad 20))]) [0, 1, 2, 3] rfl ?_
  refine lp_w (fun v6 : St × Int32 => WP X (gM D cI cT ad) 5 0 23 v6.1 [(4, .int v6.2), (3, .int x5), (0, .ref (ad 0)), (1, .ref (ad 20))] []) (fun K7 hK8 v6 h => ?_) F _ h
  refine w_iload C dX11_unpack_23 rfl 0 rfl ?_
  refine w_bipush C 8 dX11_unpack_25 rfl (by decide) ?_
  refine w_icmp_ge C (qt := 49) dX11_unpack_27 (by decide) rfl h (fun _ h => ?_) (fun _ h => ?_)
  · refine w_iinc (j := 1) C (x5 + 8) [(3, .int (x5 + 8)), (4, .int v6.2), (0, .ref (ad 0)), (1, .ref (ad 20))] dX11_unpack_49 rfl rfl rfl (by decide) rfl ?_
    refine w_iconst C 0 dX11_unpack_52 rfl (by decide) ?_
    refine w_istore C [(4, .int 0), (3, .int (x5 + 8)), (0, .ref (ad 0)), (1, .ref (ad 20))] dX11_unpack_53 rfl (by decide) rfl ?_
    refine w_sub (lv' := [(4, .int 0), (3, .int (x5 + 8)), (0, .ref (ad 0)), (1, .ref (ad 20))]) [0, 1, 2, 3] rfl ?_
    refine lp_w (fun v9 : St × Int32 => WP X (gM D cI cT ad) 5 0 55 v9.1 [(4, .int v9.2), (3, .int (x5 + 8)), (0, .ref (ad 0)), (1, .ref (ad 20))] []) (fun K10 hK11 v9 h => ?_) F _ h
    refine w_iload C dX11_unpack_55 rfl 0 rfl ?_
    refine w_bipush C 80 dX11_unpack_57 rfl (by decide) ?_
    refine w_icmp_ge C (qt := 81) dX11_unpack_59 (by decide) rfl h (fun _ h => ?_) (fun _ h => ?_)
    · refine w_iinc (j := 1) C ((x5 + 8) + 80) [(3, .int ((x5 + 8) + 80)), (4, .int v9.2), (0, .ref (ad 0)), (1, .ref (ad 20))] dX11_unpack_81 rfl rfl rfl (by decide) rfl ?_
      refine w_iconst C 0 dX11_unpack_84 rfl (by decide) ?_
      refine w_istore C [(4, .int 0), (3, .int ((x5 + 8) + 80)), (0, .ref (ad 0)), (1, .ref (ad 20))] dX11_unpack_85 rfl (by decide) rfl ?_
      refine w_sub (lv' := [(4, .int 0), (3, .int ((x5 + 8) + 80)), (0, .ref (ad 0)), (1, .ref (ad 20))]) [0, 1, 2, 3] rfl ?_
      refine lp_w (fun v12 : St × Int32 => WP X (gM D cI cT ad) 5 0 87 v12.1 [(4, .int v12.2), (3, .int ((x5 + 8) + 80)), (0, .ref (ad 0)), (1, .ref (ad 20))] []) (fun K13 hK14 v12 h => ?_) F _ h
      refine w_iload C dX11_unpack_87 rfl 0 rfl ?_
      refine w_bipush C 48 dX11_unpack_89 rfl (by decide) ?_
      refine w_icmp_ge C (qt := 113) dX11_unpack_91 (by decide) rfl h (fun _ h => ?_) (fun _ h => ?_)
      · exact w_rv hr h (by decide) dX11_unpack_113
      · refine w_aload_n C dX11_unpack_94 rfl 2 rfl ?_
        refine w_get C 0 29 (Nat.le_of_ble_eq_true rfl) rfl rfl inB_X11 (by decide) tw6_190 rfl dX11_unpack_95 rfl ?_
        refine w_iload C dX11_unpack_98 rfl 0 rfl ?_
        refine w_aload_n C dX11_unpack_100 rfl 3 rfl ?_
        refine w_iload_n C dX11_unpack_101 rfl 1 rfl ?_
        refine w_iload C dX11_unpack_102 rfl 0 rfl ?_
        refine w_iadd C dX11_unpack_104 rfl ?_
        refine w_iald C 20 5520 0 (Nat.le_of_ble_eq_true rfl) (fun _ => rfl) rfl h dX11_unpack_105 rfl (fun h => ?_)
        refine w_iast C 19 48 0 (Nat.le_of_ble_eq_true rfl) (fun _ => rfl) rfl h dX11_unpack_106 rfl (fun h => ?_)
        refine w_nst h (fun u15 h => ?_)
        refine w_iinc (j := 0) C (v12.2 + 1) [(4, .int (v12.2 + 1)), (3, .int ((x5 + 8) + 80)), (0, .ref (ad 0)), (1, .ref (ad 20))] dX11_unpack_107 rfl rfl rfl (by decide) rfl ?_
        refine w_goto (q := 87) C dX11_unpack_110 (by decide) ?_
        exact w_sub (lv' := [(4, .int (v12.2 + 1)), (3, .int ((x5 + 8) + 80)), (0, .ref (ad 0)), (1, .ref (ad 20))]) [0, 1, 2, 3] rfl (hK14 ((u15, v12.2 + 1)) h)
    · refine w_aload_n C dX11_unpack_62 rfl 2 rfl ?_
      refine w_get C 0 13 (Nat.le_of_ble_eq_true rfl) rfl rfl inB_X11 (by decide) tw6_174 rfl dX11_unpack_63 rfl ?_
      refine w_iload C dX11_unpack_66 rfl 0 rfl ?_
      refine w_aload_n C dX11_unpack_68 rfl 3 rfl ?_
      refine w_iload_n C dX11_unpack_69 rfl 1 rfl ?_
      refine w_iload C dX11_unpack_70 rfl 0 rfl ?_
      refine w_iadd C dX11_unpack_72 rfl ?_
      refine w_iald C 20 5520 0 (Nat.le_of_ble_eq_true rfl) (fun _ => rfl) rfl h dX11_unpack_73 rfl (fun h => ?_)
      refine w_iast C 13 160 0 (Nat.le_of_ble_eq_true rfl) (fun _ => rfl) rfl h dX11_unpack_74 rfl (fun h => ?_)
      refine w_nst h (fun u16 h => ?_)
      refine w_iinc (j := 0) C (v9.2 + 1) [(4, .int (v9.2 + 1)), (3, .int (x5 + 8)), (0, .ref (ad 0)), (1, .ref (ad 20))] dX11_unpack_75 rfl rfl rfl (by decide) rfl ?_
      refine w_goto (q := 55) C dX11_unpack_78 (by decide) ?_
      exact w_sub (lv' := [(4, .int (v9.2 + 1)), (3, .int (x5 + 8)), (0, .ref (ad 0)), (1, .ref (ad 20))]) [0, 1, 2, 3] rfl (hK11 ((u16, v9.2 + 1)) h)
  · refine w_aload_n C dX11_unpack_30 rfl 2 rfl ?_
    refine w_get C 0 28 (Nat.le_of_ble_eq_true rfl) rfl rfl inB_X11 (by decide) tw6_189 rfl dX11_unpack_31 rfl ?_
    refine w_iload C dX11_unpack_34 rfl 0 rfl ?_
    refine w_aload_n C dX11_unpack_36 rfl 3 rfl ?_
    refine w_iload_n C dX11_unpack_37 rfl 1 rfl ?_
    refine w_iload C dX11_unpack_38 rfl 0 rfl ?_
    refine w_iadd C dX11_unpack_40 rfl ?_
    refine w_iald C 20 5520 0 (Nat.le_of_ble_eq_true rfl) (fun _ => rfl) rfl h dX11_unpack_41 rfl (fun h => ?_)
    refine w_iast C 18 8 0 (Nat.le_of_ble_eq_true rfl) (fun _ => rfl) rfl h dX11_unpack_42 rfl (fun h => ?_)
    refine w_nst h (fun u17 h => ?_)
    refine w_iinc (j := 0) C (v6.2 + 1) [(4, .int (v6.2 + 1)), (3, .int x5), (0, .ref (ad 0)), (1, .ref (ad 20))] dX11_unpack_43 rfl rfl rfl (by decide) rfl ?_
    refine w_goto (q := 23) C dX11_unpack_46 (by decide) ?_
    exact w_sub (lv' := [(4, .int (v6.2 + 1)), (3, .int x5), (0, .ref (ad 0)), (1, .ref (ad 20))]) [0, 1, 2, 3] rfl (hK8 ((u17, v6.2 + 1)) h)
theorem cfX11_unpack (D : va_G) (cI cT : ClassId) (ad : Nat → Nat) {l : Launch} (had : gAp (gM D cI cT ad)) {F : Nat} {σ : St} {a1 : Int32} {σ' : St} (h : fX11_unpack F σ a1 = some σ') : MV l yX11_unpack (wB yX11_unpack cX11_unpack 5 none) 0 0 (gM D cI cT ad) [.ref (ad 0), .ref (ad 20), .int a1] σ σ' := mk_MV had (by decide +kernel) (Nat.le_of_ble_eq_true rfl) (fun X hX C hr => wfX11_unpack C hr h)

def fX11_undo (F : Nat) (σ : St) : Option (Int32 × St) := nm (up σ 0 4 0) fun u2 => if (u2 0 33) = 0 then (some ((-1), u2)) else nm (up u2 0 33 ((u2 0 33) - 1)) fun u4 => bd1 (fX11_unpack F u4 (138 * (u4 0 33))) fun u5 => some (u5 0 33, u5)
set_option maxRecDepth 20000 in
theorem wfX11_undo {X : XT} {D : va_G} {cI cT : ClassId} {ad : Nat → Nat} {F : Nat} {σ : St}  {r : Int32} {σ' : St} (C : Cx X (gM D cI cT ad) cX11_undo 1 RX11 1 24 0) (hr : RetI X (gM D cI cT ad) cX11_undo 1 0 r σ') (h : fX11_undo F σ = some (r, σ')) : WP X (gM D cI cT ad) 1 0 0 σ [(0, .ref (ad 0))] [] := by
  unfold fX11_undo at h
  refine w_aload_n C dX11_undo_0 rfl 0 rfl ?_
  refine w_iconst C 0 dX11_undo_1 rfl (by decide) ?_
  refine w_put C 0 4 0 (Nat.le_of_ble_eq_true rfl) rfl rfl inB_X11 tyX11_ok nmX11 (by decide) tw6_165 rfl rfl rfl (Nat.le_of_ble_eq_true rfl) rfl dX11_undo_2 rfl ?_
  refine w_nst h (fun u2 h => ?_)
  refine w_aload_n C dX11_undo_5 rfl 0 rfl ?_
  refine w_get C 0 33 (Nat.le_of_ble_eq_true rfl) rfl rfl inB_X11 (by decide) tw6_194 rfl dX11_undo_6 rfl ?_
  refine w_if_ne C (qt := 14) dX11_undo_9 (by decide) rfl h (fun _ h => ?_) (fun _ h => ?_)
  · refine w_aload_n C dX11_undo_14 rfl 0 rfl ?_
    refine w_dup C rfl dX11_undo_15 rfl ?_
    refine w_get C 0 33 (Nat.le_of_ble_eq_true rfl) rfl rfl inB_X11 (by decide) tw6_194 rfl dX11_undo_16 rfl ?_
    refine w_iconst C 1 dX11_undo_19 rfl (by decide) ?_
    refine w_isub C dX11_undo_20 rfl ?_
    refine w_put C 0 33 ((u2 0 33) - 1) (Nat.le_of_ble_eq_true rfl) rfl rfl inB_X11 tyX11_ok nmX11 (by decide) tw6_194 rfl rfl rfl (Nat.le_of_ble_eq_true rfl) rfl dX11_undo_21 rfl ?_
    refine w_nst h (fun u4 h => ?_)
    refine w_aload_n C dX11_undo_24 rfl 0 rfl ?_
    refine w_aload_n C dX11_undo_25 rfl 0 rfl ?_
    refine w_get C 0 30 (Nat.le_of_ble_eq_true rfl) rfl rfl inB_X11 (by decide) tw6_191 rfl dX11_undo_26 rfl ?_
    refine w_sipush C 138 dX11_undo_29 rfl (by decide) ?_
    refine w_aload_n C dX11_undo_32 rfl 0 rfl ?_
    refine w_get C 0 33 (Nat.le_of_ble_eq_true rfl) rfl rfl inB_X11 (by decide) tw6_194 rfl dX11_undo_33 rfl ?_
    refine w_imul C dX11_undo_36 rfl ?_
    refine bd1_w h (fun u5 hc h => ?_)
    refine w_callVv C (n := 2) (As := [.ref (ad 20), .int (138 * (u4 0 33))]) (st := []) 0 (Nat.le_of_ble_eq_true rfl) rfl rfl (cfX11_unpack D cI cT ad (l := X.2.1) C.2.2.1 hc) tw8_192 cy_X11_unpack (by decide +kernel) ⟨Nat.le_of_ble_eq_true rfl, Nat.le_of_ble_eq_true rfl⟩ (by decide) rfl rfl (Nat.le_of_ble_eq_true rfl) dX11_undo_37 rfl ?_
    refine w_aload_n C dX11_undo_40 rfl 0 rfl ?_
    refine w_get C 0 33 (Nat.le_of_ble_eq_true rfl) rfl rfl inB_X11 (by decide) tw6_194 rfl dX11_undo_41 rfl ?_
    exact w_ri2 hr h (by decide) dX11_undo_44
  · refine w_iconst C (-1) dX11_undo_12 rfl (by decide) ?_
    exact w_ri2 hr h (by decide) dX11_undo_13
theorem cfX11_undo (D : va_G) (cI cT : ClassId) (ad : Nat → Nat) {l : Launch} (had : gAp (gM D cI cT ad)) {F : Nat} {σ : St}  {r : Int32} {σ' : St} (h : fX11_undo F σ = some (r, σ')) : MI l yX11_undo (wB yX11_undo cX11_undo 1 (some .int)) 1 24 (gM D cI cT ad) [.ref (ad 0)] σ r σ' := mk_MI had (by decide +kernel) (Nat.le_of_ble_eq_true rfl) (fun X hX C hr => wfX11_undo C hr h)

def fX11_endsWellBy (F : Nat) (σ : St) (a0 : Int32) (a1 : Int32) (a2 : Int32) : Option (Int32 × St) := nm ((10 * a0) + a1) fun x1 => ckI (x1) 160 (nm (σ 13 (Int32.toNatClampNeg x1)) fun x2 => ckI (x1) 160 (nm (up σ 13 (Int32.toNatClampNeg x1) a2) fun u3 => bd2 (fX11_endsWell F u3 a0) fun r4 u5 => ckI (x1) 160 (nm (up u5 13 (Int32.toNatClampNeg x1) x2) fun u6 => ckB (r4) (some (r4, u6)))))
set_option maxRecDepth 20000 in
theorem wfX11_endsWellBy {X : XT} {D : va_G} {cI cT : ClassId} {ad : Nat → Nat} {F : Nat} {σ : St} {a0 : Int32} {a1 : Int32} {a2 : Int32} {r : Int32} {σ' : St} (C : Cx X (gM D cI cT ad) cX11_endsWellBy 7 RX11 5 119 0) (hr : RetZ X (gM D cI cT ad) cX11_endsWellBy 7 0 r σ') (h : fX11_endsWellBy F σ a0 a1 a2 = some (r, σ')) : WP X (gM D cI cT ad) 7 0 0 σ [(0, .ref (ad 0)), (1, .int a0), (2, .int a1), (3, .int a2)] [] := by
  unfold fX11_endsWellBy at h
  refine w_bipush C 10 dX11_endsWellBy_0 rfl (by decide) ?_
  refine w_iload_n C dX11_endsWellBy_2 rfl 1 rfl ?_
  refine w_imul C dX11_endsWellBy_3 rfl ?_
  refine w_iload_n C dX11_endsWellBy_4 rfl 2 rfl ?_
  refine w_iadd C dX11_endsWellBy_5 rfl ?_
  refine w_nm h (fun x1 h => ?_)
  refine w_istore C [(4, .int x1), (0, .ref (ad 0)), (1, .int a0), (2, .int a1), (3, .int a2)] dX11_endsWellBy_6 rfl (by decide) rfl ?_
  refine w_aload_n C dX11_endsWellBy_8 rfl 1 rfl ?_
  refine w_get C 0 13 (Nat.le_of_ble_eq_true rfl) rfl rfl inB_X11 (by decide) tw6_174 rfl dX11_endsWellBy_9 rfl ?_
  refine w_iload C dX11_endsWellBy_12 rfl 0 rfl ?_
  refine w_iald C 13 160 0 (Nat.le_of_ble_eq_true rfl) (fun _ => rfl) rfl h dX11_endsWellBy_14 rfl (fun h => ?_)
  refine w_nm h (fun x2 h => ?_)
  refine w_istore C [(5, .int x2), (4, .int x1), (0, .ref (ad 0)), (1, .int a0), (2, .int a1), (3, .int a2)] dX11_endsWellBy_15 rfl (by decide) rfl ?_
  refine w_aload_n C dX11_endsWellBy_17 rfl 2 rfl ?_
  refine w_get C 0 13 (Nat.le_of_ble_eq_true rfl) rfl rfl inB_X11 (by decide) tw6_174 rfl dX11_endsWellBy_18 rfl ?_
  refine w_iload C dX11_endsWellBy_21 rfl 1 rfl ?_
  refine w_iload_n C dX11_endsWellBy_23 rfl 5 rfl ?_
  refine w_iast C 13 160 0 (Nat.le_of_ble_eq_true rfl) (fun _ => rfl) rfl h dX11_endsWellBy_24 rfl (fun h => ?_)
  refine w_nst h (fun u3 h => ?_)
  refine w_aload_n C dX11_endsWellBy_25 rfl 2 rfl ?_
  refine w_iload_n C dX11_endsWellBy_26 rfl 3 rfl ?_
  refine bd2_w h (fun r4 u5 hc h => ?_)
  refine w_callVi C (n := 1) (As := [.int a0]) (st := []) 0 (Nat.le_of_ble_eq_true rfl) rfl rfl (cfX11_endsWell D cI cT ad (l := X.2.1) C.2.2.1 hc) tw8_12 cy_X11_endsWell (by decide +kernel) ⟨Nat.le_of_ble_eq_true rfl, Nat.le_of_ble_eq_true rfl⟩ (by decide) rfl rfl (Nat.le_of_ble_eq_true rfl) dX11_endsWellBy_27 rfl ?_
  refine w_istore C [(6, .int r4), (5, .int x2), (4, .int x1), (0, .ref (ad 0)), (1, .int a0), (2, .int a1), (3, .int a2)] dX11_endsWellBy_30 rfl (by decide) rfl ?_
  refine w_aload_n C dX11_endsWellBy_32 rfl 3 rfl ?_
  refine w_get C 0 13 (Nat.le_of_ble_eq_true rfl) rfl rfl inB_X11 (by decide) tw6_174 rfl dX11_endsWellBy_33 rfl ?_
  refine w_iload C dX11_endsWellBy_36 rfl 2 rfl ?_
  refine w_iload C dX11_endsWellBy_38 rfl 1 rfl ?_
  refine w_iast C 13 160 0 (Nat.le_of_ble_eq_true rfl) (fun _ => rfl) rfl h dX11_endsWellBy_40 rfl (fun h => ?_)
  refine w_nst h (fun u6 h => ?_)
  refine w_iload C dX11_endsWellBy_41 rfl 0 rfl ?_
  obtain ⟨hz, h⟩ := ckB_w h
  exact w_rz2 hr hz h (by decide) dX11_endsWellBy_43
theorem cfX11_endsWellBy (D : va_G) (cI cT : ClassId) (ad : Nat → Nat) {l : Launch} (had : gAp (gM D cI cT ad)) {F : Nat} {σ : St} {a0 : Int32} {a1 : Int32} {a2 : Int32} {r : Int32} {σ' : St} (h : fX11_endsWellBy F σ a0 a1 a2 = some (r, σ')) : MI l yX11_endsWellBy (wB yX11_endsWellBy cX11_endsWellBy 7 (some .boolean)) 5 119 (gM D cI cT ad) [.ref (ad 0), .int a0, .int a1, .int a2] σ r σ' := mk_MZ had (by decide +kernel) (Nat.le_of_ble_eq_true rfl) (fun X hX C hr => wfX11_endsWellBy C hr h)

def fX11_mendFrom (F : Nat) (σ : St) (a0 : Int32) (a1 : Int32) : Option (Int32 × St) := lp (fun (K2 : (St × Int32) → Option (Int32 × St)) (v1 : St × Int32) => ckI (a0) 16 (if (v1.1 10 (Int32.toNatClampNeg a0)) ≤ v1.2 then (some ((-1), v1.1)) else lp (fun (K5 : (St × Int32) → Option (Int32 × St)) (v4 : St × Int32) => if (10 : Int32) ≤ v4.2 then (K2 ((v4.1, v1.2 + 1))) else bd1 (fX11_isLimp F v4.1 a0 v1.2) fun r7 => if r7 = 0 then (K2 ((v4.1, v1.2 + 1))) else ckI ((10 * a0) + v1.2) 160 (if v4.2 = (v4.1 13 (Int32.toNatClampNeg ((10 * a0) + v1.2))) then (K5 ((v4.1, v4.2 + 1))) else bd2 (fX11_endsWellBy F v4.1 a0 v1.2 v4.2) fun r8 u9 => if r8 = 0 then (K5 ((u9, v4.2 + 1))) else some ((10 * v1.2) + v4.2, u9))) F ((v1.1, 0)))) F ((σ, a1))
set_option maxRecDepth 20000 in
theorem wfX11_mendFrom {X : XT} {D : va_G} {cI cT : ClassId} {ad : Nat → Nat} {F : Nat} {σ : St} {a0 : Int32} {a1 : Int32} {r : Int32} {σ' : St} (C : Cx X (gM D cI cT ad) cX11_mendFrom 5 RX11 6 145 0) (hr : RetI X (gM D cI cT ad) cX11_mendFrom 5 0 r σ') (h : fX11_mendFrom F σ a0 a1 = some (r, σ')) : WP X (gM D cI cT ad) 5 0 0 σ [(0, .ref (ad 0)), (1, .int a0), (2, .int a1)] [] := by
  unfold fX11_mendFrom at h
  refine w_iload_n C dX11_mendFrom_0 rfl 2 rfl ?_
  refine w_istore_n C [(3, .int a1), (0, .ref (ad 0)), (1, .int a0), (2, .int a1)] dX11_mendFrom_1 rfl (by decide) rfl ?_
  refine w_sub (lv' := [(3, .int a1), (0, .ref (ad 0)), (1, .int a0)]) [0, 1, 2] rfl ?_
  refine lp_w (fun v1 : St × Int32 => WP X (gM D cI cT ad) 5 0 2 v1.1 [(3, .int v1.2), (0, .ref (ad 0)), (1, .int a0)] []) (fun K2 hK3 v1 h => ?_) F _ h
  refine w_iload_n C dX11_mendFrom_2 rfl 0 rfl ?_
  refine w_aload_n C dX11_mendFrom_3 rfl 1 rfl ?_
  refine w_get C 0 10 (Nat.le_of_ble_eq_true rfl) rfl rfl inB_X11 (by decide) tw6_171 rfl dX11_mendFrom_4 rfl ?_
  refine w_iload_n C dX11_mendFrom_7 rfl 2 rfl ?_
  refine w_iald C 10 16 0 (Nat.le_of_ble_eq_true rfl) (fun _ => rfl) rfl h dX11_mendFrom_8 rfl (fun h => ?_)
  refine w_icmp_ge C (qt := 78) dX11_mendFrom_9 (by decide) rfl h (fun _ h => ?_) (fun _ h => ?_)
  · refine w_iconst C (-1) dX11_mendFrom_78 rfl (by decide) ?_
    exact w_ri2 hr h (by decide) dX11_mendFrom_79
  · refine w_iconst C 0 dX11_mendFrom_12 rfl (by decide) ?_
    refine w_istore C [(4, .int 0), (3, .int v1.2), (0, .ref (ad 0)), (1, .int a0)] dX11_mendFrom_13 rfl (by decide) rfl ?_
    refine w_sub (lv' := [(4, .int 0), (3, .int v1.2), (0, .ref (ad 0)), (1, .int a0)]) [0, 1, 2, 3] rfl ?_
    refine lp_w (fun v4 : St × Int32 => WP X (gM D cI cT ad) 5 0 15 v4.1 [(4, .int v4.2), (3, .int v1.2), (0, .ref (ad 0)), (1, .int a0)] []) (fun K5 hK6 v4 h => ?_) F _ h
    refine w_iload C dX11_mendFrom_15 rfl 0 rfl ?_
    refine w_bipush C 10 dX11_mendFrom_17 rfl (by decide) ?_
    refine w_icmp_ge C (qt := 72) dX11_mendFrom_19 (by decide) rfl h (fun _ h => ?_) (fun _ h => ?_)
    · refine w_iinc (j := 1) C (v1.2 + 1) [(3, .int (v1.2 + 1)), (4, .int v4.2), (0, .ref (ad 0)), (1, .int a0)] dX11_mendFrom_72 rfl rfl rfl (by decide) rfl ?_
      refine w_goto (q := 2) C dX11_mendFrom_75 (by decide) ?_
      exact w_sub (lv' := [(3, .int (v1.2 + 1)), (0, .ref (ad 0)), (1, .int a0)]) [0, 2, 3] rfl (hK3 ((v4.1, v1.2 + 1)) h)
    · refine w_aload_n C dX11_mendFrom_22 rfl 2 rfl ?_
      refine w_iload_n C dX11_mendFrom_23 rfl 3 rfl ?_
      refine w_iload_n C dX11_mendFrom_24 rfl 1 rfl ?_
      refine bd1_w h (fun r7 hc h => ?_)
      refine w_callVi C (n := 2) (As := [.int a0, .int v1.2]) (st := []) 0 (Nat.le_of_ble_eq_true rfl) rfl rfl (cfX11_isLimp D cI cT ad (l := X.2.1) C.2.2.1 hc) tw8_179 cy_X11_isLimp (by decide +kernel) ⟨Nat.le_of_ble_eq_true rfl, Nat.le_of_ble_eq_true rfl⟩ (by decide) rfl rfl (Nat.le_of_ble_eq_true rfl) dX11_mendFrom_25 rfl ?_
      refine w_if_eq C (qt := 72) dX11_mendFrom_28 (by decide) rfl h (fun _ h => ?_) (fun _ h => ?_)
      · refine w_iinc (j := 1) C (v1.2 + 1) [(3, .int (v1.2 + 1)), (4, .int v4.2), (0, .ref (ad 0)), (1, .int a0)] dX11_mendFrom_72 rfl rfl rfl (by decide) rfl ?_
        refine w_goto (q := 2) C dX11_mendFrom_75 (by decide) ?_
        exact w_sub (lv' := [(3, .int (v1.2 + 1)), (0, .ref (ad 0)), (1, .int a0)]) [0, 2, 3] rfl (hK3 ((v4.1, v1.2 + 1)) h)
      · refine w_iload C dX11_mendFrom_31 rfl 0 rfl ?_
        refine w_aload_n C dX11_mendFrom_33 rfl 2 rfl ?_
        refine w_get C 0 13 (Nat.le_of_ble_eq_true rfl) rfl rfl inB_X11 (by decide) tw6_174 rfl dX11_mendFrom_34 rfl ?_
        refine w_bipush C 10 dX11_mendFrom_37 rfl (by decide) ?_
        refine w_iload_n C dX11_mendFrom_39 rfl 3 rfl ?_
        refine w_imul C dX11_mendFrom_40 rfl ?_
        refine w_iload_n C dX11_mendFrom_41 rfl 1 rfl ?_
        refine w_iadd C dX11_mendFrom_42 rfl ?_
        refine w_iald C 13 160 0 (Nat.le_of_ble_eq_true rfl) (fun _ => rfl) rfl h dX11_mendFrom_43 rfl (fun h => ?_)
        refine w_icmp_eq C (qt := 66) dX11_mendFrom_44 (by decide) rfl h (fun _ h => ?_) (fun _ h => ?_)
        · refine w_iinc (j := 0) C (v4.2 + 1) [(4, .int (v4.2 + 1)), (3, .int v1.2), (0, .ref (ad 0)), (1, .int a0)] dX11_mendFrom_66 rfl rfl rfl (by decide) rfl ?_
          refine w_goto (q := 15) C dX11_mendFrom_69 (by decide) ?_
          exact w_sub (lv' := [(4, .int (v4.2 + 1)), (3, .int v1.2), (0, .ref (ad 0)), (1, .int a0)]) [0, 1, 2, 3] rfl (hK6 ((v4.1, v4.2 + 1)) h)
        · refine w_aload_n C dX11_mendFrom_47 rfl 2 rfl ?_
          refine w_iload_n C dX11_mendFrom_48 rfl 3 rfl ?_
          refine w_iload_n C dX11_mendFrom_49 rfl 1 rfl ?_
          refine w_iload C dX11_mendFrom_50 rfl 0 rfl ?_
          refine bd2_w h (fun r8 u9 hc h => ?_)
          refine w_callVi C (n := 3) (As := [.int a0, .int v1.2, .int v4.2]) (st := []) 0 (Nat.le_of_ble_eq_true rfl) rfl rfl (cfX11_endsWellBy D cI cT ad (l := X.2.1) C.2.2.1 hc) tw8_204 cy_X11_endsWellBy (by decide +kernel) ⟨Nat.le_of_ble_eq_true rfl, Nat.le_of_ble_eq_true rfl⟩ (by decide) rfl rfl (Nat.le_of_ble_eq_true rfl) dX11_mendFrom_52 rfl ?_
          refine w_if_eq C (qt := 66) dX11_mendFrom_55 (by decide) rfl h (fun _ h => ?_) (fun _ h => ?_)
          · refine w_iinc (j := 0) C (v4.2 + 1) [(4, .int (v4.2 + 1)), (3, .int v1.2), (0, .ref (ad 0)), (1, .int a0)] dX11_mendFrom_66 rfl rfl rfl (by decide) rfl ?_
            refine w_goto (q := 15) C dX11_mendFrom_69 (by decide) ?_
            exact w_sub (lv' := [(4, .int (v4.2 + 1)), (3, .int v1.2), (0, .ref (ad 0)), (1, .int a0)]) [0, 1, 2, 3] rfl (hK6 ((u9, v4.2 + 1)) h)
          · refine w_bipush C 10 dX11_mendFrom_58 rfl (by decide) ?_
            refine w_iload_n C dX11_mendFrom_60 rfl 1 rfl ?_
            refine w_imul C dX11_mendFrom_61 rfl ?_
            refine w_iload C dX11_mendFrom_62 rfl 0 rfl ?_
            refine w_iadd C dX11_mendFrom_64 rfl ?_
            exact w_ri2 hr h (by decide) dX11_mendFrom_65
theorem cfX11_mendFrom (D : va_G) (cI cT : ClassId) (ad : Nat → Nat) {l : Launch} (had : gAp (gM D cI cT ad)) {F : Nat} {σ : St} {a0 : Int32} {a1 : Int32} {r : Int32} {σ' : St} (h : fX11_mendFrom F σ a0 a1 = some (r, σ')) : MI l yX11_mendFrom (wB yX11_mendFrom cX11_mendFrom 5 (some .int)) 6 145 (gM D cI cT ad) [.ref (ad 0), .int a0, .int a1] σ r σ' := mk_MI had (by decide +kernel) (Nat.le_of_ble_eq_true rfl) (fun X hX C hr => wfX11_mendFrom C hr h)

def fX11_mendBoth (F : Nat) (σ : St) (a0 : Int32) (a1 : Int32) (a2 : Int32) : Option (Int32 × St) := nm ((10 * a0) + a1) fun x1 => ckI (x1) 160 (nm (σ 13 (Int32.toNatClampNeg x1)) fun x2 => lp (fun (K4 : (St × Int32 × Int32) → Option (Int32 × St)) (v3 : St × Int32 × Int32) => if (10 : Int32) ≤ v3.2.1 then (ckI (x1) 160 (nm (up v3.1 13 (Int32.toNatClampNeg x1) x2) fun u6 => some (v3.2.2, u6))) else if v3.2.2 = (-1 : Int32) then (if v3.2.1 = x2 then (K4 ((v3.1, v3.2.1 + 1, v3.2.2))) else ckI (x1) 160 (nm (up v3.1 13 (Int32.toNatClampNeg x1) v3.2.1) fun u8 => lp (fun (K10 : (St × Int32 × Int32) → Option (Int32 × St)) (v9 : St × Int32 × Int32) => if (10 : Int32) ≤ v9.2.1 then (K4 ((v9.1, v3.2.1 + 1, v9.2.2))) else if v9.2.2 = (-1 : Int32) then (ckI ((10 * a0) + a2) 160 (if v9.2.1 = (v9.1 13 (Int32.toNatClampNeg ((10 * a0) + a2))) then (K10 ((v9.1, v9.2.1 + 1, v9.2.2))) else bd2 (fX11_endsWellBy F v9.1 a0 a2 v9.2.1) fun r12 u13 => if r12 = 0 then (K10 ((u13, v9.2.1 + 1, v9.2.2))) else nm (((100 * ((10 * a1) + v3.2.1)) + (10 * a2)) + v9.2.1) fun x14 => K10 ((u13, v9.2.1 + 1, x14)))) else K4 ((v9.1, v3.2.1 + 1, v9.2.2))) F ((u8, 0, v3.2.2)))) else ckI (x1) 160 (nm (up v3.1 13 (Int32.toNatClampNeg x1) x2) fun u7 => some (v3.2.2, u7))) F ((σ, 0, (-1))))
set_option maxRecDepth 20000 in
theorem wfX11_mendBoth {X : XT} {D : va_G} {cI cT : ClassId} {ad : Nat → Nat} {F : Nat} {σ : St} {a0 : Int32} {a1 : Int32} {a2 : Int32} {r : Int32} {σ' : St} (C : Cx X (gM D cI cT ad) cX11_mendBoth 9 RX11 6 145 0) (hr : RetI X (gM D cI cT ad) cX11_mendBoth 9 0 r σ') (h : fX11_mendBoth F σ a0 a1 a2 = some (r, σ')) : WP X (gM D cI cT ad) 9 0 0 σ [(0, .ref (ad 0)), (1, .int a0), (2, .int a1), (3, .int a2)] [] := by
  unfold fX11_mendBoth at h
  refine w_bipush C 10 dX11_mendBoth_0 rfl (by decide) ?_
  refine w_iload_n C dX11_mendBoth_2 rfl 1 rfl ?_
  refine w_imul C dX11_mendBoth_3 rfl ?_
  refine w_iload_n C dX11_mendBoth_4 rfl 2 rfl ?_
  refine w_iadd C dX11_mendBoth_5 rfl ?_
  refine w_nm h (fun x1 h => ?_)
  refine w_istore C [(4, .int x1), (0, .ref (ad 0)), (1, .int a0), (2, .int a1), (3, .int a2)] dX11_mendBoth_6 rfl (by decide) rfl ?_
  refine w_aload_n C dX11_mendBoth_8 rfl 1 rfl ?_
  refine w_get C 0 13 (Nat.le_of_ble_eq_true rfl) rfl rfl inB_X11 (by decide) tw6_174 rfl dX11_mendBoth_9 rfl ?_
  refine w_iload C dX11_mendBoth_12 rfl 0 rfl ?_
  refine w_iald C 13 160 0 (Nat.le_of_ble_eq_true rfl) (fun _ => rfl) rfl h dX11_mendBoth_14 rfl (fun h => ?_)
  refine w_nm h (fun x2 h => ?_)
  refine w_istore C [(5, .int x2), (4, .int x1), (0, .ref (ad 0)), (1, .int a0), (2, .int a1), (3, .int a2)] dX11_mendBoth_15 rfl (by decide) rfl ?_
  refine w_iconst C (-1) dX11_mendBoth_17 rfl (by decide) ?_
  refine w_istore C [(6, .int ((-1))), (5, .int x2), (4, .int x1), (0, .ref (ad 0)), (1, .int a0), (2, .int a1), (3, .int a2)] dX11_mendBoth_18 rfl (by decide) rfl ?_
  refine w_iconst C 0 dX11_mendBoth_20 rfl (by decide) ?_
  refine w_istore C [(7, .int 0), (6, .int ((-1))), (5, .int x2), (4, .int x1), (0, .ref (ad 0)), (1, .int a0), (2, .int a1), (3, .int a2)] dX11_mendBoth_21 rfl (by decide) rfl ?_
  refine w_sub (lv' := [(7, .int 0), (6, .int ((-1))), (5, .int x2), (4, .int x1), (0, .ref (ad 0)), (1, .int a0), (2, .int a1), (3, .int a2)]) [0, 1, 2, 3, 4, 5, 6, 7] rfl ?_
  refine lp_w (fun v3 : St × Int32 × Int32 => WP X (gM D cI cT ad) 9 0 23 v3.1 [(7, .int v3.2.1), (6, .int v3.2.2), (5, .int x2), (4, .int x1), (0, .ref (ad 0)), (1, .int a0), (2, .int a1), (3, .int a2)] []) (fun K4 hK5 v3 h => ?_) F _ h
  refine w_iload C dX11_mendBoth_23 rfl 0 rfl ?_
  refine w_bipush C 10 dX11_mendBoth_25 rfl (by decide) ?_
  refine w_icmp_ge C (qt := 130) dX11_mendBoth_27 (by decide) rfl h (fun _ h => ?_) (fun _ h => ?_)
  · refine w_aload_n C dX11_mendBoth_130 rfl 4 rfl ?_
    refine w_get C 0 13 (Nat.le_of_ble_eq_true rfl) rfl rfl inB_X11 (by decide) tw6_174 rfl dX11_mendBoth_131 rfl ?_
    refine w_iload C dX11_mendBoth_134 rfl 3 rfl ?_
    refine w_iload C dX11_mendBoth_136 rfl 2 rfl ?_
    refine w_iast C 13 160 0 (Nat.le_of_ble_eq_true rfl) (fun _ => rfl) rfl h dX11_mendBoth_138 rfl (fun h => ?_)
    refine w_nst h (fun u6 h => ?_)
    refine w_iload C dX11_mendBoth_139 rfl 1 rfl ?_
    exact w_ri2 hr h (by decide) dX11_mendBoth_141
  · refine w_iload C dX11_mendBoth_30 rfl 1 rfl ?_
    refine w_iconst C (-1) dX11_mendBoth_32 rfl (by decide) ?_
    refine w_icmp_ne C (qt := 130) dX11_mendBoth_33 (by decide) rfl h (fun _ h => ?_) (fun _ h => ?_)
    · refine w_aload_n C dX11_mendBoth_130 rfl 4 rfl ?_
      refine w_get C 0 13 (Nat.le_of_ble_eq_true rfl) rfl rfl inB_X11 (by decide) tw6_174 rfl dX11_mendBoth_131 rfl ?_
      refine w_iload C dX11_mendBoth_134 rfl 3 rfl ?_
      refine w_iload C dX11_mendBoth_136 rfl 2 rfl ?_
      refine w_iast C 13 160 0 (Nat.le_of_ble_eq_true rfl) (fun _ => rfl) rfl h dX11_mendBoth_138 rfl (fun h => ?_)
      refine w_nst h (fun u7 h => ?_)
      refine w_iload C dX11_mendBoth_139 rfl 1 rfl ?_
      exact w_ri2 hr h (by decide) dX11_mendBoth_141
    · refine w_iload C dX11_mendBoth_36 rfl 0 rfl ?_
      refine w_iload C dX11_mendBoth_38 rfl 2 rfl ?_
      refine w_icmp_ne C (qt := 46) dX11_mendBoth_40 (by decide) rfl h (fun _ h => ?_) (fun _ h => ?_)
      · refine w_aload_n C dX11_mendBoth_46 rfl 4 rfl ?_
        refine w_get C 0 13 (Nat.le_of_ble_eq_true rfl) rfl rfl inB_X11 (by decide) tw6_174 rfl dX11_mendBoth_47 rfl ?_
        refine w_iload C dX11_mendBoth_50 rfl 3 rfl ?_
        refine w_iload C dX11_mendBoth_52 rfl 0 rfl ?_
        refine w_iast C 13 160 0 (Nat.le_of_ble_eq_true rfl) (fun _ => rfl) rfl h dX11_mendBoth_54 rfl (fun h => ?_)
        refine w_nst h (fun u8 h => ?_)
        refine w_iconst C 0 dX11_mendBoth_55 rfl (by decide) ?_
        refine w_istore C [(8, .int 0), (7, .int v3.2.1), (6, .int v3.2.2), (5, .int x2), (4, .int x1), (0, .ref (ad 0)), (1, .int a0), (2, .int a1), (3, .int a2)] dX11_mendBoth_56 rfl (by decide) rfl ?_
        refine w_sub (lv' := [(8, .int 0), (7, .int v3.2.1), (6, .int v3.2.2), (5, .int x2), (4, .int x1), (0, .ref (ad 0)), (1, .int a0), (2, .int a1), (3, .int a2)]) [0, 1, 2, 3, 4, 5, 6, 7, 8] rfl ?_
        refine lp_w (fun v9 : St × Int32 × Int32 => WP X (gM D cI cT ad) 9 0 58 v9.1 [(8, .int v9.2.1), (7, .int v3.2.1), (6, .int v9.2.2), (5, .int x2), (4, .int x1), (0, .ref (ad 0)), (1, .int a0), (2, .int a1), (3, .int a2)] []) (fun K10 hK11 v9 h => ?_) F _ h
        refine w_iload C dX11_mendBoth_58 rfl 0 rfl ?_
        refine w_bipush C 10 dX11_mendBoth_60 rfl (by decide) ?_
        refine w_icmp_ge C (qt := 124) dX11_mendBoth_62 (by decide) rfl h (fun _ h => ?_) (fun _ h => ?_)
        · refine w_iinc (j := 1) C (v3.2.1 + 1) [(7, .int (v3.2.1 + 1)), (8, .int v9.2.1), (6, .int v9.2.2), (5, .int x2), (4, .int x1), (0, .ref (ad 0)), (1, .int a0), (2, .int a1), (3, .int a2)] dX11_mendBoth_124 rfl rfl rfl (by decide) rfl ?_
          refine w_goto (q := 23) C dX11_mendBoth_127 (by decide) ?_
          exact w_sub (lv' := [(7, .int (v3.2.1 + 1)), (6, .int v9.2.2), (5, .int x2), (4, .int x1), (0, .ref (ad 0)), (1, .int a0), (2, .int a1), (3, .int a2)]) [0, 2, 3, 4, 5, 6, 7, 8] rfl (hK5 ((v9.1, v3.2.1 + 1, v9.2.2)) h)
        · refine w_iload C dX11_mendBoth_65 rfl 2 rfl ?_
          refine w_iconst C (-1) dX11_mendBoth_67 rfl (by decide) ?_
          refine w_icmp_ne C (qt := 124) dX11_mendBoth_68 (by decide) rfl h (fun _ h => ?_) (fun _ h => ?_)
          · refine w_iinc (j := 1) C (v3.2.1 + 1) [(7, .int (v3.2.1 + 1)), (8, .int v9.2.1), (6, .int v9.2.2), (5, .int x2), (4, .int x1), (0, .ref (ad 0)), (1, .int a0), (2, .int a1), (3, .int a2)] dX11_mendBoth_124 rfl rfl rfl (by decide) rfl ?_
            refine w_goto (q := 23) C dX11_mendBoth_127 (by decide) ?_
            exact w_sub (lv' := [(7, .int (v3.2.1 + 1)), (6, .int v9.2.2), (5, .int x2), (4, .int x1), (0, .ref (ad 0)), (1, .int a0), (2, .int a1), (3, .int a2)]) [0, 2, 3, 4, 5, 6, 7, 8] rfl (hK5 ((v9.1, v3.2.1 + 1, v9.2.2)) h)
          · refine w_iload C dX11_mendBoth_71 rfl 0 rfl ?_
            refine w_aload_n C dX11_mendBoth_73 rfl 5 rfl ?_
            refine w_get C 0 13 (Nat.le_of_ble_eq_true rfl) rfl rfl inB_X11 (by decide) tw6_174 rfl dX11_mendBoth_74 rfl ?_
            refine w_bipush C 10 dX11_mendBoth_77 rfl (by decide) ?_
            refine w_iload_n C dX11_mendBoth_79 rfl 6 rfl ?_
            refine w_imul C dX11_mendBoth_80 rfl ?_
            refine w_iload_n C dX11_mendBoth_81 rfl 8 rfl ?_
            refine w_iadd C dX11_mendBoth_82 rfl ?_
            refine w_iald C 13 160 0 (Nat.le_of_ble_eq_true rfl) (fun _ => rfl) rfl h dX11_mendBoth_83 rfl (fun h => ?_)
            refine w_icmp_eq C (qt := 118) dX11_mendBoth_84 (by decide) rfl h (fun _ h => ?_) (fun _ h => ?_)
            · refine w_iinc (j := 0) C (v9.2.1 + 1) [(8, .int (v9.2.1 + 1)), (7, .int v3.2.1), (6, .int v9.2.2), (5, .int x2), (4, .int x1), (0, .ref (ad 0)), (1, .int a0), (2, .int a1), (3, .int a2)] dX11_mendBoth_118 rfl rfl rfl (by decide) rfl ?_
              refine w_goto (q := 58) C dX11_mendBoth_121 (by decide) ?_
              exact w_sub (lv' := [(8, .int (v9.2.1 + 1)), (7, .int v3.2.1), (6, .int v9.2.2), (5, .int x2), (4, .int x1), (0, .ref (ad 0)), (1, .int a0), (2, .int a1), (3, .int a2)]) [0, 1, 2, 3, 4, 5, 6, 7, 8] rfl (hK11 ((v9.1, v9.2.1 + 1, v9.2.2)) h)
            · refine w_aload_n C dX11_mendBoth_87 rfl 5 rfl ?_
              refine w_iload_n C dX11_mendBoth_88 rfl 6 rfl ?_
              refine w_iload_n C dX11_mendBoth_89 rfl 8 rfl ?_
              refine w_iload C dX11_mendBoth_90 rfl 0 rfl ?_
              refine bd2_w h (fun r12 u13 hc h => ?_)
              refine w_callVi C (n := 3) (As := [.int a0, .int a2, .int v9.2.1]) (st := []) 0 (Nat.le_of_ble_eq_true rfl) rfl rfl (cfX11_endsWellBy D cI cT ad (l := X.2.1) C.2.2.1 hc) tw8_204 cy_X11_endsWellBy (by decide +kernel) ⟨Nat.le_of_ble_eq_true rfl, Nat.le_of_ble_eq_true rfl⟩ (by decide) rfl rfl (Nat.le_of_ble_eq_true rfl) dX11_mendBoth_92 rfl ?_
              refine w_if_eq C (qt := 118) dX11_mendBoth_95 (by decide) rfl h (fun _ h => ?_) (fun _ h => ?_)
              · refine w_iinc (j := 0) C (v9.2.1 + 1) [(8, .int (v9.2.1 + 1)), (7, .int v3.2.1), (6, .int v9.2.2), (5, .int x2), (4, .int x1), (0, .ref (ad 0)), (1, .int a0), (2, .int a1), (3, .int a2)] dX11_mendBoth_118 rfl rfl rfl (by decide) rfl ?_
                refine w_goto (q := 58) C dX11_mendBoth_121 (by decide) ?_
                exact w_sub (lv' := [(8, .int (v9.2.1 + 1)), (7, .int v3.2.1), (6, .int v9.2.2), (5, .int x2), (4, .int x1), (0, .ref (ad 0)), (1, .int a0), (2, .int a1), (3, .int a2)]) [0, 1, 2, 3, 4, 5, 6, 7, 8] rfl (hK11 ((u13, v9.2.1 + 1, v9.2.2)) h)
              · refine w_bipush C 100 dX11_mendBoth_98 rfl (by decide) ?_
                refine w_bipush C 10 dX11_mendBoth_100 rfl (by decide) ?_
                refine w_iload_n C dX11_mendBoth_102 rfl 7 rfl ?_
                refine w_imul C dX11_mendBoth_103 rfl ?_
                refine w_iload C dX11_mendBoth_104 rfl 1 rfl ?_
                refine w_iadd C dX11_mendBoth_106 rfl ?_
                refine w_imul C dX11_mendBoth_107 rfl ?_
                refine w_bipush C 10 dX11_mendBoth_108 rfl (by decide) ?_
                refine w_iload_n C dX11_mendBoth_110 rfl 8 rfl ?_
                refine w_imul C dX11_mendBoth_111 rfl ?_
                refine w_iadd C dX11_mendBoth_112 rfl ?_
                refine w_iload C dX11_mendBoth_113 rfl 0 rfl ?_
                refine w_iadd C dX11_mendBoth_115 rfl ?_
                refine w_nm h (fun x14 h => ?_)
                refine w_istore C [(6, .int x14), (8, .int v9.2.1), (7, .int v3.2.1), (5, .int x2), (4, .int x1), (0, .ref (ad 0)), (1, .int a0), (2, .int a1), (3, .int a2)] dX11_mendBoth_116 rfl (by decide) rfl ?_
                refine w_iinc (j := 1) C (v9.2.1 + 1) [(8, .int (v9.2.1 + 1)), (6, .int x14), (7, .int v3.2.1), (5, .int x2), (4, .int x1), (0, .ref (ad 0)), (1, .int a0), (2, .int a1), (3, .int a2)] dX11_mendBoth_118 rfl rfl rfl (by decide) rfl ?_
                refine w_goto (q := 58) C dX11_mendBoth_121 (by decide) ?_
                exact w_sub (lv' := [(8, .int (v9.2.1 + 1)), (7, .int v3.2.1), (6, .int x14), (5, .int x2), (4, .int x1), (0, .ref (ad 0)), (1, .int a0), (2, .int a1), (3, .int a2)]) [0, 2, 1, 3, 4, 5, 6, 7, 8] rfl (hK11 ((u13, v9.2.1 + 1, x14)) h)
      · refine w_goto (q := 124) C dX11_mendBoth_43 (by decide) ?_
        refine w_iinc (j := 0) C (v3.2.1 + 1) [(7, .int (v3.2.1 + 1)), (6, .int v3.2.2), (5, .int x2), (4, .int x1), (0, .ref (ad 0)), (1, .int a0), (2, .int a1), (3, .int a2)] dX11_mendBoth_124 rfl rfl rfl (by decide) rfl ?_
        refine w_goto (q := 23) C dX11_mendBoth_127 (by decide) ?_
        exact w_sub (lv' := [(7, .int (v3.2.1 + 1)), (6, .int v3.2.2), (5, .int x2), (4, .int x1), (0, .ref (ad 0)), (1, .int a0), (2, .int a1), (3, .int a2)]) [0, 1, 2, 3, 4, 5, 6, 7] rfl (hK5 ((v3.1, v3.2.1 + 1, v3.2.2)) h)
theorem cfX11_mendBoth (D : va_G) (cI cT : ClassId) (ad : Nat → Nat) {l : Launch} (had : gAp (gM D cI cT ad)) {F : Nat} {σ : St} {a0 : Int32} {a1 : Int32} {a2 : Int32} {r : Int32} {σ' : St} (h : fX11_mendBoth F σ a0 a1 a2 = some (r, σ')) : MI l yX11_mendBoth (wB yX11_mendBoth cX11_mendBoth 9 (some .int)) 6 145 (gM D cI cT ad) [.ref (ad 0), .int a0, .int a1, .int a2] σ r σ' := mk_MI had (by decide +kernel) (Nat.le_of_ble_eq_true rfl) (fun X hX C hr => wfX11_mendBoth C hr h)

def fX11_mendTwo (F : Nat) (σ : St) (a0 : Int32) : Option (Int32 × St) := lp (fun (K2 : (St × Int32) → Option (Int32 × St)) (v1 : St × Int32) => ckI (a0) 16 (if (v1.1 10 (Int32.toNatClampNeg a0)) ≤ v1.2 then (some ((-1), v1.1)) else nm (v1.2 + 1) fun x4 => lp (fun (K6 : (St × Int32) → Option (Int32 × St)) (v5 : St × Int32) => ckI (a0) 16 (if (v5.1 10 (Int32.toNatClampNeg a0)) ≤ v5.2 then (K2 ((v5.1, v1.2 + 1))) else bd1 (fX11_isLimp F v5.1 a0 v1.2) fun r8 => jn (fun v9 : St × Int32 => if v9.2 = (-1 : Int32) then (K6 ((v9.1, v5.2 + 1))) else some (v9.2, v9.1)) fun J10 => jn (fun v12 : Unit => J10 ((v5.1, (-1)))) fun J13 => if r8 = 0 then (J13 (())) else bd1 (fX11_isLimp F v5.1 a0 v5.2) fun r15 => if r15 = 0 then (J13 (())) else bd2 (fX11_mendBoth F v5.1 a0 v1.2 v5.2) fun r16 u17 => J10 ((u17, r16)))) F ((v1.1, x4)))) F ((σ, 0))
set_option maxRecDepth 20000 in
theorem wfX11_mendTwo {X : XT} {D : va_G} {cI cT : ClassId} {ad : Nat → Nat} {F : Nat} {σ : St} {a0 : Int32} {r : Int32} {σ' : St} (C : Cx X (gM D cI cT ad) cX11_mendTwo 5 RX11 7 173 0) (hr : RetI X (gM D cI cT ad) cX11_mendTwo 5 0 r σ') (h : fX11_mendTwo F σ a0 = some (r, σ')) : WP X (gM D cI cT ad) 5 0 0 σ [(0, .ref (ad 0)), (1, .int a0)] [] := by
  unfold fX11_mendTwo at h
  refine w_iconst C 0 dX11_mendTwo_0 rfl (by decide) ?_
  refine w_istore_n C [(2, .int 0), (0, .ref (ad 0)), (1, .int a0)] dX11_mendTwo_1 rfl (by decide) rfl ?_
  refine w_sub (lv' := [(2, .int 0), (0, .ref (ad 0)), (1, .int a0)]) [0, 1, 2] rfl ?_
  refine lp_w (fun v1 : St × Int32 => WP X (gM D cI cT ad) 5 0 2 v1.1 [(2, .int v1.2), (0, .ref (ad 0)), (1, .int a0)] []) (fun K2 hK3 v1 h => ?_) F _ h
  refine w_iload_n C dX11_mendTwo_2 rfl 0 rfl ?_
  refine w_aload_n C dX11_mendTwo_3 rfl 1 rfl ?_
  refine w_get C 0 10 (Nat.le_of_ble_eq_true rfl) rfl rfl inB_X11 (by decide) tw6_171 rfl dX11_mendTwo_4 rfl ?_
  refine w_iload_n C dX11_mendTwo_7 rfl 2 rfl ?_
  refine w_iald C 10 16 0 (Nat.le_of_ble_eq_true rfl) (fun _ => rfl) rfl h dX11_mendTwo_8 rfl (fun h => ?_)
  refine w_icmp_ge C (qt := 78) dX11_mendTwo_9 (by decide) rfl h (fun _ h => ?_) (fun _ h => ?_)
  · refine w_iconst C (-1) dX11_mendTwo_78 rfl (by decide) ?_
    exact w_ri2 hr h (by decide) dX11_mendTwo_79
  · refine w_iload_n C dX11_mendTwo_12 rfl 0 rfl ?_
    refine w_iconst C 1 dX11_mendTwo_13 rfl (by decide) ?_
    refine w_iadd C dX11_mendTwo_14 rfl ?_
    refine w_nm h (fun x4 h => ?_)
    refine w_istore_n C [(3, .int x4), (2, .int v1.2), (0, .ref (ad 0)), (1, .int a0)] dX11_mendTwo_15 rfl (by decide) rfl ?_
    refine w_sub (lv' := [(3, .int x4), (2, .int v1.2), (0, .ref (ad 0)), (1, .int a0)]) [0, 1, 2, 3] rfl ?_
    refine lp_w (fun v5 : St × Int32 => WP X (gM D cI cT ad) 5 0 16 v5.1 [(3, .int v5.2), (2, .int v1.2), (0, .ref (ad 0)), (1, .int a0)] []) (fun K6 hK7 v5 h => ?_) F _ h
    refine w_iload_n C dX11_mendTwo_16 rfl 0 rfl ?_
    refine w_aload_n C dX11_mendTwo_17 rfl 2 rfl ?_
    refine w_get C 0 10 (Nat.le_of_ble_eq_true rfl) rfl rfl inB_X11 (by decide) tw6_171 rfl dX11_mendTwo_18 rfl ?_
    refine w_iload_n C dX11_mendTwo_21 rfl 3 rfl ?_
    refine w_iald C 10 16 0 (Nat.le_of_ble_eq_true rfl) (fun _ => rfl) rfl h dX11_mendTwo_22 rfl (fun h => ?_)
    refine w_icmp_ge C (qt := 72) dX11_mendTwo_23 (by decide) rfl h (fun _ h => ?_) (fun _ h => ?_)
    · refine w_iinc (j := 1) C (v1.2 + 1) [(2, .int (v1.2 + 1)), (3, .int v5.2), (0, .ref (ad 0)), (1, .int a0)] dX11_mendTwo_72 rfl rfl rfl (by decide) rfl ?_
      refine w_goto (q := 2) C dX11_mendTwo_75 (by decide) ?_
      exact w_sub (lv' := [(2, .int (v1.2 + 1)), (0, .ref (ad 0)), (1, .int a0)]) [0, 2, 3] rfl (hK3 ((v5.1, v1.2 + 1)) h)
    · refine w_aload_n C dX11_mendTwo_26 rfl 2 rfl ?_
      refine w_iload_n C dX11_mendTwo_27 rfl 3 rfl ?_
      refine w_iload_n C dX11_mendTwo_28 rfl 1 rfl ?_
      refine bd1_w h (fun r8 hc h => ?_)
      refine w_callVi C (n := 2) (As := [.int a0, .int v1.2]) (st := []) 0 (Nat.le_of_ble_eq_true rfl) rfl rfl (cfX11_isLimp D cI cT ad (l := X.2.1) C.2.2.1 hc) tw8_179 cy_X11_isLimp (by decide +kernel) ⟨Nat.le_of_ble_eq_true rfl, Nat.le_of_ble_eq_true rfl⟩ (by decide) rfl rfl (Nat.le_of_ble_eq_true rfl) dX11_mendTwo_29 rfl ?_
      refine jn_w (fun v9 : St × Int32 => WP X (gM D cI cT ad) 5 0 55 v9.1 [(3, .int v5.2), (2, .int v1.2), (0, .ref (ad 0)), (1, .int a0)] [.int v9.2]) h (fun v9 h => ?_) (fun J10 hJ11 h => ?_)
      · refine w_istore C [(4, .int v9.2), (3, .int v5.2), (2, .int v1.2), (0, .ref (ad 0)), (1, .int a0)] dX11_mendTwo_55 rfl (by decide) rfl ?_
        refine w_iload C dX11_mendTwo_57 rfl 0 rfl ?_
        refine w_iconst C (-1) dX11_mendTwo_59 rfl (by decide) ?_
        refine w_icmp_eq C (qt := 66) dX11_mendTwo_60 (by decide) rfl h (fun _ h => ?_) (fun _ h => ?_)
        · refine w_iinc (j := 1) C (v5.2 + 1) [(3, .int (v5.2 + 1)), (4, .int v9.2), (2, .int v1.2), (0, .ref (ad 0)), (1, .int a0)] dX11_mendTwo_66 rfl rfl rfl (by decide) rfl ?_
          refine w_goto (q := 16) C dX11_mendTwo_69 (by decide) ?_
          exact w_sub (lv' := [(3, .int (v5.2 + 1)), (2, .int v1.2), (0, .ref (ad 0)), (1, .int a0)]) [0, 2, 3, 4] rfl (hK7 ((v9.1, v5.2 + 1)) h)
        · refine w_iload C dX11_mendTwo_63 rfl 0 rfl ?_
          exact w_ri2 hr h (by decide) dX11_mendTwo_65
      · refine jn_w (fun v12 : Unit => WP X (gM D cI cT ad) 5 0 54 v5.1 [(3, .int v5.2), (2, .int v1.2), (0, .ref (ad 0)), (1, .int a0)] []) h (fun v12 h => ?_) (fun J13 hJ14 h => ?_)
        · refine w_iconst C (-1) dX11_mendTwo_54 rfl (by decide) ?_
          exact w_sub (lv' := [(3, .int v5.2), (2, .int v1.2), (0, .ref (ad 0)), (1, .int a0)]) [0, 1, 2, 3] rfl (hJ11 ((v5.1, (-1))) h)
        · refine w_if_eq C (qt := 54) dX11_mendTwo_32 (by decide) rfl h (fun _ h => ?_) (fun _ h => ?_)
          · exact w_sub (lv' := [(3, .int v5.2), (2, .int v1.2), (0, .ref (ad 0)), (1, .int a0)]) [0, 1, 2, 3] rfl (hJ14 (()) h)
          · refine w_aload_n C dX11_mendTwo_35 rfl 2 rfl ?_
            refine w_iload_n C dX11_mendTwo_36 rfl 3 rfl ?_
            refine w_iload_n C dX11_mendTwo_37 rfl 0 rfl ?_
            refine bd1_w h (fun r15 hc h => ?_)
            refine w_callVi C (n := 2) (As := [.int a0, .int v5.2]) (st := []) 0 (Nat.le_of_ble_eq_true rfl) rfl rfl (cfX11_isLimp D cI cT ad (l := X.2.1) C.2.2.1 hc) tw8_179 cy_X11_isLimp (by decide +kernel) ⟨Nat.le_of_ble_eq_true rfl, Nat.le_of_ble_eq_true rfl⟩ (by decide) rfl rfl (Nat.le_of_ble_eq_true rfl) dX11_mendTwo_38 rfl ?_
            refine w_if_eq C (qt := 54) dX11_mendTwo_41 (by decide) rfl h (fun _ h => ?_) (fun _ h => ?_)
            · exact w_sub (lv' := [(3, .int v5.2), (2, .int v1.2), (0, .ref (ad 0)), (1, .int a0)]) [0, 1, 2, 3] rfl (hJ14 (()) h)
            · refine w_aload_n C dX11_mendTwo_44 rfl 2 rfl ?_
              refine w_iload_n C dX11_mendTwo_45 rfl 3 rfl ?_
              refine w_iload_n C dX11_mendTwo_46 rfl 1 rfl ?_
              refine w_iload_n C dX11_mendTwo_47 rfl 0 rfl ?_
              refine bd2_w h (fun r16 u17 hc h => ?_)
              refine w_callVi C (n := 3) (As := [.int a0, .int v1.2, .int v5.2]) (st := []) 0 (Nat.le_of_ble_eq_true rfl) rfl rfl (cfX11_mendBoth D cI cT ad (l := X.2.1) C.2.2.1 hc) tw8_212 cy_X11_mendBoth (by decide +kernel) ⟨Nat.le_of_ble_eq_true rfl, Nat.le_of_ble_eq_true rfl⟩ (by decide) rfl rfl (Nat.le_of_ble_eq_true rfl) dX11_mendTwo_48 rfl ?_
              refine w_goto (q := 55) C dX11_mendTwo_51 (by decide) ?_
              exact w_sub (lv' := [(3, .int v5.2), (2, .int v1.2), (0, .ref (ad 0)), (1, .int a0)]) [0, 1, 2, 3] rfl (hJ11 ((u17, r16)) h)
theorem cfX11_mendTwo (D : va_G) (cI cT : ClassId) (ad : Nat → Nat) {l : Launch} (had : gAp (gM D cI cT ad)) {F : Nat} {σ : St} {a0 : Int32} {r : Int32} {σ' : St} (h : fX11_mendTwo F σ a0 = some (r, σ')) : MI l yX11_mendTwo (wB yX11_mendTwo cX11_mendTwo 5 (some .int)) 7 173 (gM D cI cT ad) [.ref (ad 0), .int a0] σ r σ' := mk_MI had (by decide +kernel) (Nat.le_of_ble_eq_true rfl) (fun X hX C hr => wfX11_mendTwo C hr h)

def fX11_mend (F : Nat) (σ : St) (a0 : Int32) (a1 : Int32) : Option (Int32 × St) := nm (up σ 0 4 0) fun u2 => bd1 (fX11_isDance F u2 a0) fun r3 => jn (fun v4 : Unit => bd2 (fX11_fail F u2 1) fun r7 u8 => some (r7, u8)) fun J5 => if r3 = 0 then (J5 (())) else if a1 < 0 then (J5 (())) else if a1 ≤ (1 : Int32) then (bd2 (fX11_endsWell F u2 a0) fun r9 u10 => if r9 = 0 then (bd2 (fX11_mendFrom F u10 a0 0) fun r11 u12 => if r11 = (-1 : Int32) then (bd2 (fX11_mendTwo F u12 a0) fun r13 u14 => if r13 = (-1 : Int32) then (some ((-1), u14)) else if a1 = 0 then (some (2, u14)) else some (r13, u14)) else if a1 = 0 then (some (1, u12)) else some (r11, u12)) else if a1 = 0 then (some (0, u10)) else some ((-1), u10)) else J5 (())
set_option maxRecDepth 20000 in
theorem wfX11_mend {X : XT} {D : va_G} {cI cT : ClassId} {ad : Nat → Nat} {F : Nat} {σ : St} {a0 : Int32} {a1 : Int32} {r : Int32} {σ' : St} (C : Cx X (gM D cI cT ad) cX11_mend 5 RX11 8 197 0) (hr : RetI X (gM D cI cT ad) cX11_mend 5 0 r σ') (h : fX11_mend F σ a0 a1 = some (r, σ')) : WP X (gM D cI cT ad) 5 0 0 σ [(0, .ref (ad 0)), (1, .int a0), (2, .int a1)] [] := by
  unfold fX11_mend at h
  refine w_aload_n C dX11_mend_0 rfl 0 rfl ?_
  refine w_iconst C 0 dX11_mend_1 rfl (by decide) ?_
  refine w_put C 0 4 0 (Nat.le_of_ble_eq_true rfl) rfl rfl inB_X11 tyX11_ok nmX11 (by decide) tw6_165 rfl rfl rfl (Nat.le_of_ble_eq_true rfl) rfl dX11_mend_2 rfl ?_
  refine w_nst h (fun u2 h => ?_)
  refine w_aload_n C dX11_mend_5 rfl 0 rfl ?_
  refine w_iload_n C dX11_mend_6 rfl 1 rfl ?_
  refine bd1_w h (fun r3 hc h => ?_)
  refine w_callVi C (n := 1) (As := [.int a0]) (st := []) 0 (Nat.le_of_ble_eq_true rfl) rfl rfl (cfX11_isDance D cI cT ad (l := X.2.1) C.2.2.1 hc) tw8_106 cy_X11_isDance (by decide +kernel) ⟨Nat.le_of_ble_eq_true rfl, Nat.le_of_ble_eq_true rfl⟩ (by decide) rfl rfl (Nat.le_of_ble_eq_true rfl) dX11_mend_7 rfl ?_
  refine jn_w (fun v4 : Unit => WP X (gM D cI cT ad) 5 0 22 u2 [(0, .ref (ad 0))] []) h (fun v4 h => ?_) (fun J5 hJ6 h => ?_)
  · refine w_aload_n C dX11_mend_22 rfl 0 rfl ?_
    refine w_iconst C 1 dX11_mend_23 rfl (by decide) ?_
    refine bd2_w h (fun r7 u8 hc h => ?_)
    refine w_callVi C (n := 1) (As := [.int 1]) (st := []) 0 (Nat.le_of_ble_eq_true rfl) rfl rfl (cfX11_fail D cI cT ad (l := X.2.1) C.2.2.1 hc) tw7_117 cy_X11_fail (by decide +kernel) ⟨Nat.le_of_ble_eq_true rfl, Nat.le_of_ble_eq_true rfl⟩ (by decide) rfl rfl (Nat.le_of_ble_eq_true rfl) dX11_mend_24 rfl ?_
    exact w_ri2 hr h (by decide) dX11_mend_27
  · refine w_if_eq C (qt := 22) dX11_mend_10 (by decide) rfl h (fun _ h => ?_) (fun _ h => ?_)
    · exact w_sub (lv' := [(0, .ref (ad 0))]) [0] rfl (hJ6 (()) h)
    · refine w_iload_n C dX11_mend_13 rfl 2 rfl ?_
      refine w_if_lt C (qt := 22) dX11_mend_14 (by decide) rfl h (fun _ h => ?_) (fun _ h => ?_)
      · exact w_sub (lv' := [(0, .ref (ad 0))]) [0] rfl (hJ6 (()) h)
      · refine w_iload_n C dX11_mend_17 rfl 2 rfl ?_
        refine w_iconst C 1 dX11_mend_18 rfl (by decide) ?_
        refine w_icmp_le C (qt := 28) dX11_mend_19 (by decide) rfl h (fun _ h => ?_) (fun _ h => ?_)
        · refine w_aload_n C dX11_mend_28 rfl 0 rfl ?_
          refine w_iload_n C dX11_mend_29 rfl 1 rfl ?_
          refine bd2_w h (fun r9 u10 hc h => ?_)
          refine w_callVi C (n := 1) (As := [.int a0]) (st := []) 0 (Nat.le_of_ble_eq_true rfl) rfl rfl (cfX11_endsWell D cI cT ad (l := X.2.1) C.2.2.1 hc) tw8_12 cy_X11_endsWell (by decide +kernel) ⟨Nat.le_of_ble_eq_true rfl, Nat.le_of_ble_eq_true rfl⟩ (by decide) rfl rfl (Nat.le_of_ble_eq_true rfl) dX11_mend_30 rfl ?_
          refine w_if_eq C (qt := 46) dX11_mend_33 (by decide) rfl h (fun _ h => ?_) (fun _ h => ?_)
          · refine w_aload_n C dX11_mend_46 rfl 0 rfl ?_
            refine w_iload_n C dX11_mend_47 rfl 1 rfl ?_
            refine w_iconst C 0 dX11_mend_48 rfl (by decide) ?_
            refine bd2_w h (fun r11 u12 hc h => ?_)
            refine w_callVi C (n := 2) (As := [.int a0, .int 0]) (st := []) 0 (Nat.le_of_ble_eq_true rfl) rfl rfl (cfX11_mendFrom D cI cT ad (l := X.2.1) C.2.2.1 hc) tw8_200 cy_X11_mendFrom (by decide +kernel) ⟨Nat.le_of_ble_eq_true rfl, Nat.le_of_ble_eq_true rfl⟩ (by decide) rfl rfl (Nat.le_of_ble_eq_true rfl) dX11_mend_49 rfl ?_
            refine w_istore_n C [(3, .int r11), (0, .ref (ad 0)), (1, .int a0), (2, .int a1)] dX11_mend_52 rfl (by decide) rfl ?_
            refine w_iload_n C dX11_mend_53 rfl 0 rfl ?_
            refine w_iconst C (-1) dX11_mend_54 rfl (by decide) ?_
            refine w_icmp_eq C (qt := 68) dX11_mend_55 (by decide) rfl h (fun _ h => ?_) (fun _ h => ?_)
            · refine w_aload_n C dX11_mend_68 rfl 1 rfl ?_
              refine w_iload_n C dX11_mend_69 rfl 2 rfl ?_
              refine bd2_w h (fun r13 u14 hc h => ?_)
              refine w_callVi C (n := 1) (As := [.int a0]) (st := []) 0 (Nat.le_of_ble_eq_true rfl) rfl rfl (cfX11_mendTwo D cI cT ad (l := X.2.1) C.2.2.1 hc) tw8_208 cy_X11_mendTwo (by decide +kernel) ⟨Nat.le_of_ble_eq_true rfl, Nat.le_of_ble_eq_true rfl⟩ (by decide) rfl rfl (Nat.le_of_ble_eq_true rfl) dX11_mend_70 rfl ?_
              refine w_istore C [(4, .int r13), (3, .int r11), (0, .ref (ad 0)), (1, .int a0), (2, .int a1)] dX11_mend_73 rfl (by decide) rfl ?_
              refine w_iload C dX11_mend_75 rfl 0 rfl ?_
              refine w_iconst C (-1) dX11_mend_77 rfl (by decide) ?_
              refine w_icmp_ne C (qt := 85) dX11_mend_78 (by decide) rfl h (fun _ h => ?_) (fun _ h => ?_)
              · refine w_iload_n C dX11_mend_85 rfl 4 rfl ?_
                refine w_if_ne C (qt := 93) dX11_mend_86 (by decide) rfl h (fun _ h => ?_) (fun _ h => ?_)
                · refine w_iload C dX11_mend_93 rfl 0 rfl ?_
                  exact w_ri2 hr h (by decide) dX11_mend_95
                · refine w_iconst C 2 dX11_mend_89 rfl (by decide) ?_
                  refine w_goto (q := 95) C dX11_mend_90 (by decide) ?_
                  exact w_ri2 hr h (by decide) dX11_mend_95
              · refine w_iconst C (-1) dX11_mend_81 rfl (by decide) ?_
                refine w_goto (q := 95) C dX11_mend_82 (by decide) ?_
                exact w_ri2 hr h (by decide) dX11_mend_95
            · refine w_iload_n C dX11_mend_58 rfl 3 rfl ?_
              refine w_if_ne C (qt := 66) dX11_mend_59 (by decide) rfl h (fun _ h => ?_) (fun _ h => ?_)
              · refine w_iload_n C dX11_mend_66 rfl 0 rfl ?_
                exact w_ri2 hr h (by decide) dX11_mend_67
              · refine w_iconst C 1 dX11_mend_62 rfl (by decide) ?_
                refine w_goto (q := 67) C dX11_mend_63 (by decide) ?_
                exact w_ri2 hr h (by decide) dX11_mend_67
          · refine w_iload_n C dX11_mend_36 rfl 2 rfl ?_
            refine w_if_ne C (qt := 44) dX11_mend_37 (by decide) rfl h (fun _ h => ?_) (fun _ h => ?_)
            · refine w_iconst C (-1) dX11_mend_44 rfl (by decide) ?_
              exact w_ri2 hr h (by decide) dX11_mend_45
            · refine w_iconst C 0 dX11_mend_40 rfl (by decide) ?_
              refine w_goto (q := 45) C dX11_mend_41 (by decide) ?_
              exact w_ri2 hr h (by decide) dX11_mend_45
        · exact w_sub (lv' := [(0, .ref (ad 0))]) [0] rfl (hJ6 (()) h)
theorem cfX11_mend (D : va_G) (cI cT : ClassId) (ad : Nat → Nat) {l : Launch} (had : gAp (gM D cI cT ad)) {F : Nat} {σ : St} {a0 : Int32} {a1 : Int32} {r : Int32} {σ' : St} (h : fX11_mend F σ a0 a1 = some (r, σ')) : MI l yX11_mend (wB yX11_mend cX11_mend 5 (some .int)) 8 197 (gM D cI cT ad) [.ref (ad 0), .int a0, .int a1] σ r σ' := mk_MI had (by decide +kernel) (Nat.le_of_ble_eq_true rfl) (fun X hX C hr => wfX11_mend C hr h)

def fX11_costly (F : Nat) (σ : St) (a0 : Int32) : Option (Int32 × St) := nm (up σ 0 4 0) fun u2 => bd1 (fX11_isDance F u2 a0) fun r3 => if r3 = 0 then (bd2 (fX11_fail F u2 1) fun r18 u19 => some (r18, u19)) else lp (fun (K5 : (St × Int32) → Option (Int32 × St)) (v4 : St × Int32) => ckI (a0) 16 (if (v4.1 10 (Int32.toNatClampNeg a0)) ≤ v4.2 then (some ((-1), v4.1)) else bd2 (fX11_isBinding F v4.1 a0) fun r7 u8 => if r7 = 0 then (some ((-1), u8)) else bd1 (fX11_isLimp F u8 a0 v4.2) fun r9 => if r9 = 0 then (K5 ((u8, v4.2 + 1))) else ckI ((10 * a0) + v4.2) 160 (nm (u8 13 (Int32.toNatClampNeg ((10 * a0) + v4.2))) fun x10 => jn (fun v11 : St => if (9 : Int32) ≤ x10 then (K5 ((v11, v4.2 + 1))) else bd2 (fX11_endsWellBy F v11 a0 v4.2 (x10 + 1)) fun r14 u15 => if r14 = 0 then (some (((10 * v4.2) + x10) + 1, u15)) else K5 ((u15, v4.2 + 1))) fun J12 => if x10 ≤ 0 then (J12 u8) else bd2 (fX11_endsWellBy F u8 a0 v4.2 (x10 - 1)) fun r16 u17 => if r16 = 0 then (some (((10 * v4.2) + x10) - 1, u17)) else J12 u17))) F ((u2, 0))
set_option maxRecDepth 20000 in
theorem wfX11_costly {X : XT} {D : va_G} {cI cT : ClassId} {ad : Nat → Nat} {F : Nat} {σ : St} {a0 : Int32} {r : Int32} {σ' : St} (C : Cx X (gM D cI cT ad) cX11_costly 4 RX11 6 145 0) (hr : RetI X (gM D cI cT ad) cX11_costly 4 0 r σ') (h : fX11_costly F σ a0 = some (r, σ')) : WP X (gM D cI cT ad) 4 0 0 σ [(0, .ref (ad 0)), (1, .int a0)] [] := by
  unfold fX11_costly at h
  refine w_aload_n C dX11_costly_0 rfl 0 rfl ?_
  refine w_iconst C 0 dX11_costly_1 rfl (by decide) ?_
  refine w_put C 0 4 0 (Nat.le_of_ble_eq_true rfl) rfl rfl inB_X11 tyX11_ok nmX11 (by decide) tw6_165 rfl rfl rfl (Nat.le_of_ble_eq_true rfl) rfl dX11_costly_2 rfl ?_
  refine w_nst h (fun u2 h => ?_)
  refine w_aload_n C dX11_costly_5 rfl 0 rfl ?_
  refine w_iload_n C dX11_costly_6 rfl 1 rfl ?_
  refine bd1_w h (fun r3 hc h => ?_)
  refine w_callVi C (n := 1) (As := [.int a0]) (st := []) 0 (Nat.le_of_ble_eq_true rfl) rfl rfl (cfX11_isDance D cI cT ad (l := X.2.1) C.2.2.1 hc) tw8_106 cy_X11_isDance (by decide +kernel) ⟨Nat.le_of_ble_eq_true rfl, Nat.le_of_ble_eq_true rfl⟩ (by decide) rfl rfl (Nat.le_of_ble_eq_true rfl) dX11_costly_7 rfl ?_
  refine w_if_ne C (qt := 19) dX11_costly_10 (by decide) rfl h (fun _ h => ?_) (fun _ h => ?_)
  · refine w_iconst C 0 dX11_costly_19 rfl (by decide) ?_
    refine w_istore_n C [(2, .int 0), (0, .ref (ad 0)), (1, .int a0)] dX11_costly_20 rfl (by decide) rfl ?_
    refine w_sub (lv' := [(2, .int 0), (0, .ref (ad 0)), (1, .int a0)]) [0, 1, 2] rfl ?_
    refine lp_w (fun v4 : St × Int32 => WP X (gM D cI cT ad) 4 0 21 v4.1 [(2, .int v4.2), (0, .ref (ad 0)), (1, .int a0)] []) (fun K5 hK6 v4 h => ?_) F _ h
    refine w_iload_n C dX11_costly_21 rfl 0 rfl ?_
    refine w_aload_n C dX11_costly_22 rfl 1 rfl ?_
    refine w_get C 0 10 (Nat.le_of_ble_eq_true rfl) rfl rfl inB_X11 (by decide) tw6_171 rfl dX11_costly_23 rfl ?_
    refine w_iload_n C dX11_costly_26 rfl 2 rfl ?_
    refine w_iald C 10 16 0 (Nat.le_of_ble_eq_true rfl) (fun _ => rfl) rfl h dX11_costly_27 rfl (fun h => ?_)
    refine w_icmp_ge C (qt := 121) dX11_costly_28 (by decide) rfl h (fun _ h => ?_) (fun _ h => ?_)
    · refine w_iconst C (-1) dX11_costly_121 rfl (by decide) ?_
      exact w_ri2 hr h (by decide) dX11_costly_122
    · refine w_aload_n C dX11_costly_31 rfl 1 rfl ?_
      refine w_iload_n C dX11_costly_32 rfl 2 rfl ?_
      refine bd2_w h (fun r7 u8 hc h => ?_)
      refine w_callVi C (n := 1) (As := [.int a0]) (st := []) 0 (Nat.le_of_ble_eq_true rfl) rfl rfl (cfX11_isBinding D cI cT ad (l := X.2.1) C.2.2.1 hc) tw8_5 cy_X11_isBinding (by decide +kernel) ⟨Nat.le_of_ble_eq_true rfl, Nat.le_of_ble_eq_true rfl⟩ (by decide) rfl rfl (Nat.le_of_ble_eq_true rfl) dX11_costly_33 rfl ?_
      refine w_if_eq C (qt := 121) dX11_costly_36 (by decide) rfl h (fun _ h => ?_) (fun _ h => ?_)
      · refine w_iconst C (-1) dX11_costly_121 rfl (by decide) ?_
        exact w_ri2 hr h (by decide) dX11_costly_122
      · refine w_aload_n C dX11_costly_39 rfl 1 rfl ?_
        refine w_iload_n C dX11_costly_40 rfl 2 rfl ?_
        refine w_iload_n C dX11_costly_41 rfl 0 rfl ?_
        refine bd1_w h (fun r9 hc h => ?_)
        refine w_callVi C (n := 2) (As := [.int a0, .int v4.2]) (st := []) 0 (Nat.le_of_ble_eq_true rfl) rfl rfl (cfX11_isLimp D cI cT ad (l := X.2.1) C.2.2.1 hc) tw8_179 cy_X11_isLimp (by decide +kernel) ⟨Nat.le_of_ble_eq_true rfl, Nat.le_of_ble_eq_true rfl⟩ (by decide) rfl rfl (Nat.le_of_ble_eq_true rfl) dX11_costly_42 rfl ?_
        refine w_if_ne C (qt := 51) dX11_costly_45 (by decide) rfl h (fun _ h => ?_) (fun _ h => ?_)
        · refine w_aload_n C dX11_costly_51 rfl 1 rfl ?_
          refine w_get C 0 13 (Nat.le_of_ble_eq_true rfl) rfl rfl inB_X11 (by decide) tw6_174 rfl dX11_costly_52 rfl ?_
          refine w_bipush C 10 dX11_costly_55 rfl (by decide) ?_
          refine w_iload_n C dX11_costly_57 rfl 2 rfl ?_
          refine w_imul C dX11_costly_58 rfl ?_
          refine w_iload_n C dX11_costly_59 rfl 0 rfl ?_
          refine w_iadd C dX11_costly_60 rfl ?_
          refine w_iald C 13 160 0 (Nat.le_of_ble_eq_true rfl) (fun _ => rfl) rfl h dX11_costly_61 rfl (fun h => ?_)
          refine w_nm h (fun x10 h => ?_)
          refine w_istore_n C [(3, .int x10), (2, .int v4.2), (0, .ref (ad 0)), (1, .int a0)] dX11_costly_62 rfl (by decide) rfl ?_
          refine w_iload_n C dX11_costly_63 rfl 0 rfl ?_
          refine jn_w (fun v11 : St => WP X (gM D cI cT ad) 4 0 88 v11 [(3, .int x10), (2, .int v4.2), (0, .ref (ad 0)), (1, .int a0)] []) h (fun v11 h => ?_) (fun J12 hJ13 h => ?_)
          · refine w_iload_n C dX11_costly_88 rfl 0 rfl ?_
            refine w_bipush C 9 dX11_costly_89 rfl (by decide) ?_
            refine w_icmp_ge C (qt := 115) dX11_costly_91 (by decide) rfl h (fun _ h => ?_) (fun _ h => ?_)
            · refine w_iinc (j := 1) C (v4.2 + 1) [(2, .int (v4.2 + 1)), (3, .int x10), (0, .ref (ad 0)), (1, .int a0)] dX11_costly_115 rfl rfl rfl (by decide) rfl ?_
              refine w_goto (q := 21) C dX11_costly_118 (by decide) ?_
              exact w_sub (lv' := [(2, .int (v4.2 + 1)), (0, .ref (ad 0)), (1, .int a0)]) [0, 2, 3] rfl (hK6 ((v11, v4.2 + 1)) h)
            · refine w_aload_n C dX11_costly_94 rfl 2 rfl ?_
              refine w_iload_n C dX11_costly_95 rfl 3 rfl ?_
              refine w_iload_n C dX11_costly_96 rfl 1 rfl ?_
              refine w_iload_n C dX11_costly_97 rfl 0 rfl ?_
              refine w_iconst C 1 dX11_costly_98 rfl (by decide) ?_
              refine w_iadd C dX11_costly_99 rfl ?_
              refine bd2_w h (fun r14 u15 hc h => ?_)
              refine w_callVi C (n := 3) (As := [.int a0, .int v4.2, .int (x10 + 1)]) (st := []) 0 (Nat.le_of_ble_eq_true rfl) rfl rfl (cfX11_endsWellBy D cI cT ad (l := X.2.1) C.2.2.1 hc) tw8_204 cy_X11_endsWellBy (by decide +kernel) ⟨Nat.le_of_ble_eq_true rfl, Nat.le_of_ble_eq_true rfl⟩ (by decide) rfl rfl (Nat.le_of_ble_eq_true rfl) dX11_costly_100 rfl ?_
              refine w_if_ne C (qt := 115) dX11_costly_103 (by decide) rfl h (fun _ h => ?_) (fun _ h => ?_)
              · refine w_iinc (j := 1) C (v4.2 + 1) [(2, .int (v4.2 + 1)), (3, .int x10), (0, .ref (ad 0)), (1, .int a0)] dX11_costly_115 rfl rfl rfl (by decide) rfl ?_
                refine w_goto (q := 21) C dX11_costly_118 (by decide) ?_
                exact w_sub (lv' := [(2, .int (v4.2 + 1)), (0, .ref (ad 0)), (1, .int a0)]) [0, 2, 3] rfl (hK6 ((u15, v4.2 + 1)) h)
              · refine w_bipush C 10 dX11_costly_106 rfl (by decide) ?_
                refine w_iload_n C dX11_costly_108 rfl 1 rfl ?_
                refine w_imul C dX11_costly_109 rfl ?_
                refine w_iload_n C dX11_costly_110 rfl 0 rfl ?_
                refine w_iadd C dX11_costly_111 rfl ?_
                refine w_iconst C 1 dX11_costly_112 rfl (by decide) ?_
                refine w_iadd C dX11_costly_113 rfl ?_
                exact w_ri2 hr h (by decide) dX11_costly_114
          · refine w_if_le C (qt := 88) dX11_costly_64 (by decide) rfl h (fun _ h => ?_) (fun _ h => ?_)
            · exact w_sub (lv' := [(3, .int x10), (2, .int v4.2), (0, .ref (ad 0)), (1, .int a0)]) [0, 1, 2, 3] rfl (hJ13 u8 h)
            · refine w_aload_n C dX11_costly_67 rfl 2 rfl ?_
              refine w_iload_n C dX11_costly_68 rfl 3 rfl ?_
              refine w_iload_n C dX11_costly_69 rfl 1 rfl ?_
              refine w_iload_n C dX11_costly_70 rfl 0 rfl ?_
              refine w_iconst C 1 dX11_costly_71 rfl (by decide) ?_
              refine w_isub C dX11_costly_72 rfl ?_
              refine bd2_w h (fun r16 u17 hc h => ?_)
              refine w_callVi C (n := 3) (As := [.int a0, .int v4.2, .int (x10 - 1)]) (st := []) 0 (Nat.le_of_ble_eq_true rfl) rfl rfl (cfX11_endsWellBy D cI cT ad (l := X.2.1) C.2.2.1 hc) tw8_204 cy_X11_endsWellBy (by decide +kernel) ⟨Nat.le_of_ble_eq_true rfl, Nat.le_of_ble_eq_true rfl⟩ (by decide) rfl rfl (Nat.le_of_ble_eq_true rfl) dX11_costly_73 rfl ?_
              refine w_if_ne C (qt := 88) dX11_costly_76 (by decide) rfl h (fun _ h => ?_) (fun _ h => ?_)
              · exact w_sub (lv' := [(3, .int x10), (2, .int v4.2), (0, .ref (ad 0)), (1, .int a0)]) [0, 1, 2, 3] rfl (hJ13 u17 h)
              · refine w_bipush C 10 dX11_costly_79 rfl (by decide) ?_
                refine w_iload_n C dX11_costly_81 rfl 1 rfl ?_
                refine w_imul C dX11_costly_82 rfl ?_
                refine w_iload_n C dX11_costly_83 rfl 0 rfl ?_
                refine w_iadd C dX11_costly_84 rfl ?_
                refine w_iconst C 1 dX11_costly_85 rfl (by decide) ?_
                refine w_isub C dX11_costly_86 rfl ?_
                exact w_ri2 hr h (by decide) dX11_costly_87
        · refine w_goto (q := 115) C dX11_costly_48 (by decide) ?_
          refine w_iinc (j := 0) C (v4.2 + 1) [(2, .int (v4.2 + 1)), (0, .ref (ad 0)), (1, .int a0)] dX11_costly_115 rfl rfl rfl (by decide) rfl ?_
          refine w_goto (q := 21) C dX11_costly_118 (by decide) ?_
          exact w_sub (lv' := [(2, .int (v4.2 + 1)), (0, .ref (ad 0)), (1, .int a0)]) [0, 1, 2] rfl (hK6 ((u8, v4.2 + 1)) h)
  · refine w_aload_n C dX11_costly_13 rfl 0 rfl ?_
    refine w_iconst C 1 dX11_costly_14 rfl (by decide) ?_
    refine bd2_w h (fun r18 u19 hc h => ?_)
    refine w_callVi C (n := 1) (As := [.int 1]) (st := []) 0 (Nat.le_of_ble_eq_true rfl) rfl rfl (cfX11_fail D cI cT ad (l := X.2.1) C.2.2.1 hc) tw7_117 cy_X11_fail (by decide +kernel) ⟨Nat.le_of_ble_eq_true rfl, Nat.le_of_ble_eq_true rfl⟩ (by decide) rfl rfl (Nat.le_of_ble_eq_true rfl) dX11_costly_15 rfl ?_
    exact w_ri2 hr h (by decide) dX11_costly_18
theorem cfX11_costly (D : va_G) (cI cT : ClassId) (ad : Nat → Nat) {l : Launch} (had : gAp (gM D cI cT ad)) {F : Nat} {σ : St} {a0 : Int32} {r : Int32} {σ' : St} (h : fX11_costly F σ a0 = some (r, σ')) : MI l yX11_costly (wB yX11_costly cX11_costly 4 (some .int)) 6 145 (gM D cI cT ad) [.ref (ad 0), .int a0] σ r σ' := mk_MI had (by decide +kernel) (Nat.le_of_ble_eq_true rfl) (fun X hX C hr => wfX11_costly C hr h)

def fX11_later (F : Nat) (σ : St) (a0 : Int32) : Option (Int32 × St) := nm (up σ 0 4 0) fun u2 => bd1 (fX11_isIn F u2 (Int32.toInt64 a0) 0 99) fun r3 => if r3 = 0 then (bd2 (fX11_fail F u2 1) fun r11 u12 => some (r11, u12)) else nm (up u2 0 38 a0) fun u5 => bd2 (fX11_binding F u5) fun r6 u7 => bd1 (fX11_bitsOf F u7 r6) fun r8 => nm (up u7 0 38 0) fun u10 => some (r8, u10)
set_option maxRecDepth 20000 in
theorem wfX11_later {X : XT} {D : va_G} {cI cT : ClassId} {ad : Nat → Nat} {F : Nat} {σ : St} {a0 : Int32} {r : Int32} {σ' : St} (C : Cx X (gM D cI cT ad) cX11_later 3 RX11 7 162 0) (hr : RetI X (gM D cI cT ad) cX11_later 3 0 r σ') (h : fX11_later F σ a0 = some (r, σ')) : WP X (gM D cI cT ad) 3 0 0 σ [(0, .ref (ad 0)), (1, .int a0)] [] := by
  unfold fX11_later at h
  refine w_aload_n C dX11_later_0 rfl 0 rfl ?_
  refine w_iconst C 0 dX11_later_1 rfl (by decide) ?_
  refine w_put C 0 4 0 (Nat.le_of_ble_eq_true rfl) rfl rfl inB_X11 tyX11_ok nmX11 (by decide) tw6_165 rfl rfl rfl (Nat.le_of_ble_eq_true rfl) rfl dX11_later_2 rfl ?_
  refine w_nst h (fun u2 h => ?_)
  refine w_iload_n C dX11_later_5 rfl 1 rfl ?_
  refine w_i2l C dX11_later_6 rfl ?_
  refine w_lconst C 0 dX11_later_7 rfl (by decide) ?_
  refine w_ldc2 C (99) dX11_later_8 rfl tw8_187 ?_
  refine bd1_w h (fun r3 hc h => ?_)
  refine w_callSi C (n := 3) (As := [.long (Int32.toInt64 a0), .long 0, .long 99]) (st := []) (cfX11_isIn D cI cT ad (l := X.2.1) C.2.2.1 hc) tw8_99 cs_X11_isIn (by decide +kernel) ⟨Nat.le_of_ble_eq_true rfl, Nat.le_of_ble_eq_true rfl⟩ (by decide) rfl rfl (Nat.le_of_ble_eq_true rfl) dX11_later_11 rfl ?_
  refine w_if_ne C (qt := 23) dX11_later_14 (by decide) rfl h (fun _ h => ?_) (fun _ h => ?_)
  · refine w_aload_n C dX11_later_23 rfl 0 rfl ?_
    refine w_iload_n C dX11_later_24 rfl 1 rfl ?_
    refine w_put C 0 38 a0 (Nat.le_of_ble_eq_true rfl) rfl rfl inB_X11 tyX11_ok nmX11 (by decide) tw6_199 rfl rfl rfl (Nat.le_of_ble_eq_true rfl) rfl dX11_later_25 rfl ?_
    refine w_nst h (fun u5 h => ?_)
    refine w_aload_n C dX11_later_28 rfl 0 rfl ?_
    refine bd2_w h (fun r6 u7 hc h => ?_)
    refine w_callVi C (n := 0) (As := []) (st := []) 0 (Nat.le_of_ble_eq_true rfl) rfl rfl (cfX11_binding D cI cT ad (l := X.2.1) C.2.2.1 hc) tw8_1 cy_X11_binding (by decide +kernel) ⟨Nat.le_of_ble_eq_true rfl, Nat.le_of_ble_eq_true rfl⟩ (by decide) rfl rfl (Nat.le_of_ble_eq_true rfl) dX11_later_29 rfl ?_
    refine bd1_w h (fun r8 hc h => ?_)
    refine w_callSi C (n := 1) (As := [.int r6]) (st := []) (cfX11_bitsOf D cI cT ad (l := X.2.1) C.2.2.1 hc) tw8_224 cs_X11_bitsOf (by decide +kernel) ⟨Nat.le_of_ble_eq_true rfl, Nat.le_of_ble_eq_true rfl⟩ (by decide) rfl rfl (Nat.le_of_ble_eq_true rfl) dX11_later_32 rfl ?_
    refine w_istore_n C [(2, .int r8), (0, .ref (ad 0)), (1, .int a0)] dX11_later_35 rfl (by decide) rfl ?_
    refine w_aload_n C dX11_later_36 rfl 1 rfl ?_
    refine w_iconst C 0 dX11_later_37 rfl (by decide) ?_
    refine w_put C 0 38 0 (Nat.le_of_ble_eq_true rfl) rfl rfl inB_X11 tyX11_ok nmX11 (by decide) tw6_199 rfl rfl rfl (Nat.le_of_ble_eq_true rfl) rfl dX11_later_38 rfl ?_
    refine w_nst h (fun u10 h => ?_)
    refine w_iload_n C dX11_later_41 rfl 0 rfl ?_
    exact w_ri2 hr h (by decide) dX11_later_42
  · refine w_aload_n C dX11_later_17 rfl 0 rfl ?_
    refine w_iconst C 1 dX11_later_18 rfl (by decide) ?_
    refine bd2_w h (fun r11 u12 hc h => ?_)
    refine w_callVi C (n := 1) (As := [.int 1]) (st := []) 0 (Nat.le_of_ble_eq_true rfl) rfl rfl (cfX11_fail D cI cT ad (l := X.2.1) C.2.2.1 hc) tw7_117 cy_X11_fail (by decide +kernel) ⟨Nat.le_of_ble_eq_true rfl, Nat.le_of_ble_eq_true rfl⟩ (by decide) rfl rfl (Nat.le_of_ble_eq_true rfl) dX11_later_19 rfl ?_
    exact w_ri2 hr h (by decide) dX11_later_22
theorem cfX11_later (D : va_G) (cI cT : ClassId) (ad : Nat → Nat) {l : Launch} (had : gAp (gM D cI cT ad)) {F : Nat} {σ : St} {a0 : Int32} {r : Int32} {σ' : St} (h : fX11_later F σ a0 = some (r, σ')) : MI l yX11_later (wB yX11_later cX11_later 3 (some .int)) 7 162 (gM D cI cT ad) [.ref (ad 0), .int a0] σ r σ' := mk_MI had (by decide +kernel) (Nat.le_of_ble_eq_true rfl) (fun X hX C hr => wfX11_later C hr h)

def fX11_inTime (F : Nat) (σ : St) (a0 : Int32) (a1 : Int32) : Option (Int32 × St) := nm (up σ 0 4 0) fun u2 => bd1 (fX11_isDance F u2 a0) fun r3 => if r3 = 0 then (bd2 (fX11_fail F u2 1) fun r22 u23 => some (r22, u23)) else bd1 (fX11_isIn F u2 (Int32.toInt64 a1) 1 4) fun r4 => if r4 = 0 then (bd2 (fX11_fail F u2 2) fun r20 u21 => some (r20, u21)) else lp (fun (K6 : (St × Int32 × Int32) → Option (Int32 × St)) (v5 : St × Int32 × Int32) => ckI (a0) 16 (if (v5.1 10 (Int32.toNatClampNeg a0)) ≤ v5.2.1 then (some (v5.2.2, v5.1)) else bd2 (fX11_isBinding F v5.1 a0) fun r8 u9 => if r8 = 0 then (some (v5.2.2, u9)) else lp (fun (K11 : (St × Int32 × Int32) → Option (Int32 × St)) (v10 : St × Int32 × Int32) => if (2 : Int32) ≤ v10.2.1 then (if v10.2.2 = 0 then (nm (v5.2.2 + 0) fun x13 => K6 ((v10.1, v5.2.1 + 1, x13))) else nm (v5.2.2 + 1) fun x14 => K6 ((v10.1, v5.2.1 + 1, x14))) else if v10.2.2 = 0 then (bd1 (fX11_binds F v10.1 a0 v5.2.1 v10.2.1) fun r15 => if r15 = 0 then (K11 ((v10.1, v10.2.1 + 1, 0))) else bd2 (fX11_limitOf F v10.1 a0 v5.2.1 v10.2.1 a1) fun r16 u17 => ckI (a0) 16 (bd2 (fX11_limitOf F u17 a0 v5.2.1 v10.2.1 (u17 9 (Int32.toNatClampNeg a0))) fun r18 u19 => if r16 = r18 then (K11 ((u19, v10.2.1 + 1, 0))) else K11 ((u19, v10.2.1 + 1, 1)))) else K11 ((v10.1, v10.2.1 + 1, 1))) F ((u9, 0, 0)))) F ((u2, 0, 0))
set_option maxRecDepth 20000 in
theorem wfX11_inTime {X : XT} {D : va_G} {cI cT : ClassId} {ad : Nat → Nat} {F : Nat} {σ : St} {a0 : Int32} {a1 : Int32} {r : Int32} {σ' : St} (C : Cx X (gM D cI cT ad) cX11_inTime 7 RX11 6 140 0) (hr : RetI X (gM D cI cT ad) cX11_inTime 7 0 r σ') (h : fX11_inTime F σ a0 a1 = some (r, σ')) : WP X (gM D cI cT ad) 7 0 0 σ [(0, .ref (ad 0)), (1, .int a0), (2, .int a1)] [] := by
  unfold fX11_inTime at h
  refine w_aload_n C dX11_inTime_0 rfl 0 rfl ?_
  refine w_iconst C 0 dX11_inTime_1 rfl (by decide) ?_
  refine w_put C 0 4 0 (Nat.le_of_ble_eq_true rfl) rfl rfl inB_X11 tyX11_ok nmX11 (by decide) tw6_165 rfl rfl rfl (Nat.le_of_ble_eq_true rfl) rfl dX11_inTime_2 rfl ?_
  refine w_nst h (fun u2 h => ?_)
  refine w_aload_n C dX11_inTime_5 rfl 0 rfl ?_
  refine w_iload_n C dX11_inTime_6 rfl 1 rfl ?_
  refine bd1_w h (fun r3 hc h => ?_)
  refine w_callVi C (n := 1) (As := [.int a0]) (st := []) 0 (Nat.le_of_ble_eq_true rfl) rfl rfl (cfX11_isDance D cI cT ad (l := X.2.1) C.2.2.1 hc) tw8_106 cy_X11_isDance (by decide +kernel) ⟨Nat.le_of_ble_eq_true rfl, Nat.le_of_ble_eq_true rfl⟩ (by decide) rfl rfl (Nat.le_of_ble_eq_true rfl) dX11_inTime_7 rfl ?_
  refine w_if_ne C (qt := 19) dX11_inTime_10 (by decide) rfl h (fun _ h => ?_) (fun _ h => ?_)
  · refine w_iload_n C dX11_inTime_19 rfl 2 rfl ?_
    refine w_i2l C dX11_inTime_20 rfl ?_
    refine w_lconst C 1 dX11_inTime_21 rfl (by decide) ?_
    refine w_ldc2 C (4) dX11_inTime_22 rfl tw8_231 ?_
    refine bd1_w h (fun r4 hc h => ?_)
    refine w_callSi C (n := 3) (As := [.long (Int32.toInt64 a1), .long 1, .long 4]) (st := []) (cfX11_isIn D cI cT ad (l := X.2.1) C.2.2.1 hc) tw8_99 cs_X11_isIn (by decide +kernel) ⟨Nat.le_of_ble_eq_true rfl, Nat.le_of_ble_eq_true rfl⟩ (by decide) rfl rfl (Nat.le_of_ble_eq_true rfl) dX11_inTime_25 rfl ?_
    refine w_if_ne C (qt := 37) dX11_inTime_28 (by decide) rfl h (fun _ h => ?_) (fun _ h => ?_)
    · refine w_iconst C 0 dX11_inTime_37 rfl (by decide) ?_
      refine w_istore_n C [(3, .int 0), (0, .ref (ad 0)), (1, .int a0), (2, .int a1)] dX11_inTime_38 rfl (by decide) rfl ?_
      refine w_iconst C 0 dX11_inTime_39 rfl (by decide) ?_
      refine w_istore C [(4, .int 0), (3, .int 0), (0, .ref (ad 0)), (1, .int a0), (2, .int a1)] dX11_inTime_40 rfl (by decide) rfl ?_
      refine w_sub (lv' := [(4, .int 0), (3, .int 0), (0, .ref (ad 0)), (1, .int a0), (2, .int a1)]) [0, 1, 2, 3, 4] rfl ?_
      refine lp_w (fun v5 : St × Int32 × Int32 => WP X (gM D cI cT ad) 7 0 42 v5.1 [(4, .int v5.2.1), (3, .int v5.2.2), (0, .ref (ad 0)), (1, .int a0), (2, .int a1)] []) (fun K6 hK7 v5 h => ?_) F _ h
      refine w_iload C dX11_inTime_42 rfl 0 rfl ?_
      refine w_aload_n C dX11_inTime_44 rfl 2 rfl ?_
      refine w_get C 0 10 (Nat.le_of_ble_eq_true rfl) rfl rfl inB_X11 (by decide) tw6_171 rfl dX11_inTime_45 rfl ?_
      refine w_iload_n C dX11_inTime_48 rfl 3 rfl ?_
      refine w_iald C 10 16 0 (Nat.le_of_ble_eq_true rfl) (fun _ => rfl) rfl h dX11_inTime_49 rfl (fun h => ?_)
      refine w_icmp_ge C (qt := 150) dX11_inTime_50 (by decide) rfl h (fun _ h => ?_) (fun _ h => ?_)
      · refine w_iload_n C dX11_inTime_150 rfl 1 rfl ?_
        exact w_ri2 hr h (by decide) dX11_inTime_151
      · refine w_aload_n C dX11_inTime_53 rfl 2 rfl ?_
        refine w_iload_n C dX11_inTime_54 rfl 3 rfl ?_
        refine bd2_w h (fun r8 u9 hc h => ?_)
        refine w_callVi C (n := 1) (As := [.int a0]) (st := []) 0 (Nat.le_of_ble_eq_true rfl) rfl rfl (cfX11_isBinding D cI cT ad (l := X.2.1) C.2.2.1 hc) tw8_5 cy_X11_isBinding (by decide +kernel) ⟨Nat.le_of_ble_eq_true rfl, Nat.le_of_ble_eq_true rfl⟩ (by decide) rfl rfl (Nat.le_of_ble_eq_true rfl) dX11_inTime_55 rfl ?_
        refine w_if_eq C (qt := 150) dX11_inTime_58 (by decide) rfl h (fun _ h => ?_) (fun _ h => ?_)
        · refine w_iload_n C dX11_inTime_150 rfl 1 rfl ?_
          exact w_ri2 hr h (by decide) dX11_inTime_151
        · refine w_iconst C 0 dX11_inTime_61 rfl (by decide) ?_
          refine w_istore C [(5, .int 0), (4, .int v5.2.1), (3, .int v5.2.2), (0, .ref (ad 0)), (1, .int a0), (2, .int a1)] dX11_inTime_62 rfl (by decide) rfl ?_
          refine w_iconst C 0 dX11_inTime_64 rfl (by decide) ?_
          refine w_istore C [(6, .int 0), (5, .int 0), (4, .int v5.2.1), (3, .int v5.2.2), (0, .ref (ad 0)), (1, .int a0), (2, .int a1)] dX11_inTime_65 rfl (by decide) rfl ?_
          refine w_sub (lv' := [(6, .int 0), (5, .int 0), (4, .int v5.2.1), (3, .int v5.2.2), (0, .ref (ad 0)), (1, .int a0), (2, .int a1)]) [0, 1, 2, 3, 4, 5, 6] rfl ?_
          refine lp_w (fun v10 : St × Int32 × Int32 => WP X (gM D cI cT ad) 7 0 67 v10.1 [(6, .int v10.2.1), (5, .int v10.2.2), (4, .int v5.2.1), (3, .int v5.2.2), (0, .ref (ad 0)), (1, .int a0), (2, .int a1)] []) (fun K11 hK12 v10 h => ?_) F _ h
          refine w_iload C dX11_inTime_67 rfl 0 rfl ?_
          refine w_iconst C 2 dX11_inTime_69 rfl (by decide) ?_
          refine w_icmp_ge C (qt := 131) dX11_inTime_70 (by decide) rfl h (fun _ h => ?_) (fun _ h => ?_)
          · refine w_iload_n C dX11_inTime_131 rfl 3 rfl ?_
            refine w_iload C dX11_inTime_132 rfl 1 rfl ?_
            refine w_if_eq C (qt := 141) dX11_inTime_134 (by decide) rfl h (fun _ h => ?_) (fun _ h => ?_)
            · refine w_iconst C 0 dX11_inTime_141 rfl (by decide) ?_
              refine w_iadd C dX11_inTime_142 rfl ?_
              refine w_nm h (fun x13 h => ?_)
              refine w_istore_n C [(3, .int x13), (6, .int v10.2.1), (5, .int v10.2.2), (4, .int v5.2.1), (0, .ref (ad 0)), (1, .int a0), (2, .int a1)] dX11_inTime_143 rfl (by decide) rfl ?_
              refine w_iinc (j := 3) C (v5.2.1 + 1) [(4, .int (v5.2.1 + 1)), (3, .int x13), (6, .int v10.2.1), (5, .int v10.2.2), (0, .ref (ad 0)), (1, .int a0), (2, .int a1)] dX11_inTime_144 rfl rfl rfl (by decide) rfl ?_
              refine w_goto (q := 42) C dX11_inTime_147 (by decide) ?_
              exact w_sub (lv' := [(4, .int (v5.2.1 + 1)), (3, .int x13), (0, .ref (ad 0)), (1, .int a0), (2, .int a1)]) [0, 1, 4, 5, 6] rfl (hK7 ((v10.1, v5.2.1 + 1, x13)) h)
            · refine w_iconst C 1 dX11_inTime_137 rfl (by decide) ?_
              refine w_goto (q := 142) C dX11_inTime_138 (by decide) ?_
              refine w_iadd C dX11_inTime_142 rfl ?_
              refine w_nm h (fun x14 h => ?_)
              refine w_istore_n C [(3, .int x14), (6, .int v10.2.1), (5, .int v10.2.2), (4, .int v5.2.1), (0, .ref (ad 0)), (1, .int a0), (2, .int a1)] dX11_inTime_143 rfl (by decide) rfl ?_
              refine w_iinc (j := 3) C (v5.2.1 + 1) [(4, .int (v5.2.1 + 1)), (3, .int x14), (6, .int v10.2.1), (5, .int v10.2.2), (0, .ref (ad 0)), (1, .int a0), (2, .int a1)] dX11_inTime_144 rfl rfl rfl (by decide) rfl ?_
              refine w_goto (q := 42) C dX11_inTime_147 (by decide) ?_
              exact w_sub (lv' := [(4, .int (v5.2.1 + 1)), (3, .int x14), (0, .ref (ad 0)), (1, .int a0), (2, .int a1)]) [0, 1, 4, 5, 6] rfl (hK7 ((v10.1, v5.2.1 + 1, x14)) h)
          · refine w_iload C dX11_inTime_73 rfl 1 rfl ?_
            refine w_if_ne C (qt := 118) dX11_inTime_75 (by decide) rfl h (fun _ h => ?_) (fun _ h => ?_)
            · refine w_iconst C 1 dX11_inTime_118 rfl (by decide) ?_
              refine w_goto (q := 123) C dX11_inTime_119 (by decide) ?_
              refine w_istore C [(5, .int 1), (6, .int v10.2.1), (4, .int v5.2.1), (3, .int v5.2.2), (0, .ref (ad 0)), (1, .int a0), (2, .int a1)] dX11_inTime_123 rfl (by decide) rfl ?_
              refine w_iinc (j := 1) C (v10.2.1 + 1) [(6, .int (v10.2.1 + 1)), (5, .int 1), (4, .int v5.2.1), (3, .int v5.2.2), (0, .ref (ad 0)), (1, .int a0), (2, .int a1)] dX11_inTime_125 rfl rfl rfl (by decide) rfl ?_
              refine w_goto (q := 67) C dX11_inTime_128 (by decide) ?_
              exact w_sub (lv' := [(6, .int (v10.2.1 + 1)), (5, .int 1), (4, .int v5.2.1), (3, .int v5.2.2), (0, .ref (ad 0)), (1, .int a0), (2, .int a1)]) [0, 1, 2, 3, 4, 5, 6] rfl (hK12 ((v10.1, v10.2.1 + 1, 1)) h)
            · refine w_aload_n C dX11_inTime_78 rfl 4 rfl ?_
              refine w_iload_n C dX11_inTime_79 rfl 5 rfl ?_
              refine w_iload C dX11_inTime_80 rfl 2 rfl ?_
              refine w_iload C dX11_inTime_82 rfl 0 rfl ?_
              refine bd1_w h (fun r15 hc h => ?_)
              refine w_callVi C (n := 3) (As := [.int a0, .int v5.2.1, .int v10.2.1]) (st := []) 0 (Nat.le_of_ble_eq_true rfl) rfl rfl (cfX11_binds D cI cT ad (l := X.2.1) C.2.2.1 hc) tw8_64 cy_X11_binds (by decide +kernel) ⟨Nat.le_of_ble_eq_true rfl, Nat.le_of_ble_eq_true rfl⟩ (by decide) rfl rfl (Nat.le_of_ble_eq_true rfl) dX11_inTime_84 rfl ?_
              refine w_if_eq C (qt := 122) dX11_inTime_87 (by decide) rfl h (fun _ h => ?_) (fun _ h => ?_)
              · refine w_iconst C 0 dX11_inTime_122 rfl (by decide) ?_
                refine w_istore C [(5, .int 0), (6, .int v10.2.1), (4, .int v5.2.1), (3, .int v5.2.2), (0, .ref (ad 0)), (1, .int a0), (2, .int a1)] dX11_inTime_123 rfl (by decide) rfl ?_
                refine w_iinc (j := 1) C (v10.2.1 + 1) [(6, .int (v10.2.1 + 1)), (5, .int 0), (4, .int v5.2.1), (3, .int v5.2.2), (0, .ref (ad 0)), (1, .int a0), (2, .int a1)] dX11_inTime_125 rfl rfl rfl (by decide) rfl ?_
                refine w_goto (q := 67) C dX11_inTime_128 (by decide) ?_
                exact w_sub (lv' := [(6, .int (v10.2.1 + 1)), (5, .int 0), (4, .int v5.2.1), (3, .int v5.2.2), (0, .ref (ad 0)), (1, .int a0), (2, .int a1)]) [0, 1, 2, 3, 4, 5, 6] rfl (hK12 ((v10.1, v10.2.1 + 1, 0)) h)
              · refine w_aload_n C dX11_inTime_90 rfl 4 rfl ?_
                refine w_iload_n C dX11_inTime_91 rfl 5 rfl ?_
                refine w_iload C dX11_inTime_92 rfl 2 rfl ?_
                refine w_iload C dX11_inTime_94 rfl 0 rfl ?_
                refine w_iload_n C dX11_inTime_96 rfl 6 rfl ?_
                refine bd2_w h (fun r16 u17 hc h => ?_)
                refine w_callVi C (n := 4) (As := [.int a0, .int v5.2.1, .int v10.2.1, .int a1]) (st := []) 0 (Nat.le_of_ble_eq_true rfl) rfl rfl (cfX11_limitOf D cI cT ad (l := X.2.1) C.2.2.1 hc) tw8_80 cy_X11_limitOf (by decide +kernel) ⟨Nat.le_of_ble_eq_true rfl, Nat.le_of_ble_eq_true rfl⟩ (by decide) rfl rfl (Nat.le_of_ble_eq_true rfl) dX11_inTime_97 rfl ?_
                refine w_aload_n C dX11_inTime_100 rfl 4 rfl ?_
                refine w_iload_n C dX11_inTime_101 rfl 5 rfl ?_
                refine w_iload C dX11_inTime_102 rfl 2 rfl ?_
                refine w_iload C dX11_inTime_104 rfl 0 rfl ?_
                refine w_aload_n C dX11_inTime_106 rfl 4 rfl ?_
                refine w_get C 0 9 (Nat.le_of_ble_eq_true rfl) rfl rfl inB_X11 (by decide) tw6_170 rfl dX11_inTime_107 rfl ?_
                refine w_iload_n C dX11_inTime_110 rfl 5 rfl ?_
                refine w_iald C 9 16 0 (Nat.le_of_ble_eq_true rfl) (fun _ => rfl) rfl h dX11_inTime_111 rfl (fun h => ?_)
                refine bd2_w h (fun r18 u19 hc h => ?_)
                refine w_callVi C (n := 4) (As := [.int a0, .int v5.2.1, .int v10.2.1, .int (u17 9 (Int32.toNatClampNeg a0))]) (st := [.int r16]) 0 (Nat.le_of_ble_eq_true rfl) rfl rfl (cfX11_limitOf D cI cT ad (l := X.2.1) C.2.2.1 hc) tw8_80 cy_X11_limitOf (by decide +kernel) ⟨Nat.le_of_ble_eq_true rfl, Nat.le_of_ble_eq_true rfl⟩ (by decide) rfl rfl (Nat.le_of_ble_eq_true rfl) dX11_inTime_112 rfl ?_
                refine w_icmp_eq C (qt := 122) dX11_inTime_115 (by decide) rfl h (fun _ h => ?_) (fun _ h => ?_)
                · refine w_iconst C 0 dX11_inTime_122 rfl (by decide) ?_
                  refine w_istore C [(5, .int 0), (6, .int v10.2.1), (4, .int v5.2.1), (3, .int v5.2.2), (0, .ref (ad 0)), (1, .int a0), (2, .int a1)] dX11_inTime_123 rfl (by decide) rfl ?_
                  refine w_iinc (j := 1) C (v10.2.1 + 1) [(6, .int (v10.2.1 + 1)), (5, .int 0), (4, .int v5.2.1), (3, .int v5.2.2), (0, .ref (ad 0)), (1, .int a0), (2, .int a1)] dX11_inTime_125 rfl rfl rfl (by decide) rfl ?_
                  refine w_goto (q := 67) C dX11_inTime_128 (by decide) ?_
                  exact w_sub (lv' := [(6, .int (v10.2.1 + 1)), (5, .int 0), (4, .int v5.2.1), (3, .int v5.2.2), (0, .ref (ad 0)), (1, .int a0), (2, .int a1)]) [0, 1, 2, 3, 4, 5, 6] rfl (hK12 ((u19, v10.2.1 + 1, 0)) h)
                · refine w_iconst C 1 dX11_inTime_118 rfl (by decide) ?_
                  refine w_goto (q := 123) C dX11_inTime_119 (by decide) ?_
                  refine w_istore C [(5, .int 1), (6, .int v10.2.1), (4, .int v5.2.1), (3, .int v5.2.2), (0, .ref (ad 0)), (1, .int a0), (2, .int a1)] dX11_inTime_123 rfl (by decide) rfl ?_
                  refine w_iinc (j := 1) C (v10.2.1 + 1) [(6, .int (v10.2.1 + 1)), (5, .int 1), (4, .int v5.2.1), (3, .int v5.2.2), (0, .ref (ad 0)), (1, .int a0), (2, .int a1)] dX11_inTime_125 rfl rfl rfl (by decide) rfl ?_
                  refine w_goto (q := 67) C dX11_inTime_128 (by decide) ?_
                  exact w_sub (lv' := [(6, .int (v10.2.1 + 1)), (5, .int 1), (4, .int v5.2.1), (3, .int v5.2.2), (0, .ref (ad 0)), (1, .int a0), (2, .int a1)]) [0, 1, 2, 3, 4, 5, 6] rfl (hK12 ((u19, v10.2.1 + 1, 1)) h)
    · refine w_aload_n C dX11_inTime_31 rfl 0 rfl ?_
      refine w_iconst C 2 dX11_inTime_32 rfl (by decide) ?_
      refine bd2_w h (fun r20 u21 hc h => ?_)
      refine w_callVi C (n := 1) (As := [.int 2]) (st := []) 0 (Nat.le_of_ble_eq_true rfl) rfl rfl (cfX11_fail D cI cT ad (l := X.2.1) C.2.2.1 hc) tw7_117 cy_X11_fail (by decide +kernel) ⟨Nat.le_of_ble_eq_true rfl, Nat.le_of_ble_eq_true rfl⟩ (by decide) rfl rfl (Nat.le_of_ble_eq_true rfl) dX11_inTime_33 rfl ?_
      exact w_ri2 hr h (by decide) dX11_inTime_36
  · refine w_aload_n C dX11_inTime_13 rfl 0 rfl ?_
    refine w_iconst C 1 dX11_inTime_14 rfl (by decide) ?_
    refine bd2_w h (fun r22 u23 hc h => ?_)
    refine w_callVi C (n := 1) (As := [.int 1]) (st := []) 0 (Nat.le_of_ble_eq_true rfl) rfl rfl (cfX11_fail D cI cT ad (l := X.2.1) C.2.2.1 hc) tw7_117 cy_X11_fail (by decide +kernel) ⟨Nat.le_of_ble_eq_true rfl, Nat.le_of_ble_eq_true rfl⟩ (by decide) rfl rfl (Nat.le_of_ble_eq_true rfl) dX11_inTime_15 rfl ?_
    exact w_ri2 hr h (by decide) dX11_inTime_18
theorem cfX11_inTime (D : va_G) (cI cT : ClassId) (ad : Nat → Nat) {l : Launch} (had : gAp (gM D cI cT ad)) {F : Nat} {σ : St} {a0 : Int32} {a1 : Int32} {r : Int32} {σ' : St} (h : fX11_inTime F σ a0 a1 = some (r, σ')) : MI l yX11_inTime (wB yX11_inTime cX11_inTime 7 (some .int)) 6 140 (gM D cI cT ad) [.ref (ad 0), .int a0, .int a1] σ r σ' := mk_MI had (by decide +kernel) (Nat.le_of_ble_eq_true rfl) (fun X hX C hr => wfX11_inTime C hr h)

def fX11_apart (F : Nat) (σ : St) (a0 : Int32) : Option (Int32 × St) := nm (up σ 0 4 0) fun u2 => bd1 (fX11_isDance F u2 a0) fun r3 => if r3 = 0 then (bd2 (fX11_fail F u2 1) fun r6 u7 => some (r6, u7)) else ckI (a0) 16 (bd2 (fX11_danceTo F u2 a0 (u2 10 (Int32.toNatClampNeg a0))) fun r4 u5 => some ((if 0 ≤ ((u5 21 0) - (u5 21 1)) then ((u5 21 0) - (u5 21 1)) else 0 - ((u5 21 0) - (u5 21 1))) + (if 0 ≤ ((u5 22 0) - (u5 22 1)) then ((u5 22 0) - (u5 22 1)) else 0 - ((u5 22 0) - (u5 22 1))), u5))
set_option maxRecDepth 20000 in
theorem wfX11_apart {X : XT} {D : va_G} {cI cT : ClassId} {ad : Nat → Nat} {F : Nat} {σ : St} {a0 : Int32} {r : Int32} {σ' : St} (C : Cx X (gM D cI cT ad) cX11_apart 2 RX11 4 98 0) (hr : RetI X (gM D cI cT ad) cX11_apart 2 0 r σ') (h : fX11_apart F σ a0 = some (r, σ')) : WP X (gM D cI cT ad) 2 0 0 σ [(0, .ref (ad 0)), (1, .int a0)] [] := by
  unfold fX11_apart at h
  refine w_aload_n C dX11_apart_0 rfl 0 rfl ?_
  refine w_iconst C 0 dX11_apart_1 rfl (by decide) ?_
  refine w_put C 0 4 0 (Nat.le_of_ble_eq_true rfl) rfl rfl inB_X11 tyX11_ok nmX11 (by decide) tw6_165 rfl rfl rfl (Nat.le_of_ble_eq_true rfl) rfl dX11_apart_2 rfl ?_
  refine w_nst h (fun u2 h => ?_)
  refine w_aload_n C dX11_apart_5 rfl 0 rfl ?_
  refine w_iload_n C dX11_apart_6 rfl 1 rfl ?_
  refine bd1_w h (fun r3 hc h => ?_)
  refine w_callVi C (n := 1) (As := [.int a0]) (st := []) 0 (Nat.le_of_ble_eq_true rfl) rfl rfl (cfX11_isDance D cI cT ad (l := X.2.1) C.2.2.1 hc) tw8_106 cy_X11_isDance (by decide +kernel) ⟨Nat.le_of_ble_eq_true rfl, Nat.le_of_ble_eq_true rfl⟩ (by decide) rfl rfl (Nat.le_of_ble_eq_true rfl) dX11_apart_7 rfl ?_
  refine w_if_ne C (qt := 19) dX11_apart_10 (by decide) rfl h (fun _ h => ?_) (fun _ h => ?_)
  · refine w_aload_n C dX11_apart_19 rfl 0 rfl ?_
    refine w_iload_n C dX11_apart_20 rfl 1 rfl ?_
    refine w_aload_n C dX11_apart_21 rfl 0 rfl ?_
    refine w_get C 0 10 (Nat.le_of_ble_eq_true rfl) rfl rfl inB_X11 (by decide) tw6_171 rfl dX11_apart_22 rfl ?_
    refine w_iload_n C dX11_apart_25 rfl 1 rfl ?_
    refine w_iald C 10 16 0 (Nat.le_of_ble_eq_true rfl) (fun _ => rfl) rfl h dX11_apart_26 rfl (fun h => ?_)
    refine bd2_w h (fun r4 u5 hc h => ?_)
    refine w_callVi C (n := 2) (As := [.int a0, .int (u2 10 (Int32.toNatClampNeg a0))]) (st := []) 0 (Nat.le_of_ble_eq_true rfl) rfl rfl (cfX11_danceTo D cI cT ad (l := X.2.1) C.2.2.1 hc) tw8_16 cy_X11_danceTo (by decide +kernel) ⟨Nat.le_of_ble_eq_true rfl, Nat.le_of_ble_eq_true rfl⟩ (by decide) rfl rfl (Nat.le_of_ble_eq_true rfl) dX11_apart_27 rfl ?_
    refine w_pop C rfl dX11_apart_30 rfl ?_
    refine w_aload_n C dX11_apart_31 rfl 0 rfl ?_
    refine w_get C 0 35 (Nat.le_of_ble_eq_true rfl) rfl rfl inB_X11 (by decide) tw6_196 rfl dX11_apart_32 rfl ?_
    refine w_iconst C 0 dX11_apart_35 rfl (by decide) ?_
    refine w_ialdc C 21 2 0 0 (Nat.le_of_ble_eq_true rfl) (fun _ => rfl) rfl (by decide) (by show ¬ (_ ∨ _); decide) dX11_apart_36 rfl ?_
    refine w_aload_n C dX11_apart_37 rfl 0 rfl ?_
    refine w_get C 0 35 (Nat.le_of_ble_eq_true rfl) rfl rfl inB_X11 (by decide) tw6_196 rfl dX11_apart_38 rfl ?_
    refine w_iconst C 1 dX11_apart_41 rfl (by decide) ?_
    refine w_ialdc C 21 2 0 1 (Nat.le_of_ble_eq_true rfl) (fun _ => rfl) rfl (by decide) (by show ¬ (_ ∨ _); decide) dX11_apart_42 rfl ?_
    refine w_isub C dX11_apart_43 rfl ?_
    refine w_mabs C (all4 tw8_236 tw5_223 tw1_17 tw5_224) ⟨Nat.le_of_ble_eq_true rfl, Nat.le_of_ble_eq_true rfl⟩ (by decide) dX11_apart_44 rfl ?_
    refine w_aload_n C dX11_apart_47 rfl 0 rfl ?_
    refine w_get C 0 36 (Nat.le_of_ble_eq_true rfl) rfl rfl inB_X11 (by decide) tw6_197 rfl dX11_apart_48 rfl ?_
    refine w_iconst C 0 dX11_apart_51 rfl (by decide) ?_
    refine w_ialdc C 22 2 0 0 (Nat.le_of_ble_eq_true rfl) (fun _ => rfl) rfl (by decide) (by show ¬ (_ ∨ _); decide) dX11_apart_52 rfl ?_
    refine w_aload_n C dX11_apart_53 rfl 0 rfl ?_
    refine w_get C 0 36 (Nat.le_of_ble_eq_true rfl) rfl rfl inB_X11 (by decide) tw6_197 rfl dX11_apart_54 rfl ?_
    refine w_iconst C 1 dX11_apart_57 rfl (by decide) ?_
    refine w_ialdc C 22 2 0 1 (Nat.le_of_ble_eq_true rfl) (fun _ => rfl) rfl (by decide) (by show ¬ (_ ∨ _); decide) dX11_apart_58 rfl ?_
    refine w_isub C dX11_apart_59 rfl ?_
    refine w_mabs C (all4 tw8_236 tw5_223 tw1_17 tw5_224) ⟨Nat.le_of_ble_eq_true rfl, Nat.le_of_ble_eq_true rfl⟩ (by decide) dX11_apart_60 rfl ?_
    refine w_iadd C dX11_apart_63 rfl ?_
    exact w_ri2 hr h (by decide) dX11_apart_64
  · refine w_aload_n C dX11_apart_13 rfl 0 rfl ?_
    refine w_iconst C 1 dX11_apart_14 rfl (by decide) ?_
    refine bd2_w h (fun r6 u7 hc h => ?_)
    refine w_callVi C (n := 1) (As := [.int 1]) (st := []) 0 (Nat.le_of_ble_eq_true rfl) rfl rfl (cfX11_fail D cI cT ad (l := X.2.1) C.2.2.1 hc) tw7_117 cy_X11_fail (by decide +kernel) ⟨Nat.le_of_ble_eq_true rfl, Nat.le_of_ble_eq_true rfl⟩ (by decide) rfl rfl (Nat.le_of_ble_eq_true rfl) dX11_apart_15 rfl ?_
    exact w_ri2 hr h (by decide) dX11_apart_18
theorem cfX11_apart (D : va_G) (cI cT : ClassId) (ad : Nat → Nat) {l : Launch} (had : gAp (gM D cI cT ad)) {F : Nat} {σ : St} {a0 : Int32} {r : Int32} {σ' : St} (h : fX11_apart F σ a0 = some (r, σ')) : MI l yX11_apart (wB yX11_apart cX11_apart 2 (some .int)) 4 98 (gM D cI cT ad) [.ref (ad 0), .int a0] σ r σ' := mk_MI had (by decide +kernel) (Nat.le_of_ble_eq_true rfl) (fun X hX C hr => wfX11_apart C hr h)

def fX11_isAgainst (F : Nat) (σ : St) (a0 : Int32) (a1 : Int32) (a2 : Int32) : Option (Int32 × St) := bd1 (fX11_isOf F σ a0 a1) fun r1 => if r1 = 0 then (some (0, σ)) else bd1 (fX11_isOf F σ a0 a2) fun r2 => if r2 = 0 then (some (0, σ)) else lp (fun (K4 : (St × Int32) → Option (Int32 × St)) (v3 : St × Int32) => if (v3.1 5 0) ≤ v3.2 then (some (0, v3.1)) else lp (fun (K7 : (St × Int32) → Option (Int32 × St)) (v6 : St × Int32) => if (8 : Int32) ≤ v6.2 then (K4 ((v6.1, v3.2 + 1))) else bd2 (fX11_leastBy F v6.1 a1 v3.2 v6.2) fun r9 u10 => bd2 (fX11_leastBy F u10 a2 v3.2 v6.2) fun r11 u12 => if r9 = (-1 : Int32) then (K7 ((u12, v6.2 + 1))) else if r11 = (-1 : Int32) then (K7 ((u12, v6.2 + 1))) else if r9 = r11 then (K7 ((u12, v6.2 + 1))) else some (1, u12)) F ((v3.1, 0))) F ((σ, 0))
set_option maxRecDepth 20000 in
theorem wfX11_isAgainst {X : XT} {D : va_G} {cI cT : ClassId} {ad : Nat → Nat} {F : Nat} {σ : St} {a0 : Int32} {a1 : Int32} {a2 : Int32} {r : Int32} {σ' : St} (C : Cx X (gM D cI cT ad) cX11_isAgainst 8 RX11 4 98 0) (hr : RetZ X (gM D cI cT ad) cX11_isAgainst 8 0 r σ') (h : fX11_isAgainst F σ a0 a1 a2 = some (r, σ')) : WP X (gM D cI cT ad) 8 0 0 σ [(0, .ref (ad 0)), (1, .int a0), (2, .int a1), (3, .int a2)] [] := by
  unfold fX11_isAgainst at h
  refine w_iload_n C dX11_isAgainst_0 rfl 1 rfl ?_
  refine w_iload_n C dX11_isAgainst_1 rfl 2 rfl ?_
  refine bd1_w h (fun r1 hc h => ?_)
  refine w_callSi C (n := 2) (As := [.int a0, .int a1]) (st := []) (cfX11_isOf D cI cT ad (l := X.2.1) C.2.2.1 hc) tw8_9 cs_X11_isOf (by decide +kernel) ⟨Nat.le_of_ble_eq_true rfl, Nat.le_of_ble_eq_true rfl⟩ (by decide) rfl rfl (Nat.le_of_ble_eq_true rfl) dX11_isAgainst_2 rfl ?_
  refine w_if_eq C (qt := 16) dX11_isAgainst_5 (by decide) rfl h (fun _ h => ?_) (fun _ h => ?_)
  · refine w_iconst C 0 dX11_isAgainst_16 rfl (by decide) ?_
    exact w_rz2 hr (by decide) h (by decide) dX11_isAgainst_17
  · refine w_iload_n C dX11_isAgainst_8 rfl 1 rfl ?_
    refine w_iload_n C dX11_isAgainst_9 rfl 3 rfl ?_
    refine bd1_w h (fun r2 hc h => ?_)
    refine w_callSi C (n := 2) (As := [.int a0, .int a2]) (st := []) (cfX11_isOf D cI cT ad (l := X.2.1) C.2.2.1 hc) tw8_9 cs_X11_isOf (by decide +kernel) ⟨Nat.le_of_ble_eq_true rfl, Nat.le_of_ble_eq_true rfl⟩ (by decide) rfl rfl (Nat.le_of_ble_eq_true rfl) dX11_isAgainst_10 rfl ?_
    refine w_if_ne C (qt := 18) dX11_isAgainst_13 (by decide) rfl h (fun _ h => ?_) (fun _ h => ?_)
    · refine w_iconst C 0 dX11_isAgainst_18 rfl (by decide) ?_
      refine w_istore C [(4, .int 0), (0, .ref (ad 0)), (1, .int a0), (2, .int a1), (3, .int a2)] dX11_isAgainst_19 rfl (by decide) rfl ?_
      refine w_sub (lv' := [(4, .int 0), (0, .ref (ad 0)), (2, .int a1), (3, .int a2)]) [0, 1, 3, 4] rfl ?_
      refine lp_w (fun v3 : St × Int32 => WP X (gM D cI cT ad) 8 0 21 v3.1 [(4, .int v3.2), (0, .ref (ad 0)), (2, .int a1), (3, .int a2)] []) (fun K4 hK5 v3 h => ?_) F _ h
      refine w_iload C dX11_isAgainst_21 rfl 0 rfl ?_
      refine w_aload_n C dX11_isAgainst_23 rfl 1 rfl ?_
      refine w_get C 0 5 (Nat.le_of_ble_eq_true rfl) rfl rfl inB_X11 (by decide) tw6_166 rfl dX11_isAgainst_24 rfl ?_
      refine w_iconst C 0 dX11_isAgainst_27 rfl (by decide) ?_
      refine w_ialdc C 5 8 0 0 (Nat.le_of_ble_eq_true rfl) (fun _ => rfl) rfl (by decide) (by show ¬ (_ ∨ _); decide) dX11_isAgainst_28 rfl ?_
      refine w_icmp_ge C (qt := 97) dX11_isAgainst_29 (by decide) rfl h (fun _ h => ?_) (fun _ h => ?_)
      · refine w_iconst C 0 dX11_isAgainst_97 rfl (by decide) ?_
        exact w_rz2 hr (by decide) h (by decide) dX11_isAgainst_98
      · refine w_iconst C 0 dX11_isAgainst_32 rfl (by decide) ?_
        refine w_istore C [(5, .int 0), (4, .int v3.2), (0, .ref (ad 0)), (2, .int a1), (3, .int a2)] dX11_isAgainst_33 rfl (by decide) rfl ?_
        refine w_sub (lv' := [(5, .int 0), (4, .int v3.2), (0, .ref (ad 0)), (2, .int a1), (3, .int a2)]) [0, 1, 2, 3, 4] rfl ?_
        refine lp_w (fun v6 : St × Int32 => WP X (gM D cI cT ad) 8 0 35 v6.1 [(5, .int v6.2), (4, .int v3.2), (0, .ref (ad 0)), (2, .int a1), (3, .int a2)] []) (fun K7 hK8 v6 h => ?_) F _ h
        refine w_iload C dX11_isAgainst_35 rfl 0 rfl ?_
        refine w_bipush C 8 dX11_isAgainst_37 rfl (by decide) ?_
        refine w_icmp_ge C (qt := 91) dX11_isAgainst_39 (by decide) rfl h (fun _ h => ?_) (fun _ h => ?_)
        · refine w_iinc (j := 1) C (v3.2 + 1) [(4, .int (v3.2 + 1)), (5, .int v6.2), (0, .ref (ad 0)), (2, .int a1), (3, .int a2)] dX11_isAgainst_91 rfl rfl rfl (by decide) rfl ?_
          refine w_goto (q := 21) C dX11_isAgainst_94 (by decide) ?_
          exact w_sub (lv' := [(4, .int (v3.2 + 1)), (0, .ref (ad 0)), (2, .int a1), (3, .int a2)]) [0, 2, 3, 4] rfl (hK5 ((v6.1, v3.2 + 1)) h)
        · refine w_aload_n C dX11_isAgainst_42 rfl 2 rfl ?_
          refine w_iload_n C dX11_isAgainst_43 rfl 3 rfl ?_
          refine w_iload C dX11_isAgainst_44 rfl 1 rfl ?_
          refine w_iload C dX11_isAgainst_46 rfl 0 rfl ?_
          refine bd2_w h (fun r9 u10 hc h => ?_)
          refine w_callVi C (n := 3) (As := [.int a1, .int v3.2, .int v6.2]) (st := []) 0 (Nat.le_of_ble_eq_true rfl) rfl rfl (cfX11_leastBy D cI cT ad (l := X.2.1) C.2.2.1 hc) tw8_56 cy_X11_leastBy (by decide +kernel) ⟨Nat.le_of_ble_eq_true rfl, Nat.le_of_ble_eq_true rfl⟩ (by decide) rfl rfl (Nat.le_of_ble_eq_true rfl) dX11_isAgainst_48 rfl ?_
          refine w_istore C [(6, .int r9), (5, .int v6.2), (4, .int v3.2), (0, .ref (ad 0)), (2, .int a1), (3, .int a2)] dX11_isAgainst_51 rfl (by decide) rfl ?_
          refine w_aload_n C dX11_isAgainst_53 rfl 3 rfl ?_
          refine w_iload_n C dX11_isAgainst_54 rfl 5 rfl ?_
          refine w_iload C dX11_isAgainst_55 rfl 2 rfl ?_
          refine w_iload C dX11_isAgainst_57 rfl 1 rfl ?_
          refine bd2_w h (fun r11 u12 hc h => ?_)
          refine w_callVi C (n := 3) (As := [.int a2, .int v3.2, .int v6.2]) (st := []) 0 (Nat.le_of_ble_eq_true rfl) rfl rfl (cfX11_leastBy D cI cT ad (l := X.2.1) C.2.2.1 hc) tw8_56 cy_X11_leastBy (by decide +kernel) ⟨Nat.le_of_ble_eq_true rfl, Nat.le_of_ble_eq_true rfl⟩ (by decide) rfl rfl (Nat.le_of_ble_eq_true rfl) dX11_isAgainst_59 rfl ?_
          refine w_istore C [(7, .int r11), (6, .int r9), (5, .int v6.2), (4, .int v3.2), (0, .ref (ad 0)), (2, .int a1), (3, .int a2)] dX11_isAgainst_62 rfl (by decide) rfl ?_
          refine w_iload C dX11_isAgainst_64 rfl 1 rfl ?_
          refine w_iconst C (-1) dX11_isAgainst_66 rfl (by decide) ?_
          refine w_icmp_eq C (qt := 85) dX11_isAgainst_67 (by decide) rfl h (fun _ h => ?_) (fun _ h => ?_)
          · refine w_iinc (j := 2) C (v6.2 + 1) [(5, .int (v6.2 + 1)), (7, .int r11), (6, .int r9), (4, .int v3.2), (0, .ref (ad 0)), (2, .int a1), (3, .int a2)] dX11_isAgainst_85 rfl rfl rfl (by decide) rfl ?_
            refine w_goto (q := 35) C dX11_isAgainst_88 (by decide) ?_
            exact w_sub (lv' := [(5, .int (v6.2 + 1)), (4, .int v3.2), (0, .ref (ad 0)), (2, .int a1), (3, .int a2)]) [0, 3, 4, 5, 6] rfl (hK8 ((u12, v6.2 + 1)) h)
          · refine w_iload C dX11_isAgainst_70 rfl 0 rfl ?_
            refine w_iconst C (-1) dX11_isAgainst_72 rfl (by decide) ?_
            refine w_icmp_eq C (qt := 85) dX11_isAgainst_73 (by decide) rfl h (fun _ h => ?_) (fun _ h => ?_)
            · refine w_iinc (j := 2) C (v6.2 + 1) [(5, .int (v6.2 + 1)), (7, .int r11), (6, .int r9), (4, .int v3.2), (0, .ref (ad 0)), (2, .int a1), (3, .int a2)] dX11_isAgainst_85 rfl rfl rfl (by decide) rfl ?_
              refine w_goto (q := 35) C dX11_isAgainst_88 (by decide) ?_
              exact w_sub (lv' := [(5, .int (v6.2 + 1)), (4, .int v3.2), (0, .ref (ad 0)), (2, .int a1), (3, .int a2)]) [0, 3, 4, 5, 6] rfl (hK8 ((u12, v6.2 + 1)) h)
            · refine w_iload C dX11_isAgainst_76 rfl 1 rfl ?_
              refine w_iload C dX11_isAgainst_78 rfl 0 rfl ?_
              refine w_icmp_eq C (qt := 85) dX11_isAgainst_80 (by decide) rfl h (fun _ h => ?_) (fun _ h => ?_)
              · refine w_iinc (j := 2) C (v6.2 + 1) [(5, .int (v6.2 + 1)), (7, .int r11), (6, .int r9), (4, .int v3.2), (0, .ref (ad 0)), (2, .int a1), (3, .int a2)] dX11_isAgainst_85 rfl rfl rfl (by decide) rfl ?_
                refine w_goto (q := 35) C dX11_isAgainst_88 (by decide) ?_
                exact w_sub (lv' := [(5, .int (v6.2 + 1)), (4, .int v3.2), (0, .ref (ad 0)), (2, .int a1), (3, .int a2)]) [0, 3, 4, 5, 6] rfl (hK8 ((u12, v6.2 + 1)) h)
              · refine w_iconst C 1 dX11_isAgainst_83 rfl (by decide) ?_
                exact w_rz2 hr (by decide) h (by decide) dX11_isAgainst_84
    · refine w_iconst C 0 dX11_isAgainst_16 rfl (by decide) ?_
      exact w_rz2 hr (by decide) h (by decide) dX11_isAgainst_17
theorem cfX11_isAgainst (D : va_G) (cI cT : ClassId) (ad : Nat → Nat) {l : Launch} (had : gAp (gM D cI cT ad)) {F : Nat} {σ : St} {a0 : Int32} {a1 : Int32} {a2 : Int32} {r : Int32} {σ' : St} (h : fX11_isAgainst F σ a0 a1 a2 = some (r, σ')) : MI l yX11_isAgainst (wB yX11_isAgainst cX11_isAgainst 8 (some .boolean)) 4 98 (gM D cI cT ad) [.ref (ad 0), .int a0, .int a1, .int a2] σ r σ' := mk_MZ had (by decide +kernel) (Nat.le_of_ble_eq_true rfl) (fun X hX C hr => wfX11_isAgainst C hr h)

def fX11_against (F : Nat) (σ : St) (a0 : Int32) : Option (Int32 × St) := nm (up σ 0 4 0) fun u2 => jn (fun v3 : Unit => bd2 (fX11_fail F u2 1) fun r6 u7 => some (r6, u7)) fun J4 => if a0 < 0 then (J4 (())) else if a0 ≤ (1 : Int32) then (bd2 (fX11_binding F u2) fun r8 u9 => lp (fun (K11 : (St × Int32 × Int32) → Option (Int32 × St)) (v10 : St × Int32 × Int32) => if (v10.1 5 1) ≤ v10.2.1 then (if a0 = 0 then (some (v10.2.2, v10.1)) else lp (fun (K14 : (Int32 × Int32) → Option (Int32 × St)) (v13 : Int32 × Int32) => if ((1 : Int32) <<< ((v10.1 5 1) &&& 31)) ≤ v13.1 then (some (v13.2, v10.1)) else jn (fun v16 : Int32 => lp (fun (K20 : (Int32 × Int32) → Option (Int32 × St)) (v19 : Int32 × Int32) => jn (fun v22 : Unit => if v19.2 = 0 then (K14 ((v13.1 + 1, v13.2))) else K14 ((v13.1 + 1, v13.1))) fun J23 => if (v10.1 5 1) ≤ v19.1 then (J23 (())) else if v19.2 = 0 then (J23 (())) else bd1 (fX11_isOf F v10.1 v13.1 v19.1) fun r25 => if r25 = 0 then (ckI (v19.1) 8 (if ((v10.1 26 (Int32.toNatClampNeg v19.1)) &&& (v13.1 ^^^ ((-1)))) = 0 then (K20 ((v19.1 + 1, 1))) else K20 ((v19.1 + 1, 0)))) else K20 ((v19.1 + 1, 1))) F ((0, v16))) fun J17 => jn (fun v26 : Unit => J17 1) fun J27 => if v13.2 = (-1 : Int32) then (J27 (())) else bd1 (fX11_bitsOf F v10.1 v13.1) fun r29 => bd1 (fX11_bitsOf F v10.1 v13.2) fun r30 => if r30 ≤ r29 then (J17 0) else J27 (())) F ((0, (-1)))) else ckI (v10.2.1) 8 (nm (up v10.1 26 (Int32.toNatClampNeg v10.2.1) 0) fun u31 => nm (v10.2.1 + 1) fun x32 => lp (fun (K34 : (St × Int32 × Int32) → Option (Int32 × St)) (v33 : St × Int32 × Int32) => if (v33.1 5 1) ≤ v33.2.1 then (K11 ((v33.1, v10.2.1 + 1, v33.2.2))) else bd2 (fX11_isAgainst F v33.1 r8 v10.2.1 v33.2.1) fun r36 u37 => if r36 = 0 then (K34 ((u37, v33.2.1 + 1, v33.2.2))) else ckI (v10.2.1) 8 (ckI (v10.2.1) 8 (nm (up u37 26 (Int32.toNatClampNeg v10.2.1) ((u37 26 (Int32.toNatClampNeg v10.2.1)) ||| ((1 : Int32) <<< (v33.2.1 &&& 31)))) fun u38 => K34 ((u38, v33.2.1 + 1, v33.2.2 + 1))))) F ((u31, x32, v10.2.2)))) F ((u9, 0, 0))) else J4 (())
set_option maxRecDepth 20000 in
theorem wfX11_against {X : XT} {D : va_G} {cI cT : ClassId} {ad : Nat → Nat} {F : Nat} {σ : St} {a0 : Int32} {r : Int32} {σ' : St} (C : Cx X (gM D cI cT ad) cX11_against 8 RX11 7 162 0) (hr : RetI X (gM D cI cT ad) cX11_against 8 0 r σ') (h : fX11_against F σ a0 = some (r, σ')) : WP X (gM D cI cT ad) 8 0 0 σ [(0, .ref (ad 0)), (1, .int a0)] [] := by
  unfold fX11_against at h
  refine w_aload_n C dX11_against_0 rfl 0 rfl ?_
  refine w_iconst C 0 dX11_against_1 rfl (by decide) ?_
  refine w_put C 0 4 0 (Nat.le_of_ble_eq_true rfl) rfl rfl inB_X11 tyX11_ok nmX11 (by decide) tw6_165 rfl rfl rfl (Nat.le_of_ble_eq_true rfl) rfl dX11_against_2 rfl ?_
  refine w_nst h (fun u2 h => ?_)
  refine w_iload_n C dX11_against_5 rfl 1 rfl ?_
  refine jn_w (fun v3 : Unit => WP X (gM D cI cT ad) 8 0 14 u2 [(0, .ref (ad 0))] []) h (fun v3 h => ?_) (fun J4 hJ5 h => ?_)
  · refine w_aload_n C dX11_against_14 rfl 0 rfl ?_
    refine w_iconst C 1 dX11_against_15 rfl (by decide) ?_
    refine bd2_w h (fun r6 u7 hc h => ?_)
    refine w_callVi C (n := 1) (As := [.int 1]) (st := []) 0 (Nat.le_of_ble_eq_true rfl) rfl rfl (cfX11_fail D cI cT ad (l := X.2.1) C.2.2.1 hc) tw7_117 cy_X11_fail (by decide +kernel) ⟨Nat.le_of_ble_eq_true rfl, Nat.le_of_ble_eq_true rfl⟩ (by decide) rfl rfl (Nat.le_of_ble_eq_true rfl) dX11_against_16 rfl ?_
    exact w_ri2 hr h (by decide) dX11_against_19
  · refine w_if_lt C (qt := 14) dX11_against_6 (by decide) rfl h (fun _ h => ?_) (fun _ h => ?_)
    · exact w_sub (lv' := [(0, .ref (ad 0))]) [0] rfl (hJ5 (()) h)
    · refine w_iload_n C dX11_against_9 rfl 1 rfl ?_
      refine w_iconst C 1 dX11_against_10 rfl (by decide) ?_
      refine w_icmp_le C (qt := 20) dX11_against_11 (by decide) rfl h (fun _ h => ?_) (fun _ h => ?_)
      · refine w_aload_n C dX11_against_20 rfl 0 rfl ?_
        refine bd2_w h (fun r8 u9 hc h => ?_)
        refine w_callVi C (n := 0) (As := []) (st := []) 0 (Nat.le_of_ble_eq_true rfl) rfl rfl (cfX11_binding D cI cT ad (l := X.2.1) C.2.2.1 hc) tw8_1 cy_X11_binding (by decide +kernel) ⟨Nat.le_of_ble_eq_true rfl, Nat.le_of_ble_eq_true rfl⟩ (by decide) rfl rfl (Nat.le_of_ble_eq_true rfl) dX11_against_21 rfl ?_
        refine w_istore_n C [(2, .int r8), (0, .ref (ad 0)), (1, .int a0)] dX11_against_24 rfl (by decide) rfl ?_
        refine w_iconst C 0 dX11_against_25 rfl (by decide) ?_
        refine w_istore_n C [(3, .int 0), (2, .int r8), (0, .ref (ad 0)), (1, .int a0)] dX11_against_26 rfl (by decide) rfl ?_
        refine w_iconst C 0 dX11_against_27 rfl (by decide) ?_
        refine w_istore C [(4, .int 0), (3, .int 0), (2, .int r8), (0, .ref (ad 0)), (1, .int a0)] dX11_against_28 rfl (by decide) rfl ?_
        refine w_sub (lv' := [(4, .int 0), (3, .int 0), (2, .int r8), (0, .ref (ad 0)), (1, .int a0)]) [0, 1, 2, 3, 4] rfl ?_
        refine lp_w (fun v10 : St × Int32 × Int32 => WP X (gM D cI cT ad) 8 0 30 v10.1 [(4, .int v10.2.1), (3, .int v10.2.2), (2, .int r8), (0, .ref (ad 0)), (1, .int a0)] []) (fun K11 hK12 v10 h => ?_) F _ h
        refine w_iload C dX11_against_30 rfl 0 rfl ?_
        refine w_aload_n C dX11_against_32 rfl 3 rfl ?_
        refine w_get C 0 5 (Nat.le_of_ble_eq_true rfl) rfl rfl inB_X11 (by decide) tw6_166 rfl dX11_against_33 rfl ?_
        refine w_iconst C 1 dX11_against_36 rfl (by decide) ?_
        refine w_ialdc C 5 8 0 1 (Nat.le_of_ble_eq_true rfl) (fun _ => rfl) rfl (by decide) (by show ¬ (_ ∨ _); decide) dX11_against_37 rfl ?_
        refine w_icmp_ge C (qt := 110) dX11_against_38 (by decide) rfl h (fun _ h => ?_) (fun _ h => ?_)
        · refine w_iload_n C dX11_against_110 rfl 4 rfl ?_
          refine w_if_ne C (qt := 116) dX11_against_111 (by decide) rfl h (fun _ h => ?_) (fun _ h => ?_)
          · refine w_iconst C (-1) dX11_against_116 rfl (by decide) ?_
            refine w_istore C [(4, .int ((-1))), (3, .int v10.2.2), (2, .int r8), (0, .ref (ad 0)), (1, .int a0)] dX11_against_117 rfl (by decide) rfl ?_
            refine w_iconst C 0 dX11_against_119 rfl (by decide) ?_
            refine w_istore C [(5, .int 0), (4, .int ((-1))), (3, .int v10.2.2), (2, .int r8), (0, .ref (ad 0)), (1, .int a0)] dX11_against_120 rfl (by decide) rfl ?_
            refine w_sub (lv' := [(5, .int 0), (4, .int ((-1))), (0, .ref (ad 0))]) [0, 1, 4] rfl ?_
            refine lp_w (fun v13 : Int32 × Int32 => WP X (gM D cI cT ad) 8 0 122 v10.1 [(5, .int v13.1), (4, .int v13.2), (0, .ref (ad 0))] []) (fun K14 hK15 v13 h => ?_) F _ h
            refine w_iload C dX11_against_122 rfl 0 rfl ?_
            refine w_iconst C 1 dX11_against_124 rfl (by decide) ?_
            refine w_aload_n C dX11_against_125 rfl 2 rfl ?_
            refine w_get C 0 5 (Nat.le_of_ble_eq_true rfl) rfl rfl inB_X11 (by decide) tw6_166 rfl dX11_against_126 rfl ?_
            refine w_iconst C 1 dX11_against_129 rfl (by decide) ?_
            refine w_ialdc C 5 8 0 1 (Nat.le_of_ble_eq_true rfl) (fun _ => rfl) rfl (by decide) (by show ¬ (_ ∨ _); decide) dX11_against_130 rfl ?_
            refine w_ishl C dX11_against_131 rfl ?_
            refine w_icmp_ge C (qt := 233) dX11_against_132 (by decide) rfl h (fun _ h => ?_) (fun _ h => ?_)
            · refine w_iload C dX11_against_233 rfl 1 rfl ?_
              exact w_ri2 hr h (by decide) dX11_against_235
            · refine w_iload C dX11_against_135 rfl 1 rfl ?_
              refine w_iconst C (-1) dX11_against_137 rfl (by decide) ?_
              refine jn_w (fun v16 : Int32 => WP X (gM D cI cT ad) 8 0 159 v10.1 [(5, .int v13.1), (4, .int v13.2), (0, .ref (ad 0))] [.int v16]) h (fun v16 h => ?_) (fun J17 hJ18 h => ?_)
              · refine w_istore C [(6, .int v16), (5, .int v13.1), (4, .int v13.2), (0, .ref (ad 0))] dX11_against_159 rfl (by decide) rfl ?_
                refine w_iconst C 0 dX11_against_161 rfl (by decide) ?_
                refine w_istore C [(7, .int 0), (6, .int v16), (5, .int v13.1), (4, .int v13.2), (0, .ref (ad 0))] dX11_against_162 rfl (by decide) rfl ?_
                refine w_sub (lv' := [(7, .int 0), (6, .int v16), (5, .int v13.1), (4, .int v13.2), (0, .ref (ad 0))]) [0, 1, 2, 3, 4] rfl ?_
                refine lp_w (fun v19 : Int32 × Int32 => WP X (gM D cI cT ad) 8 0 164 v10.1 [(7, .int v19.1), (6, .int v19.2), (5, .int v13.1), (4, .int v13.2), (0, .ref (ad 0))] []) (fun K20 hK21 v19 h => ?_) F _ h
                refine w_iload C dX11_against_164 rfl 0 rfl ?_
                refine w_aload_n C dX11_against_166 rfl 4 rfl ?_
                refine w_get C 0 5 (Nat.le_of_ble_eq_true rfl) rfl rfl inB_X11 (by decide) tw6_166 rfl dX11_against_167 rfl ?_
                refine w_iconst C 1 dX11_against_170 rfl (by decide) ?_
                refine w_ialdc C 5 8 0 1 (Nat.le_of_ble_eq_true rfl) (fun _ => rfl) rfl (by decide) (by show ¬ (_ ∨ _); decide) dX11_against_171 rfl ?_
                refine jn_w (fun v22 : Unit => WP X (gM D cI cT ad) 8 0 218 v10.1 [(6, .int v19.2), (5, .int v13.1), (4, .int v13.2), (0, .ref (ad 0))] []) h (fun v22 h => ?_) (fun J23 hJ24 h => ?_)
                · refine w_iload C dX11_against_218 rfl 0 rfl ?_
                  refine w_if_eq C (qt := 227) dX11_against_220 (by decide) rfl h (fun _ h => ?_) (fun _ h => ?_)
                  · refine w_iinc (j := 1) C (v13.1 + 1) [(5, .int (v13.1 + 1)), (6, .int v19.2), (4, .int v13.2), (0, .ref (ad 0))] dX11_against_227 rfl rfl rfl (by decide) rfl ?_
                    refine w_goto (q := 122) C dX11_against_230 (by decide) ?_
                    exact w_sub (lv' := [(5, .int (v13.1 + 1)), (4, .int v13.2), (0, .ref (ad 0))]) [0, 2, 3] rfl (hK15 ((v13.1 + 1, v13.2)) h)
                  · refine w_iload C dX11_against_223 rfl 1 rfl ?_
                    refine w_istore C [(4, .int v13.1), (6, .int v19.2), (5, .int v13.1), (0, .ref (ad 0))] dX11_against_225 rfl (by decide) rfl ?_
                    refine w_iinc (j := 2) C (v13.1 + 1) [(5, .int (v13.1 + 1)), (4, .int v13.1), (6, .int v19.2), (0, .ref (ad 0))] dX11_against_227 rfl rfl rfl (by decide) rfl ?_
                    refine w_goto (q := 122) C dX11_against_230 (by decide) ?_
                    exact w_sub (lv' := [(5, .int (v13.1 + 1)), (4, .int v13.1), (0, .ref (ad 0))]) [0, 1, 3] rfl (hK15 ((v13.1 + 1, v13.1)) h)
                · refine w_icmp_ge C (qt := 218) dX11_against_172 (by decide) rfl h (fun _ h => ?_) (fun _ h => ?_)
                  · exact w_sub (lv' := [(6, .int v19.2), (5, .int v13.1), (4, .int v13.2), (0, .ref (ad 0))]) [1, 2, 3, 4] rfl (hJ24 (()) h)
                  · refine w_iload C dX11_against_175 rfl 1 rfl ?_
                    refine w_if_eq C (qt := 218) dX11_against_177 (by decide) rfl h (fun _ h => ?_) (fun _ h => ?_)
                    · exact w_sub (lv' := [(6, .int v19.2), (5, .int v13.1), (4, .int v13.2), (0, .ref (ad 0))]) [1, 2, 3, 4] rfl (hJ24 (()) h)
                    · refine w_iload C dX11_against_180 rfl 2 rfl ?_
                      refine w_iload C dX11_against_182 rfl 0 rfl ?_
                      refine bd1_w h (fun r25 hc h => ?_)
                      refine w_callSi C (n := 2) (As := [.int v13.1, .int v19.1]) (st := []) (cfX11_isOf D cI cT ad (l := X.2.1) C.2.2.1 hc) tw8_9 cs_X11_isOf (by decide +kernel) ⟨Nat.le_of_ble_eq_true rfl, Nat.le_of_ble_eq_true rfl⟩ (by decide) rfl rfl (Nat.le_of_ble_eq_true rfl) dX11_against_184 rfl ?_
                      refine w_if_ne C (qt := 205) dX11_against_187 (by decide) rfl h (fun _ h => ?_) (fun _ h => ?_)
                      · refine w_iconst C 1 dX11_against_205 rfl (by decide) ?_
                        refine w_goto (q := 210) C dX11_against_206 (by decide) ?_
                        refine w_istore C [(6, .int 1), (7, .int v19.1), (5, .int v13.1), (4, .int v13.2), (0, .ref (ad 0))] dX11_against_210 rfl (by decide) rfl ?_
                        refine w_iinc (j := 1) C (v19.1 + 1) [(7, .int (v19.1 + 1)), (6, .int 1), (5, .int v13.1), (4, .int v13.2), (0, .ref (ad 0))] dX11_against_212 rfl rfl rfl (by decide) rfl ?_
                        refine w_goto (q := 164) C dX11_against_215 (by decide) ?_
                        exact w_sub (lv' := [(7, .int (v19.1 + 1)), (6, .int 1), (5, .int v13.1), (4, .int v13.2), (0, .ref (ad 0))]) [0, 1, 2, 3, 4] rfl (hK21 ((v19.1 + 1, 1)) h)
                      · refine w_aload_n C dX11_against_190 rfl 4 rfl ?_
                        refine w_get C 0 41 (Nat.le_of_ble_eq_true rfl) rfl rfl inB_X11 (by decide) tw6_202 rfl dX11_against_191 rfl ?_
                        refine w_iload C dX11_against_194 rfl 0 rfl ?_
                        refine w_iald C 26 8 0 (Nat.le_of_ble_eq_true rfl) (fun _ => rfl) rfl h dX11_against_196 rfl (fun h => ?_)
                        refine w_iload C dX11_against_197 rfl 2 rfl ?_
                        refine w_iconst C (-1) dX11_against_199 rfl (by decide) ?_
                        refine w_ixor C dX11_against_200 rfl ?_
                        refine w_iand C dX11_against_201 rfl ?_
                        refine w_if_ne C (qt := 209) dX11_against_202 (by decide) rfl h (fun _ h => ?_) (fun _ h => ?_)
                        · refine w_iconst C 0 dX11_against_209 rfl (by decide) ?_
                          refine w_istore C [(6, .int 0), (7, .int v19.1), (5, .int v13.1), (4, .int v13.2), (0, .ref (ad 0))] dX11_against_210 rfl (by decide) rfl ?_
                          refine w_iinc (j := 1) C (v19.1 + 1) [(7, .int (v19.1 + 1)), (6, .int 0), (5, .int v13.1), (4, .int v13.2), (0, .ref (ad 0))] dX11_against_212 rfl rfl rfl (by decide) rfl ?_
                          refine w_goto (q := 164) C dX11_against_215 (by decide) ?_
                          exact w_sub (lv' := [(7, .int (v19.1 + 1)), (6, .int 0), (5, .int v13.1), (4, .int v13.2), (0, .ref (ad 0))]) [0, 1, 2, 3, 4] rfl (hK21 ((v19.1 + 1, 0)) h)
                        · refine w_iconst C 1 dX11_against_205 rfl (by decide) ?_
                          refine w_goto (q := 210) C dX11_against_206 (by decide) ?_
                          refine w_istore C [(6, .int 1), (7, .int v19.1), (5, .int v13.1), (4, .int v13.2), (0, .ref (ad 0))] dX11_against_210 rfl (by decide) rfl ?_
                          refine w_iinc (j := 1) C (v19.1 + 1) [(7, .int (v19.1 + 1)), (6, .int 1), (5, .int v13.1), (4, .int v13.2), (0, .ref (ad 0))] dX11_against_212 rfl rfl rfl (by decide) rfl ?_
                          refine w_goto (q := 164) C dX11_against_215 (by decide) ?_
                          exact w_sub (lv' := [(7, .int (v19.1 + 1)), (6, .int 1), (5, .int v13.1), (4, .int v13.2), (0, .ref (ad 0))]) [0, 1, 2, 3, 4] rfl (hK21 ((v19.1 + 1, 1)) h)
              · refine jn_w (fun v26 : Unit => WP X (gM D cI cT ad) 8 0 154 v10.1 [(5, .int v13.1), (4, .int v13.2), (0, .ref (ad 0))] []) h (fun v26 h => ?_) (fun J27 hJ28 h => ?_)
                · refine w_iconst C 1 dX11_against_154 rfl (by decide) ?_
                  refine w_goto (q := 159) C dX11_against_155 (by decide) ?_
                  exact w_sub (lv' := [(5, .int v13.1), (4, .int v13.2), (0, .ref (ad 0))]) [0, 1, 2] rfl (hJ18 1 h)
                · refine w_icmp_eq C (qt := 154) dX11_against_138 (by decide) rfl h (fun _ h => ?_) (fun _ h => ?_)
                  · exact w_sub (lv' := [(5, .int v13.1), (4, .int v13.2), (0, .ref (ad 0))]) [0, 1, 2] rfl (hJ28 (()) h)
                  · refine w_iload C dX11_against_141 rfl 0 rfl ?_
                    refine bd1_w h (fun r29 hc h => ?_)
                    refine w_callSi C (n := 1) (As := [.int v13.1]) (st := []) (cfX11_bitsOf D cI cT ad (l := X.2.1) C.2.2.1 hc) tw8_224 cs_X11_bitsOf (by decide +kernel) ⟨Nat.le_of_ble_eq_true rfl, Nat.le_of_ble_eq_true rfl⟩ (by decide) rfl rfl (Nat.le_of_ble_eq_true rfl) dX11_against_143 rfl ?_
                    refine w_iload C dX11_against_146 rfl 1 rfl ?_
                    refine bd1_w h (fun r30 hc h => ?_)
                    refine w_callSi C (n := 1) (As := [.int v13.2]) (st := [.int r29]) (cfX11_bitsOf D cI cT ad (l := X.2.1) C.2.2.1 hc) tw8_224 cs_X11_bitsOf (by decide +kernel) ⟨Nat.le_of_ble_eq_true rfl, Nat.le_of_ble_eq_true rfl⟩ (by decide) rfl rfl (Nat.le_of_ble_eq_true rfl) dX11_against_148 rfl ?_
                    refine w_icmp_ge C (qt := 158) dX11_against_151 (by decide) rfl h (fun _ h => ?_) (fun _ h => ?_)
                    · refine w_iconst C 0 dX11_against_158 rfl (by decide) ?_
                      exact w_sub (lv' := [(5, .int v13.1), (4, .int v13.2), (0, .ref (ad 0))]) [0, 1, 2] rfl (hJ18 0 h)
                    · exact w_sub (lv' := [(5, .int v13.1), (4, .int v13.2), (0, .ref (ad 0))]) [0, 1, 2] rfl (hJ28 (()) h)
          · refine w_iload_n C dX11_against_114 rfl 1 rfl ?_
            exact w_ri2 hr h (by decide) dX11_against_115
        · refine w_aload_n C dX11_against_41 rfl 3 rfl ?_
          refine w_get C 0 41 (Nat.le_of_ble_eq_true rfl) rfl rfl inB_X11 (by decide) tw6_202 rfl dX11_against_42 rfl ?_
          refine w_iload C dX11_against_45 rfl 0 rfl ?_
          refine w_iconst C 0 dX11_against_47 rfl (by decide) ?_
          refine w_iast C 26 8 0 (Nat.le_of_ble_eq_true rfl) (fun _ => rfl) rfl h dX11_against_48 rfl (fun h => ?_)
          refine w_nst h (fun u31 h => ?_)
          refine w_iload C dX11_against_49 rfl 0 rfl ?_
          refine w_iconst C 1 dX11_against_51 rfl (by decide) ?_
          refine w_iadd C dX11_against_52 rfl ?_
          refine w_nm h (fun x32 h => ?_)
          refine w_istore C [(5, .int x32), (4, .int v10.2.1), (3, .int v10.2.2), (2, .int r8), (0, .ref (ad 0)), (1, .int a0)] dX11_against_53 rfl (by decide) rfl ?_
          refine w_sub (lv' := [(5, .int x32), (4, .int v10.2.1), (3, .int v10.2.2), (2, .int r8), (0, .ref (ad 0)), (1, .int a0)]) [0, 1, 2, 3, 4, 5] rfl ?_
          refine lp_w (fun v33 : St × Int32 × Int32 => WP X (gM D cI cT ad) 8 0 55 v33.1 [(5, .int v33.2.1), (4, .int v10.2.1), (3, .int v33.2.2), (2, .int r8), (0, .ref (ad 0)), (1, .int a0)] []) (fun K34 hK35 v33 h => ?_) F _ h
          refine w_iload C dX11_against_55 rfl 0 rfl ?_
          refine w_aload_n C dX11_against_57 rfl 4 rfl ?_
          refine w_get C 0 5 (Nat.le_of_ble_eq_true rfl) rfl rfl inB_X11 (by decide) tw6_166 rfl dX11_against_58 rfl ?_
          refine w_iconst C 1 dX11_against_61 rfl (by decide) ?_
          refine w_ialdc C 5 8 0 1 (Nat.le_of_ble_eq_true rfl) (fun _ => rfl) rfl (by decide) (by show ¬ (_ ∨ _); decide) dX11_against_62 rfl ?_
          refine w_icmp_ge C (qt := 104) dX11_against_63 (by decide) rfl h (fun _ h => ?_) (fun _ h => ?_)
          · refine w_iinc (j := 1) C (v10.2.1 + 1) [(4, .int (v10.2.1 + 1)), (5, .int v33.2.1), (3, .int v33.2.2), (2, .int r8), (0, .ref (ad 0)), (1, .int a0)] dX11_against_104 rfl rfl rfl (by decide) rfl ?_
            refine w_goto (q := 30) C dX11_against_107 (by decide) ?_
            exact w_sub (lv' := [(4, .int (v10.2.1 + 1)), (3, .int v33.2.2), (2, .int r8), (0, .ref (ad 0)), (1, .int a0)]) [0, 2, 3, 4, 5] rfl (hK12 ((v33.1, v10.2.1 + 1, v33.2.2)) h)
          · refine w_aload_n C dX11_against_66 rfl 4 rfl ?_
            refine w_iload_n C dX11_against_67 rfl 3 rfl ?_
            refine w_iload C dX11_against_68 rfl 1 rfl ?_
            refine w_iload C dX11_against_70 rfl 0 rfl ?_
            refine bd2_w h (fun r36 u37 hc h => ?_)
            refine w_callVi C (n := 3) (As := [.int r8, .int v10.2.1, .int v33.2.1]) (st := []) 0 (Nat.le_of_ble_eq_true rfl) rfl rfl (cfX11_isAgainst D cI cT ad (l := X.2.1) C.2.2.1 hc) tw9_1 cy_X11_isAgainst (by decide +kernel) ⟨Nat.le_of_ble_eq_true rfl, Nat.le_of_ble_eq_true rfl⟩ (by decide) rfl rfl (Nat.le_of_ble_eq_true rfl) dX11_against_72 rfl ?_
            refine w_if_ne C (qt := 81) dX11_against_75 (by decide) rfl h (fun _ h => ?_) (fun _ h => ?_)
            · refine w_aload_n C dX11_against_81 rfl 4 rfl ?_
              refine w_get C 0 41 (Nat.le_of_ble_eq_true rfl) rfl rfl inB_X11 (by decide) tw6_202 rfl dX11_against_82 rfl ?_
              refine w_iload C dX11_against_85 rfl 1 rfl ?_
              refine w_dup2 C rfl rfl dX11_against_87 rfl ?_
              refine w_iald C 26 8 0 (Nat.le_of_ble_eq_true rfl) (fun _ => rfl) rfl h dX11_against_88 rfl (fun h => ?_)
              refine w_iconst C 1 dX11_against_89 rfl (by decide) ?_
              refine w_iload C dX11_against_90 rfl 0 rfl ?_
              refine w_ishl C dX11_against_92 rfl ?_
              refine w_ior C dX11_against_93 rfl ?_
              refine w_iast C 26 8 0 (Nat.le_of_ble_eq_true rfl) (fun _ => rfl) rfl h dX11_against_94 rfl (fun h => ?_)
              refine w_nst h (fun u38 h => ?_)
              refine w_iinc (j := 2) C (v33.2.2 + 1) [(3, .int (v33.2.2 + 1)), (5, .int v33.2.1), (4, .int v10.2.1), (2, .int r8), (0, .ref (ad 0)), (1, .int a0)] dX11_against_95 rfl rfl rfl (by decide) rfl ?_
              refine w_iinc (j := 1) C (v33.2.1 + 1) [(5, .int (v33.2.1 + 1)), (3, .int (v33.2.2 + 1)), (4, .int v10.2.1), (2, .int r8), (0, .ref (ad 0)), (1, .int a0)] dX11_against_98 rfl rfl rfl (by decide) rfl ?_
              refine w_goto (q := 55) C dX11_against_101 (by decide) ?_
              exact w_sub (lv' := [(5, .int (v33.2.1 + 1)), (4, .int v10.2.1), (3, .int (v33.2.2 + 1)), (2, .int r8), (0, .ref (ad 0)), (1, .int a0)]) [0, 2, 1, 3, 4, 5] rfl (hK35 ((u38, v33.2.1 + 1, v33.2.2 + 1)) h)
            · refine w_goto (q := 98) C dX11_against_78 (by decide) ?_
              refine w_iinc (j := 0) C (v33.2.1 + 1) [(5, .int (v33.2.1 + 1)), (4, .int v10.2.1), (3, .int v33.2.2), (2, .int r8), (0, .ref (ad 0)), (1, .int a0)] dX11_against_98 rfl rfl rfl (by decide) rfl ?_
              refine w_goto (q := 55) C dX11_against_101 (by decide) ?_
              exact w_sub (lv' := [(5, .int (v33.2.1 + 1)), (4, .int v10.2.1), (3, .int v33.2.2), (2, .int r8), (0, .ref (ad 0)), (1, .int a0)]) [0, 1, 2, 3, 4, 5] rfl (hK35 ((u37, v33.2.1 + 1, v33.2.2)) h)
      · exact w_sub (lv' := [(0, .ref (ad 0))]) [0] rfl (hJ5 (()) h)
theorem cfX11_against (D : va_G) (cI cT : ClassId) (ad : Nat → Nat) {l : Launch} (had : gAp (gM D cI cT ad)) {F : Nat} {σ : St} {a0 : Int32} {r : Int32} {σ' : St} (h : fX11_against F σ a0 = some (r, σ')) : MI l yX11_against (wB yX11_against cX11_against 8 (some .int)) 7 162 (gM D cI cT ad) [.ref (ad 0), .int a0] σ r σ' := mk_MI had (by decide +kernel) (Nat.le_of_ble_eq_true rfl) (fun X hX C hr => wfX11_against C hr h)

def fX11_help (F : Nat) (σ : St) (a0 : Int32) : Option (Int32 × St) := nm (up σ 0 4 0) fun u2 => bd1 (fX11_isValley F u2 a0) fun r3 => if r3 = 0 then (bd2 (fX11_fail F u2 1) fun r16 u17 => some (r16, u17)) else bd2 (fX11_binding F u2) fun r4 u5 => nm ((1 : Int32) <<< (a0 &&& 31)) fun x6 => lp (fun (K8 : (Int32 × Int32) → Option (Int32 × St)) (v7 : Int32 × Int32) => if (6 : Int32) ≤ v7.1 then (some (v7.2 &&& (((1 : Int32) <<< (a0 &&& 31)) ^^^ ((-1))), u5)) else lp (fun (K11 : (Int32 × Int32) → Option (Int32 × St)) (v10 : Int32 × Int32) => if (u5 5 1) ≤ v10.1 then (K8 ((v7.1 + 1, v10.2))) else ckI (v10.1) 16 (ckI (v10.1) 16 (nm (((1 : Int32) <<< ((u5 7 (Int32.toNatClampNeg v10.1)) &&& 31)) ||| ((1 : Int32) <<< ((u5 8 (Int32.toNatClampNeg v10.1)) &&& 31))) fun x13 => bd1 (fX11_isOf F u5 r4 v10.1) fun r14 => if r14 = 0 then (K11 ((v10.1 + 1, v10.2))) else ckI (v10.1) 16 (if (u5 9 (Int32.toNatClampNeg v10.1)) = (3 : Int32) then (if (x13 &&& v10.2) = 0 then (K11 ((v10.1 + 1, v10.2))) else nm (v10.2 ||| x13) fun x15 => K11 ((v10.1 + 1, x15))) else K11 ((v10.1 + 1, v10.2)))))) F ((0, v7.2))) F ((0, x6))
set_option maxRecDepth 20000 in
theorem wfX11_help {X : XT} {D : va_G} {cI cT : ClassId} {ad : Nat → Nat} {F : Nat} {σ : St} {a0 : Int32} {r : Int32} {σ' : St} (C : Cx X (gM D cI cT ad) cX11_help 7 RX11 7 162 0) (hr : RetI X (gM D cI cT ad) cX11_help 7 0 r σ') (h : fX11_help F σ a0 = some (r, σ')) : WP X (gM D cI cT ad) 7 0 0 σ [(0, .ref (ad 0)), (1, .int a0)] [] := by
  unfold fX11_help at h
  refine w_aload_n C dX11_help_0 rfl 0 rfl ?_
  refine w_iconst C 0 dX11_help_1 rfl (by decide) ?_
  refine w_put C 0 4 0 (Nat.le_of_ble_eq_true rfl) rfl rfl inB_X11 tyX11_ok nmX11 (by decide) tw6_165 rfl rfl rfl (Nat.le_of_ble_eq_true rfl) rfl dX11_help_2 rfl ?_
  refine w_nst h (fun u2 h => ?_)
  refine w_aload_n C dX11_help_5 rfl 0 rfl ?_
  refine w_iload_n C dX11_help_6 rfl 1 rfl ?_
  refine bd1_w h (fun r3 hc h => ?_)
  refine w_callVi C (n := 1) (As := [.int a0]) (st := []) 0 (Nat.le_of_ble_eq_true rfl) rfl rfl (cfX11_isValley D cI cT ad (l := X.2.1) C.2.2.1 hc) tw8_95 cy_X11_isValley (by decide +kernel) ⟨Nat.le_of_ble_eq_true rfl, Nat.le_of_ble_eq_true rfl⟩ (by decide) rfl rfl (Nat.le_of_ble_eq_true rfl) dX11_help_7 rfl ?_
  refine w_if_ne C (qt := 19) dX11_help_10 (by decide) rfl h (fun _ h => ?_) (fun _ h => ?_)
  · refine w_aload_n C dX11_help_19 rfl 0 rfl ?_
    refine bd2_w h (fun r4 u5 hc h => ?_)
    refine w_callVi C (n := 0) (As := []) (st := []) 0 (Nat.le_of_ble_eq_true rfl) rfl rfl (cfX11_binding D cI cT ad (l := X.2.1) C.2.2.1 hc) tw8_1 cy_X11_binding (by decide +kernel) ⟨Nat.le_of_ble_eq_true rfl, Nat.le_of_ble_eq_true rfl⟩ (by decide) rfl rfl (Nat.le_of_ble_eq_true rfl) dX11_help_20 rfl ?_
    refine w_istore_n C [(2, .int r4), (0, .ref (ad 0)), (1, .int a0)] dX11_help_23 rfl (by decide) rfl ?_
    refine w_iconst C 1 dX11_help_24 rfl (by decide) ?_
    refine w_iload_n C dX11_help_25 rfl 2 rfl ?_
    refine w_ishl C dX11_help_26 rfl ?_
    refine w_nm h (fun x6 h => ?_)
    refine w_istore_n C [(3, .int x6), (2, .int r4), (0, .ref (ad 0)), (1, .int a0)] dX11_help_27 rfl (by decide) rfl ?_
    refine w_iconst C 0 dX11_help_28 rfl (by decide) ?_
    refine w_istore C [(4, .int 0), (3, .int x6), (2, .int r4), (0, .ref (ad 0)), (1, .int a0)] dX11_help_29 rfl (by decide) rfl ?_
    refine w_sub (lv' := [(4, .int 0), (3, .int x6), (2, .int r4), (0, .ref (ad 0)), (1, .int a0)]) [0, 1, 2, 3, 4] rfl ?_
    refine lp_w (fun v7 : Int32 × Int32 => WP X (gM D cI cT ad) 7 0 31 u5 [(4, .int v7.1), (3, .int v7.2), (2, .int r4), (0, .ref (ad 0)), (1, .int a0)] []) (fun K8 hK9 v7 h => ?_) F _ h
    refine w_iload C dX11_help_31 rfl 0 rfl ?_
    refine w_bipush C 6 dX11_help_33 rfl (by decide) ?_
    refine w_icmp_ge C (qt := 117) dX11_help_35 (by decide) rfl h (fun _ h => ?_) (fun _ h => ?_)
    · refine w_iload_n C dX11_help_117 rfl 1 rfl ?_
      refine w_iconst C 1 dX11_help_118 rfl (by decide) ?_
      refine w_iload_n C dX11_help_119 rfl 4 rfl ?_
      refine w_ishl C dX11_help_120 rfl ?_
      refine w_iconst C (-1) dX11_help_121 rfl (by decide) ?_
      refine w_ixor C dX11_help_122 rfl ?_
      refine w_iand C dX11_help_123 rfl ?_
      exact w_ri2 hr h (by decide) dX11_help_124
    · refine w_iconst C 0 dX11_help_38 rfl (by decide) ?_
      refine w_istore C [(5, .int 0), (4, .int v7.1), (3, .int v7.2), (2, .int r4), (0, .ref (ad 0)), (1, .int a0)] dX11_help_39 rfl (by decide) rfl ?_
      refine w_sub (lv' := [(5, .int 0), (4, .int v7.1), (3, .int v7.2), (2, .int r4), (0, .ref (ad 0)), (1, .int a0)]) [0, 1, 2, 3, 4, 5] rfl ?_
      refine lp_w (fun v10 : Int32 × Int32 => WP X (gM D cI cT ad) 7 0 41 u5 [(5, .int v10.1), (4, .int v7.1), (3, .int v10.2), (2, .int r4), (0, .ref (ad 0)), (1, .int a0)] []) (fun K11 hK12 v10 h => ?_) F _ h
      refine w_iload C dX11_help_41 rfl 0 rfl ?_
      refine w_aload_n C dX11_help_43 rfl 4 rfl ?_
      refine w_get C 0 5 (Nat.le_of_ble_eq_true rfl) rfl rfl inB_X11 (by decide) tw6_166 rfl dX11_help_44 rfl ?_
      refine w_iconst C 1 dX11_help_47 rfl (by decide) ?_
      refine w_ialdc C 5 8 0 1 (Nat.le_of_ble_eq_true rfl) (fun _ => rfl) rfl (by decide) (by show ¬ (_ ∨ _); decide) dX11_help_48 rfl ?_
      refine w_icmp_ge C (qt := 111) dX11_help_49 (by decide) rfl h (fun _ h => ?_) (fun _ h => ?_)
      · refine w_iinc (j := 1) C (v7.1 + 1) [(4, .int (v7.1 + 1)), (5, .int v10.1), (3, .int v10.2), (2, .int r4), (0, .ref (ad 0)), (1, .int a0)] dX11_help_111 rfl rfl rfl (by decide) rfl ?_
        refine w_goto (q := 31) C dX11_help_114 (by decide) ?_
        exact w_sub (lv' := [(4, .int (v7.1 + 1)), (3, .int v10.2), (2, .int r4), (0, .ref (ad 0)), (1, .int a0)]) [0, 2, 3, 4, 5] rfl (hK9 ((v7.1 + 1, v10.2)) h)
      · refine w_iconst C 1 dX11_help_52 rfl (by decide) ?_
        refine w_aload_n C dX11_help_53 rfl 4 rfl ?_
        refine w_get C 0 7 (Nat.le_of_ble_eq_true rfl) rfl rfl inB_X11 (by decide) tw6_168 rfl dX11_help_54 rfl ?_
        refine w_iload C dX11_help_57 rfl 0 rfl ?_
        refine w_iald C 7 16 0 (Nat.le_of_ble_eq_true rfl) (fun _ => rfl) rfl h dX11_help_59 rfl (fun h => ?_)
        refine w_ishl C dX11_help_60 rfl ?_
        refine w_iconst C 1 dX11_help_61 rfl (by decide) ?_
        refine w_aload_n C dX11_help_62 rfl 4 rfl ?_
        refine w_get C 0 8 (Nat.le_of_ble_eq_true rfl) rfl rfl inB_X11 (by decide) tw6_169 rfl dX11_help_63 rfl ?_
        refine w_iload C dX11_help_66 rfl 0 rfl ?_
        refine w_iald C 8 16 0 (Nat.le_of_ble_eq_true rfl) (fun _ => rfl) rfl h dX11_help_68 rfl (fun h => ?_)
        refine w_ishl C dX11_help_69 rfl ?_
        refine w_ior C dX11_help_70 rfl ?_
        refine w_nm h (fun x13 h => ?_)
        refine w_istore C [(6, .int x13), (5, .int v10.1), (4, .int v7.1), (3, .int v10.2), (2, .int r4), (0, .ref (ad 0)), (1, .int a0)] dX11_help_71 rfl (by decide) rfl ?_
        refine w_iload_n C dX11_help_73 rfl 4 rfl ?_
        refine w_iload C dX11_help_74 rfl 1 rfl ?_
        refine bd1_w h (fun r14 hc h => ?_)
        refine w_callSi C (n := 2) (As := [.int r4, .int v10.1]) (st := []) (cfX11_isOf D cI cT ad (l := X.2.1) C.2.2.1 hc) tw8_9 cs_X11_isOf (by decide +kernel) ⟨Nat.le_of_ble_eq_true rfl, Nat.le_of_ble_eq_true rfl⟩ (by decide) rfl rfl (Nat.le_of_ble_eq_true rfl) dX11_help_76 rfl ?_
        refine w_if_eq C (qt := 105) dX11_help_79 (by decide) rfl h (fun _ h => ?_) (fun _ h => ?_)
        · refine w_iinc (j := 1) C (v10.1 + 1) [(5, .int (v10.1 + 1)), (6, .int x13), (4, .int v7.1), (3, .int v10.2), (2, .int r4), (0, .ref (ad 0)), (1, .int a0)] dX11_help_105 rfl rfl rfl (by decide) rfl ?_
          refine w_goto (q := 41) C dX11_help_108 (by decide) ?_
          exact w_sub (lv' := [(5, .int (v10.1 + 1)), (4, .int v7.1), (3, .int v10.2), (2, .int r4), (0, .ref (ad 0)), (1, .int a0)]) [0, 2, 3, 4, 5, 6] rfl (hK12 ((v10.1 + 1, v10.2)) h)
        · refine w_aload_n C dX11_help_82 rfl 5 rfl ?_
          refine w_get C 0 9 (Nat.le_of_ble_eq_true rfl) rfl rfl inB_X11 (by decide) tw6_170 rfl dX11_help_83 rfl ?_
          refine w_iload C dX11_help_86 rfl 1 rfl ?_
          refine w_iald C 9 16 0 (Nat.le_of_ble_eq_true rfl) (fun _ => rfl) rfl h dX11_help_88 rfl (fun h => ?_)
          refine w_iconst C 3 dX11_help_89 rfl (by decide) ?_
          refine w_icmp_ne C (qt := 105) dX11_help_90 (by decide) rfl h (fun _ h => ?_) (fun _ h => ?_)
          · refine w_iinc (j := 1) C (v10.1 + 1) [(5, .int (v10.1 + 1)), (6, .int x13), (4, .int v7.1), (3, .int v10.2), (2, .int r4), (0, .ref (ad 0)), (1, .int a0)] dX11_help_105 rfl rfl rfl (by decide) rfl ?_
            refine w_goto (q := 41) C dX11_help_108 (by decide) ?_
            exact w_sub (lv' := [(5, .int (v10.1 + 1)), (4, .int v7.1), (3, .int v10.2), (2, .int r4), (0, .ref (ad 0)), (1, .int a0)]) [0, 2, 3, 4, 5, 6] rfl (hK12 ((v10.1 + 1, v10.2)) h)
          · refine w_iload C dX11_help_93 rfl 0 rfl ?_
            refine w_iload_n C dX11_help_95 rfl 3 rfl ?_
            refine w_iand C dX11_help_96 rfl ?_
            refine w_if_eq C (qt := 105) dX11_help_97 (by decide) rfl h (fun _ h => ?_) (fun _ h => ?_)
            · refine w_iinc (j := 1) C (v10.1 + 1) [(5, .int (v10.1 + 1)), (6, .int x13), (4, .int v7.1), (3, .int v10.2), (2, .int r4), (0, .ref (ad 0)), (1, .int a0)] dX11_help_105 rfl rfl rfl (by decide) rfl ?_
              refine w_goto (q := 41) C dX11_help_108 (by decide) ?_
              exact w_sub (lv' := [(5, .int (v10.1 + 1)), (4, .int v7.1), (3, .int v10.2), (2, .int r4), (0, .ref (ad 0)), (1, .int a0)]) [0, 2, 3, 4, 5, 6] rfl (hK12 ((v10.1 + 1, v10.2)) h)
            · refine w_iload_n C dX11_help_100 rfl 3 rfl ?_
              refine w_iload C dX11_help_101 rfl 0 rfl ?_
              refine w_ior C dX11_help_103 rfl ?_
              refine w_nm h (fun x15 h => ?_)
              refine w_istore_n C [(3, .int x15), (6, .int x13), (5, .int v10.1), (4, .int v7.1), (2, .int r4), (0, .ref (ad 0)), (1, .int a0)] dX11_help_104 rfl (by decide) rfl ?_
              refine w_iinc (j := 2) C (v10.1 + 1) [(5, .int (v10.1 + 1)), (3, .int x15), (6, .int x13), (4, .int v7.1), (2, .int r4), (0, .ref (ad 0)), (1, .int a0)] dX11_help_105 rfl rfl rfl (by decide) rfl ?_
              refine w_goto (q := 41) C dX11_help_108 (by decide) ?_
              exact w_sub (lv' := [(5, .int (v10.1 + 1)), (4, .int v7.1), (3, .int x15), (2, .int r4), (0, .ref (ad 0)), (1, .int a0)]) [0, 3, 1, 4, 5, 6] rfl (hK12 ((v10.1 + 1, x15)) h)
  · refine w_aload_n C dX11_help_13 rfl 0 rfl ?_
    refine w_iconst C 1 dX11_help_14 rfl (by decide) ?_
    refine bd2_w h (fun r16 u17 hc h => ?_)
    refine w_callVi C (n := 1) (As := [.int 1]) (st := []) 0 (Nat.le_of_ble_eq_true rfl) rfl rfl (cfX11_fail D cI cT ad (l := X.2.1) C.2.2.1 hc) tw7_117 cy_X11_fail (by decide +kernel) ⟨Nat.le_of_ble_eq_true rfl, Nat.le_of_ble_eq_true rfl⟩ (by decide) rfl rfl (Nat.le_of_ble_eq_true rfl) dX11_help_15 rfl ?_
    exact w_ri2 hr h (by decide) dX11_help_18
theorem cfX11_help (D : va_G) (cI cT : ClassId) (ad : Nat → Nat) {l : Launch} (had : gAp (gM D cI cT ad)) {F : Nat} {σ : St} {a0 : Int32} {r : Int32} {σ' : St} (h : fX11_help F σ a0 = some (r, σ')) : MI l yX11_help (wB yX11_help cX11_help 7 (some .int)) 7 162 (gM D cI cT ad) [.ref (ad 0), .int a0] σ r σ' := mk_MI had (by decide +kernel) (Nat.le_of_ble_eq_true rfl) (fun X hX C hr => wfX11_help C hr h)

def fX11_fits_b (rx : St → Int32 → Int32 →  Option (Int32 × St)) (F : Nat) (σ : St) (a0 : Int32) (a1 : Int32) : Option (Int32 × St) := if a0 = (σ 5 1) then (some (1, σ)) else ckI (a0) 16 (ckI (a0) 16 (nm (((1 : Int32) <<< ((σ 7 (Int32.toNatClampNeg a0)) &&& 31)) ||| ((1 : Int32) <<< ((σ 8 (Int32.toNatClampNeg a0)) &&& 31))) fun x1 => lp (fun (K3 : (St × Int32) → Option (Int32 × St)) (v2 : St × Int32) => if a1 ≤ v2.2 then (some (0, v2.1)) else ckI (v2.2) 8 (if ((v2.1 27 (Int32.toNatClampNeg v2.2)) &&& x1) = 0 then (ckI (v2.2) 8 (ckI (v2.2) 8 (nm (up v2.1 27 (Int32.toNatClampNeg v2.2) ((v2.1 27 (Int32.toNatClampNeg v2.2)) ||| x1)) fun u5 => bd2 (rx u5 (a0 + 1) a1) fun r6 u7 => ckI (v2.2) 8 (ckI (v2.2) 8 (nm (up u7 27 (Int32.toNatClampNeg v2.2) ((u7 27 (Int32.toNatClampNeg v2.2)) &&& (x1 ^^^ ((-1))))) fun u8 => if r6 = 0 then (K3 ((u8, v2.2 + 1))) else some (1, u8)))))) else K3 ((v2.1, v2.2 + 1)))) F ((σ, 0))))
set_option maxRecDepth 20000 in
theorem wfX11_fits_b {X : XT} {D : va_G} {cI cT : ClassId} {ad : Nat → Nat} {F : Nat} {σ : St} {a0 : Int32} {a1 : Int32} {r : Int32} {σ' : St} {rx : St → Int32 → Int32 →  Option (Int32 × St)} {f0 l0 : Nat} (C : Cx X (gM D cI cT ad) cX11_fits 6 RX11 (f0 + 1) (l0 + 25) 0) (hrx : ∀ (τ : St) (b0 : Int32) (b1 : Int32) (r : Int32) (τ' : St), rx τ b0 b1 = some (r, τ') → MI X.2.1 yX11_fits (wB yX11_fits cX11_fits 6 (some .boolean)) f0 l0 (gM D cI cT ad) [.ref (ad 0), .int b0, .int b1] τ r τ') (hr : RetZ X (gM D cI cT ad) cX11_fits 6 0 r σ') (h : fX11_fits_b rx F σ a0 a1 = some (r, σ')) : WP X (gM D cI cT ad) 6 0 0 σ [(0, .ref (ad 0)), (1, .int a0), (2, .int a1)] [] := by
  unfold fX11_fits_b at h
  refine w_iload_n C dX11_fits_0 rfl 1 rfl ?_
  refine w_aload_n C dX11_fits_1 rfl 0 rfl ?_
  refine w_get C 0 5 (Nat.le_of_ble_eq_true rfl) rfl rfl inB_X11 (by decide) tw6_166 rfl dX11_fits_2 rfl ?_
  refine w_iconst C 1 dX11_fits_5 rfl (by decide) ?_
  refine w_ialdc C 5 8 0 1 (Nat.le_of_ble_eq_true rfl) (fun _ => rfl) rfl (by decide) (by show ¬ (_ ∨ _); decide) dX11_fits_6 rfl ?_
  refine w_icmp_ne C (qt := 12) dX11_fits_7 (by decide) rfl h (fun _ h => ?_) (fun _ h => ?_)
  · refine w_iconst C 1 dX11_fits_12 rfl (by decide) ?_
    refine w_aload_n C dX11_fits_13 rfl 0 rfl ?_
    refine w_get C 0 7 (Nat.le_of_ble_eq_true rfl) rfl rfl inB_X11 (by decide) tw6_168 rfl dX11_fits_14 rfl ?_
    refine w_iload_n C dX11_fits_17 rfl 1 rfl ?_
    refine w_iald C 7 16 0 (Nat.le_of_ble_eq_true rfl) (fun _ => rfl) rfl h dX11_fits_18 rfl (fun h => ?_)
    refine w_ishl C dX11_fits_19 rfl ?_
    refine w_iconst C 1 dX11_fits_20 rfl (by decide) ?_
    refine w_aload_n C dX11_fits_21 rfl 0 rfl ?_
    refine w_get C 0 8 (Nat.le_of_ble_eq_true rfl) rfl rfl inB_X11 (by decide) tw6_169 rfl dX11_fits_22 rfl ?_
    refine w_iload_n C dX11_fits_25 rfl 1 rfl ?_
    refine w_iald C 8 16 0 (Nat.le_of_ble_eq_true rfl) (fun _ => rfl) rfl h dX11_fits_26 rfl (fun h => ?_)
    refine w_ishl C dX11_fits_27 rfl ?_
    refine w_ior C dX11_fits_28 rfl ?_
    refine w_nm h (fun x1 h => ?_)
    refine w_istore_n C [(3, .int x1), (0, .ref (ad 0)), (1, .int a0), (2, .int a1)] dX11_fits_29 rfl (by decide) rfl ?_
    refine w_iconst C 0 dX11_fits_30 rfl (by decide) ?_
    refine w_istore C [(4, .int 0), (3, .int x1), (0, .ref (ad 0)), (1, .int a0), (2, .int a1)] dX11_fits_31 rfl (by decide) rfl ?_
    refine w_sub (lv' := [(4, .int 0), (3, .int x1), (0, .ref (ad 0)), (1, .int a0), (2, .int a1)]) [0, 1, 2, 3, 4] rfl ?_
    refine lp_w (fun v2 : St × Int32 => WP X (gM D cI cT ad) 6 0 33 v2.1 [(4, .int v2.2), (3, .int x1), (0, .ref (ad 0)), (1, .int a0), (2, .int a1)] []) (fun K3 hK4 v2 h => ?_) F _ h
    refine w_iload C dX11_fits_33 rfl 0 rfl ?_
    refine w_iload_n C dX11_fits_35 rfl 4 rfl ?_
    refine w_icmp_ge C (qt := 101) dX11_fits_36 (by decide) rfl h (fun _ h => ?_) (fun _ h => ?_)
    · refine w_iconst C 0 dX11_fits_101 rfl (by decide) ?_
      exact w_rz2 hr (by decide) h (by decide) dX11_fits_102
    · refine w_aload_n C dX11_fits_39 rfl 2 rfl ?_
      refine w_get C 0 42 (Nat.le_of_ble_eq_true rfl) rfl rfl inB_X11 (by decide) tw6_203 rfl dX11_fits_40 rfl ?_
      refine w_iload C dX11_fits_43 rfl 0 rfl ?_
      refine w_iald C 27 8 0 (Nat.le_of_ble_eq_true rfl) (fun _ => rfl) rfl h dX11_fits_45 rfl (fun h => ?_)
      refine w_iload_n C dX11_fits_46 rfl 1 rfl ?_
      refine w_iand C dX11_fits_47 rfl ?_
      refine w_if_eq C (qt := 54) dX11_fits_48 (by decide) rfl h (fun _ h => ?_) (fun _ h => ?_)
      · refine w_aload_n C dX11_fits_54 rfl 2 rfl ?_
        refine w_get C 0 42 (Nat.le_of_ble_eq_true rfl) rfl rfl inB_X11 (by decide) tw6_203 rfl dX11_fits_55 rfl ?_
        refine w_iload C dX11_fits_58 rfl 0 rfl ?_
        refine w_dup2 C rfl rfl dX11_fits_60 rfl ?_
        refine w_iald C 27 8 0 (Nat.le_of_ble_eq_true rfl) (fun _ => rfl) rfl h dX11_fits_61 rfl (fun h => ?_)
        refine w_iload_n C dX11_fits_62 rfl 1 rfl ?_
        refine w_ior C dX11_fits_63 rfl ?_
        refine w_iast C 27 8 0 (Nat.le_of_ble_eq_true rfl) (fun _ => rfl) rfl h dX11_fits_64 rfl (fun h => ?_)
        refine w_nst h (fun u5 h => ?_)
        refine w_aload_n C dX11_fits_65 rfl 2 rfl ?_
        refine w_iload_n C dX11_fits_66 rfl 3 rfl ?_
        refine w_iconst C 1 dX11_fits_67 rfl (by decide) ?_
        refine w_iadd C dX11_fits_68 rfl ?_
        refine w_iload_n C dX11_fits_69 rfl 4 rfl ?_
        refine bd2_w h (fun r6 u7 hc h => ?_)
        refine w_callVi C (n := 2) (As := [.int (a0 + 1), .int a1]) (st := []) 0 (Nat.le_of_ble_eq_true rfl) rfl rfl (hrx _ _ _ _ _ hc) tw9_13 cy_X11_fits (by decide +kernel) ⟨by omega, by omega⟩ (by decide) rfl rfl (Nat.le_of_ble_eq_true rfl) dX11_fits_70 rfl ?_
        refine w_istore C [(5, .int r6), (4, .int v2.2), (3, .int x1), (0, .ref (ad 0)), (1, .int a0), (2, .int a1)] dX11_fits_73 rfl (by decide) rfl ?_
        refine w_aload_n C dX11_fits_75 rfl 3 rfl ?_
        refine w_get C 0 42 (Nat.le_of_ble_eq_true rfl) rfl rfl inB_X11 (by decide) tw6_203 rfl dX11_fits_76 rfl ?_
        refine w_iload C dX11_fits_79 rfl 1 rfl ?_
        refine w_dup2 C rfl rfl dX11_fits_81 rfl ?_
        refine w_iald C 27 8 0 (Nat.le_of_ble_eq_true rfl) (fun _ => rfl) rfl h dX11_fits_82 rfl (fun h => ?_)
        refine w_iload_n C dX11_fits_83 rfl 2 rfl ?_
        refine w_iconst C (-1) dX11_fits_84 rfl (by decide) ?_
        refine w_ixor C dX11_fits_85 rfl ?_
        refine w_iand C dX11_fits_86 rfl ?_
        refine w_iast C 27 8 0 (Nat.le_of_ble_eq_true rfl) (fun _ => rfl) rfl h dX11_fits_87 rfl (fun h => ?_)
        refine w_nst h (fun u8 h => ?_)
        refine w_iload C dX11_fits_88 rfl 0 rfl ?_
        refine w_if_eq C (qt := 95) dX11_fits_90 (by decide) rfl h (fun _ h => ?_) (fun _ h => ?_)
        · refine w_iinc (j := 1) C (v2.2 + 1) [(4, .int (v2.2 + 1)), (5, .int r6), (3, .int x1), (0, .ref (ad 0)), (1, .int a0), (2, .int a1)] dX11_fits_95 rfl rfl rfl (by decide) rfl ?_
          refine w_goto (q := 33) C dX11_fits_98 (by decide) ?_
          exact w_sub (lv' := [(4, .int (v2.2 + 1)), (3, .int x1), (0, .ref (ad 0)), (1, .int a0), (2, .int a1)]) [0, 2, 3, 4, 5] rfl (hK4 ((u8, v2.2 + 1)) h)
        · refine w_iconst C 1 dX11_fits_93 rfl (by decide) ?_
          exact w_rz2 hr (by decide) h (by decide) dX11_fits_94
      · refine w_goto (q := 95) C dX11_fits_51 (by decide) ?_
        refine w_iinc (j := 0) C (v2.2 + 1) [(4, .int (v2.2 + 1)), (3, .int x1), (0, .ref (ad 0)), (1, .int a0), (2, .int a1)] dX11_fits_95 rfl rfl rfl (by decide) rfl ?_
        refine w_goto (q := 33) C dX11_fits_98 (by decide) ?_
        exact w_sub (lv' := [(4, .int (v2.2 + 1)), (3, .int x1), (0, .ref (ad 0)), (1, .int a0), (2, .int a1)]) [0, 1, 2, 3, 4] rfl (hK4 ((v2.1, v2.2 + 1)) h)
  · refine w_iconst C 1 dX11_fits_10 rfl (by decide) ?_
    exact w_rz2 hr (by decide) h (by decide) dX11_fits_11
theorem cfX11_fits_b (D : va_G) (cI cT : ClassId) (ad : Nat → Nat) {l : Launch} (had : gAp (gM D cI cT ad)) {rx : St → Int32 → Int32 →  Option (Int32 × St)} {f0 l0 : Nat} (hrx : ∀ (τ : St) (b0 : Int32) (b1 : Int32) (r : Int32) (τ' : St), rx τ b0 b1 = some (r, τ') → MI l yX11_fits (wB yX11_fits cX11_fits 6 (some .boolean)) f0 l0 (gM D cI cT ad) [.ref (ad 0), .int b0, .int b1] τ r τ') {F : Nat} {σ : St} {a0 : Int32} {a1 : Int32} {r : Int32} {σ' : St} (h : fX11_fits_b rx F σ a0 a1 = some (r, σ')) : MI l yX11_fits (wB yX11_fits cX11_fits 6 (some .boolean)) (f0 + 1) (l0 + 25) (gM D cI cT ad) [.ref (ad 0), .int a0, .int a1] σ r σ' := mk_MZ had (by decide +kernel) (Nat.le_of_ble_eq_true rfl) (fun X hX C hr => wfX11_fits_b C (by rw [hX]; exact hrx) hr h)
def fX11_fits (F : Nat) : Nat → St → Int32 → Int32 →  Option (Int32 × St)
  | 0, _, _, _ => none
  | d + 1, σ, a0, a1 => fX11_fits_b (fX11_fits F d) F σ a0 a1
theorem cfX11_fits (D : va_G) (cI cT : ClassId) (ad : Nat → Nat) {l : Launch} (had : gAp (gM D cI cT ad)) {F : Nat} : ∀ (d : Nat) {σ : St} {a0 : Int32} {a1 : Int32} {r : Int32} {σ' : St} (h : fX11_fits F d σ a0 a1 = some (r, σ')), MI l yX11_fits (wB yX11_fits cX11_fits 6 (some .boolean)) (1 * d) (25 * d) (gM D cI cT ad) [.ref (ad 0), .int a0, .int a1] σ r σ'
  | 0, _, _, _, _, _, h => nomatch h
  | d + 1, _, _, _, _, _, h => cfX11_fits_b D cI cT ad had (f0 := 1 * d) (l0 := 25 * d) (rx := fX11_fits F d) (fun _ _ _ _ _ hh => cfX11_fits D cI cT ad had d hh) h

def fX11_areAtOnce (F : Nat) (σ : St) (a0 : Int32) : Option Int32 := lp (fun (K2 : (Int32 × Int32) → Option Int32) (v1 : Int32 × Int32) => if (σ 5 1) ≤ v1.1 then (some 1) else bd1 (fX11_isOf F σ a0 v1.1) fun r4 => if r4 = 0 then (K2 ((v1.1 + 1, v1.2))) else ckI (v1.1) 16 (ckI (v1.1) 16 (nm (((1 : Int32) <<< ((σ 7 (Int32.toNatClampNeg v1.1)) &&& 31)) ||| ((1 : Int32) <<< ((σ 8 (Int32.toNatClampNeg v1.1)) &&& 31))) fun x5 => if (v1.2 &&& x5) = 0 then (nm (v1.2 ||| x5) fun x6 => K2 ((v1.1 + 1, x6))) else some 0))) F ((0, 0))
set_option maxRecDepth 20000 in
theorem wfX11_areAtOnce {X : XT} {D : va_G} {cI cT : ClassId} {ad : Nat → Nat} {F : Nat} {σ : St} {a0 : Int32} {r : Int32} (C : Cx X (gM D cI cT ad) cX11_areAtOnce 5 RX11 1 21 0) (hr : RetZ X (gM D cI cT ad) cX11_areAtOnce 5 0 r σ) (h : fX11_areAtOnce F σ a0 = some r) : WP X (gM D cI cT ad) 5 0 0 σ [(0, .ref (ad 0)), (1, .int a0)] [] := by
  unfold fX11_areAtOnce at h
  refine w_iconst C 0 dX11_areAtOnce_0 rfl (by decide) ?_
  refine w_istore_n C [(2, .int 0), (0, .ref (ad 0)), (1, .int a0)] dX11_areAtOnce_1 rfl (by decide) rfl ?_
  refine w_iconst C 0 dX11_areAtOnce_2 rfl (by decide) ?_
  refine w_istore_n C [(3, .int 0), (2, .int 0), (0, .ref (ad 0)), (1, .int a0)] dX11_areAtOnce_3 rfl (by decide) rfl ?_
  refine w_sub (lv' := [(3, .int 0), (2, .int 0), (0, .ref (ad 0)), (1, .int a0)]) [0, 1, 2, 3] rfl ?_
  refine lp_w (fun v1 : Int32 × Int32 => WP X (gM D cI cT ad) 5 0 4 σ [(3, .int v1.1), (2, .int v1.2), (0, .ref (ad 0)), (1, .int a0)] []) (fun K2 hK3 v1 h => ?_) F _ h
  refine w_iload_n C dX11_areAtOnce_4 rfl 0 rfl ?_
  refine w_aload_n C dX11_areAtOnce_5 rfl 2 rfl ?_
  refine w_get C 0 5 (Nat.le_of_ble_eq_true rfl) rfl rfl inB_X11 (by decide) tw6_166 rfl dX11_areAtOnce_6 rfl ?_
  refine w_iconst C 1 dX11_areAtOnce_9 rfl (by decide) ?_
  refine w_ialdc C 5 8 0 1 (Nat.le_of_ble_eq_true rfl) (fun _ => rfl) rfl (by decide) (by show ¬ (_ ∨ _); decide) dX11_areAtOnce_10 rfl ?_
  refine w_icmp_ge C (qt := 64) dX11_areAtOnce_11 (by decide) rfl h (fun _ h => ?_) (fun _ h => ?_)
  · refine w_iconst C 1 dX11_areAtOnce_64 rfl (by decide) ?_
    exact w_rz1 hr (by decide) h (by decide) dX11_areAtOnce_65
  · refine w_iload_n C dX11_areAtOnce_14 rfl 3 rfl ?_
    refine w_iload_n C dX11_areAtOnce_15 rfl 0 rfl ?_
    refine bd1_w h (fun r4 hc h => ?_)
    refine w_callSi C (n := 2) (As := [.int a0, .int v1.1]) (st := []) (cfX11_isOf D cI cT ad (l := X.2.1) C.2.2.1 hc) tw8_9 cs_X11_isOf (by decide +kernel) ⟨Nat.le_of_ble_eq_true rfl, Nat.le_of_ble_eq_true rfl⟩ (by decide) rfl rfl (Nat.le_of_ble_eq_true rfl) dX11_areAtOnce_16 rfl ?_
    refine w_if_ne C (qt := 25) dX11_areAtOnce_19 (by decide) rfl h (fun _ h => ?_) (fun _ h => ?_)
    · refine w_iconst C 1 dX11_areAtOnce_25 rfl (by decide) ?_
      refine w_aload_n C dX11_areAtOnce_26 rfl 2 rfl ?_
      refine w_get C 0 7 (Nat.le_of_ble_eq_true rfl) rfl rfl inB_X11 (by decide) tw6_168 rfl dX11_areAtOnce_27 rfl ?_
      refine w_iload_n C dX11_areAtOnce_30 rfl 0 rfl ?_
      refine w_iald C 7 16 0 (Nat.le_of_ble_eq_true rfl) (fun _ => rfl) rfl h dX11_areAtOnce_31 rfl (fun h => ?_)
      refine w_ishl C dX11_areAtOnce_32 rfl ?_
      refine w_iconst C 1 dX11_areAtOnce_33 rfl (by decide) ?_
      refine w_aload_n C dX11_areAtOnce_34 rfl 2 rfl ?_
      refine w_get C 0 8 (Nat.le_of_ble_eq_true rfl) rfl rfl inB_X11 (by decide) tw6_169 rfl dX11_areAtOnce_35 rfl ?_
      refine w_iload_n C dX11_areAtOnce_38 rfl 0 rfl ?_
      refine w_iald C 8 16 0 (Nat.le_of_ble_eq_true rfl) (fun _ => rfl) rfl h dX11_areAtOnce_39 rfl (fun h => ?_)
      refine w_ishl C dX11_areAtOnce_40 rfl ?_
      refine w_ior C dX11_areAtOnce_41 rfl ?_
      refine w_nm h (fun x5 h => ?_)
      refine w_istore C [(4, .int x5), (3, .int v1.1), (2, .int v1.2), (0, .ref (ad 0)), (1, .int a0)] dX11_areAtOnce_42 rfl (by decide) rfl ?_
      refine w_iload_n C dX11_areAtOnce_44 rfl 2 rfl ?_
      refine w_iload C dX11_areAtOnce_45 rfl 0 rfl ?_
      refine w_iand C dX11_areAtOnce_47 rfl ?_
      refine w_if_eq C (qt := 53) dX11_areAtOnce_48 (by decide) rfl h (fun _ h => ?_) (fun _ h => ?_)
      · refine w_iload_n C dX11_areAtOnce_53 rfl 2 rfl ?_
        refine w_iload C dX11_areAtOnce_54 rfl 0 rfl ?_
        refine w_ior C dX11_areAtOnce_56 rfl ?_
        refine w_nm h (fun x6 h => ?_)
        refine w_istore_n C [(2, .int x6), (4, .int x5), (3, .int v1.1), (0, .ref (ad 0)), (1, .int a0)] dX11_areAtOnce_57 rfl (by decide) rfl ?_
        refine w_iinc (j := 2) C (v1.1 + 1) [(3, .int (v1.1 + 1)), (2, .int x6), (4, .int x5), (0, .ref (ad 0)), (1, .int a0)] dX11_areAtOnce_58 rfl rfl rfl (by decide) rfl ?_
        refine w_goto (q := 4) C dX11_areAtOnce_61 (by decide) ?_
        exact w_sub (lv' := [(3, .int (v1.1 + 1)), (2, .int x6), (0, .ref (ad 0)), (1, .int a0)]) [0, 1, 3, 4] rfl (hK3 ((v1.1 + 1, x6)) h)
      · refine w_iconst C 0 dX11_areAtOnce_51 rfl (by decide) ?_
        exact w_rz1 hr (by decide) h (by decide) dX11_areAtOnce_52
    · refine w_goto (q := 58) C dX11_areAtOnce_22 (by decide) ?_
      refine w_iinc (j := 0) C (v1.1 + 1) [(3, .int (v1.1 + 1)), (2, .int v1.2), (0, .ref (ad 0)), (1, .int a0)] dX11_areAtOnce_58 rfl rfl rfl (by decide) rfl ?_
      refine w_goto (q := 4) C dX11_areAtOnce_61 (by decide) ?_
      exact w_sub (lv' := [(3, .int (v1.1 + 1)), (2, .int v1.2), (0, .ref (ad 0)), (1, .int a0)]) [0, 1, 2, 3] rfl (hK3 ((v1.1 + 1, v1.2)) h)
theorem cfX11_areAtOnce (D : va_G) (cI cT : ClassId) (ad : Nat → Nat) {l : Launch} (had : gAp (gM D cI cT ad)) {F : Nat} {σ : St} {a0 : Int32} {r : Int32} (h : fX11_areAtOnce F σ a0 = some r) : MI l yX11_areAtOnce (wB yX11_areAtOnce cX11_areAtOnce 5 (some .boolean)) 1 21 (gM D cI cT ad) [.ref (ad 0), .int a0] σ r σ := mk_MZ had (by decide +kernel) (Nat.le_of_ble_eq_true rfl) (fun X hX C hr => wfX11_areAtOnce C hr h)

def fX11_evenings (F : Nat) (σ : St) (a0 : Int32) : Option (Int32 × St) := nm (up σ 0 4 0) fun u2 => bd1 (fX11_isIn F u2 (Int32.toInt64 a0) 0 2) fun r3 => if r3 = 0 then (bd2 (fX11_fail F u2 1) fun r16 u17 => some (r16, u17)) else if a0 = 0 then (lp (fun (K12 : (St × Int32) → Option (Int32 × St)) (v11 : St × Int32) => bd2 (fX11_fits F 12 v11.1 0 v11.2) fun r14 u15 => if r14 = 0 then (K12 ((u15, v11.2 + 1))) else some (v11.2, u15)) F ((u2, 0))) else lp (fun (K5 : (Int32 × Int32) → Option (Int32 × St)) (v4 : Int32 × Int32) => if ((1 : Int32) <<< ((u2 5 1) &&& 31)) ≤ v4.1 then (if a0 = (1 : Int32) then (bd1 (fX11_bitsOf F u2 v4.2) fun r7 => some (r7, u2)) else some (v4.2, u2)) else bd1 (fX11_bitsOf F u2 v4.1) fun r8 => bd1 (fX11_bitsOf F u2 v4.2) fun r9 => if r8 ≤ r9 then (K5 ((v4.1 + 1, v4.2))) else bd1 (fX11_areAtOnce F u2 v4.1) fun r10 => if r10 = 0 then (K5 ((v4.1 + 1, v4.2))) else K5 ((v4.1 + 1, v4.1))) F ((0, 0))
set_option maxRecDepth 20000 in
theorem wfX11_evenings {X : XT} {D : va_G} {cI cT : ClassId} {ad : Nat → Nat} {F : Nat} {σ : St} {a0 : Int32} {r : Int32} {σ' : St} (C : Cx X (gM D cI cT ad) cX11_evenings 4 RX11 13 325 0) (hr : RetI X (gM D cI cT ad) cX11_evenings 4 0 r σ') (h : fX11_evenings F σ a0 = some (r, σ')) : WP X (gM D cI cT ad) 4 0 0 σ [(0, .ref (ad 0)), (1, .int a0)] [] := by
  unfold fX11_evenings at h
  refine w_aload_n C dX11_evenings_0 rfl 0 rfl ?_
  refine w_iconst C 0 dX11_evenings_1 rfl (by decide) ?_
  refine w_put C 0 4 0 (Nat.le_of_ble_eq_true rfl) rfl rfl inB_X11 tyX11_ok nmX11 (by decide) tw6_165 rfl rfl rfl (Nat.le_of_ble_eq_true rfl) rfl dX11_evenings_2 rfl ?_
  refine w_nst h (fun u2 h => ?_)
  refine w_iload_n C dX11_evenings_5 rfl 1 rfl ?_
  refine w_i2l C dX11_evenings_6 rfl ?_
  refine w_lconst C 0 dX11_evenings_7 rfl (by decide) ?_
  refine w_ldc2 C (2) dX11_evenings_8 rfl tw8_124 ?_
  refine bd1_w h (fun r3 hc h => ?_)
  refine w_callSi C (n := 3) (As := [.long (Int32.toInt64 a0), .long 0, .long 2]) (st := []) (cfX11_isIn D cI cT ad (l := X.2.1) C.2.2.1 hc) tw8_99 cs_X11_isIn (by decide +kernel) ⟨Nat.le_of_ble_eq_true rfl, Nat.le_of_ble_eq_true rfl⟩ (by decide) rfl rfl (Nat.le_of_ble_eq_true rfl) dX11_evenings_11 rfl ?_
  refine w_if_ne C (qt := 23) dX11_evenings_14 (by decide) rfl h (fun _ h => ?_) (fun _ h => ?_)
  · refine w_iload_n C dX11_evenings_23 rfl 1 rfl ?_
    refine w_if_ne C (qt := 46) dX11_evenings_24 (by decide) rfl h (fun _ h => ?_) (fun _ h => ?_)
    · refine w_iconst C 0 dX11_evenings_46 rfl (by decide) ?_
      refine w_istore_n C [(2, .int 0), (0, .ref (ad 0)), (1, .int a0)] dX11_evenings_47 rfl (by decide) rfl ?_
      refine w_iconst C 0 dX11_evenings_48 rfl (by decide) ?_
      refine w_istore_n C [(3, .int 0), (2, .int 0), (0, .ref (ad 0)), (1, .int a0)] dX11_evenings_49 rfl (by decide) rfl ?_
      refine w_sub (lv' := [(3, .int 0), (2, .int 0), (0, .ref (ad 0)), (1, .int a0)]) [0, 1, 2, 3] rfl ?_
      refine lp_w (fun v4 : Int32 × Int32 => WP X (gM D cI cT ad) 4 0 50 u2 [(3, .int v4.1), (2, .int v4.2), (0, .ref (ad 0)), (1, .int a0)] []) (fun K5 hK6 v4 h => ?_) F _ h
      refine w_iload_n C dX11_evenings_50 rfl 0 rfl ?_
      refine w_iconst C 1 dX11_evenings_51 rfl (by decide) ?_
      refine w_aload_n C dX11_evenings_52 rfl 2 rfl ?_
      refine w_get C 0 5 (Nat.le_of_ble_eq_true rfl) rfl rfl inB_X11 (by decide) tw6_166 rfl dX11_evenings_53 rfl ?_
      refine w_iconst C 1 dX11_evenings_56 rfl (by decide) ?_
      refine w_ialdc C 5 8 0 1 (Nat.le_of_ble_eq_true rfl) (fun _ => rfl) rfl (by decide) (by show ¬ (_ ∨ _); decide) dX11_evenings_57 rfl ?_
      refine w_ishl C dX11_evenings_58 rfl ?_
      refine w_icmp_ge C (qt := 89) dX11_evenings_59 (by decide) rfl h (fun _ h => ?_) (fun _ h => ?_)
      · refine w_iload_n C dX11_evenings_89 rfl 3 rfl ?_
        refine w_iconst C 1 dX11_evenings_90 rfl (by decide) ?_
        refine w_icmp_ne C (qt := 101) dX11_evenings_91 (by decide) rfl h (fun _ h => ?_) (fun _ h => ?_)
        · refine w_iload_n C dX11_evenings_101 rfl 1 rfl ?_
          exact w_ri2 hr h (by decide) dX11_evenings_102
        · refine w_iload_n C dX11_evenings_94 rfl 1 rfl ?_
          refine bd1_w h (fun r7 hc h => ?_)
          refine w_callSi C (n := 1) (As := [.int v4.2]) (st := []) (cfX11_bitsOf D cI cT ad (l := X.2.1) C.2.2.1 hc) tw8_224 cs_X11_bitsOf (by decide +kernel) ⟨Nat.le_of_ble_eq_true rfl, Nat.le_of_ble_eq_true rfl⟩ (by decide) rfl rfl (Nat.le_of_ble_eq_true rfl) dX11_evenings_95 rfl ?_
          refine w_goto (q := 102) C dX11_evenings_98 (by decide) ?_
          exact w_ri2 hr h (by decide) dX11_evenings_102
      · refine w_iload_n C dX11_evenings_62 rfl 0 rfl ?_
        refine bd1_w h (fun r8 hc h => ?_)
        refine w_callSi C (n := 1) (As := [.int v4.1]) (st := []) (cfX11_bitsOf D cI cT ad (l := X.2.1) C.2.2.1 hc) tw8_224 cs_X11_bitsOf (by decide +kernel) ⟨Nat.le_of_ble_eq_true rfl, Nat.le_of_ble_eq_true rfl⟩ (by decide) rfl rfl (Nat.le_of_ble_eq_true rfl) dX11_evenings_63 rfl ?_
        refine w_iload_n C dX11_evenings_66 rfl 1 rfl ?_
        refine bd1_w h (fun r9 hc h => ?_)
        refine w_callSi C (n := 1) (As := [.int v4.2]) (st := [.int r8]) (cfX11_bitsOf D cI cT ad (l := X.2.1) C.2.2.1 hc) tw8_224 cs_X11_bitsOf (by decide +kernel) ⟨Nat.le_of_ble_eq_true rfl, Nat.le_of_ble_eq_true rfl⟩ (by decide) rfl rfl (Nat.le_of_ble_eq_true rfl) dX11_evenings_67 rfl ?_
        refine w_icmp_le C (qt := 83) dX11_evenings_70 (by decide) rfl h (fun _ h => ?_) (fun _ h => ?_)
        · refine w_iinc (j := 0) C (v4.1 + 1) [(3, .int (v4.1 + 1)), (2, .int v4.2), (0, .ref (ad 0)), (1, .int a0)] dX11_evenings_83 rfl rfl rfl (by decide) rfl ?_
          refine w_goto (q := 50) C dX11_evenings_86 (by decide) ?_
          exact w_sub (lv' := [(3, .int (v4.1 + 1)), (2, .int v4.2), (0, .ref (ad 0)), (1, .int a0)]) [0, 1, 2, 3] rfl (hK6 ((v4.1 + 1, v4.2)) h)
        · refine w_aload_n C dX11_evenings_73 rfl 2 rfl ?_
          refine w_iload_n C dX11_evenings_74 rfl 0 rfl ?_
          refine bd1_w h (fun r10 hc h => ?_)
          refine w_callVi C (n := 1) (As := [.int v4.1]) (st := []) 0 (Nat.le_of_ble_eq_true rfl) rfl rfl (cfX11_areAtOnce D cI cT ad (l := X.2.1) C.2.2.1 hc) tw9_17 cy_X11_areAtOnce (by decide +kernel) ⟨Nat.le_of_ble_eq_true rfl, Nat.le_of_ble_eq_true rfl⟩ (by decide) rfl rfl (Nat.le_of_ble_eq_true rfl) dX11_evenings_75 rfl ?_
          refine w_if_eq C (qt := 83) dX11_evenings_78 (by decide) rfl h (fun _ h => ?_) (fun _ h => ?_)
          · refine w_iinc (j := 0) C (v4.1 + 1) [(3, .int (v4.1 + 1)), (2, .int v4.2), (0, .ref (ad 0)), (1, .int a0)] dX11_evenings_83 rfl rfl rfl (by decide) rfl ?_
            refine w_goto (q := 50) C dX11_evenings_86 (by decide) ?_
            exact w_sub (lv' := [(3, .int (v4.1 + 1)), (2, .int v4.2), (0, .ref (ad 0)), (1, .int a0)]) [0, 1, 2, 3] rfl (hK6 ((v4.1 + 1, v4.2)) h)
          · refine w_iload_n C dX11_evenings_81 rfl 0 rfl ?_
            refine w_istore_n C [(2, .int v4.1), (3, .int v4.1), (0, .ref (ad 0)), (1, .int a0)] dX11_evenings_82 rfl (by decide) rfl ?_
            refine w_iinc (j := 1) C (v4.1 + 1) [(3, .int (v4.1 + 1)), (2, .int v4.1), (0, .ref (ad 0)), (1, .int a0)] dX11_evenings_83 rfl rfl rfl (by decide) rfl ?_
            refine w_goto (q := 50) C dX11_evenings_86 (by decide) ?_
            exact w_sub (lv' := [(3, .int (v4.1 + 1)), (2, .int v4.1), (0, .ref (ad 0)), (1, .int a0)]) [0, 1, 2, 3] rfl (hK6 ((v4.1 + 1, v4.1)) h)
    · refine w_iconst C 0 dX11_evenings_27 rfl (by decide) ?_
      refine w_istore_n C [(2, .int 0), (0, .ref (ad 0)), (1, .int a0)] dX11_evenings_28 rfl (by decide) rfl ?_
      refine w_sub (lv' := [(2, .int 0), (0, .ref (ad 0))]) [0, 1] rfl ?_
      refine lp_w (fun v11 : St × Int32 => WP X (gM D cI cT ad) 4 0 29 v11.1 [(2, .int v11.2), (0, .ref (ad 0))] []) (fun K12 hK13 v11 h => ?_) F _ h
      refine w_aload_n C dX11_evenings_29 rfl 1 rfl ?_
      refine w_iconst C 0 dX11_evenings_30 rfl (by decide) ?_
      refine w_iload_n C dX11_evenings_31 rfl 0 rfl ?_
      refine bd2_w h (fun r14 u15 hc h => ?_)
      refine w_callVi C (n := 2) (As := [.int 0, .int v11.2]) (st := []) 0 (Nat.le_of_ble_eq_true rfl) rfl rfl (cfX11_fits D cI cT ad (l := X.2.1) C.2.2.1 12 hc) tw9_13 cy_X11_fits (by decide +kernel) ⟨Nat.le_of_ble_eq_true rfl, Nat.le_of_ble_eq_true rfl⟩ (by decide) rfl rfl (Nat.le_of_ble_eq_true rfl) dX11_evenings_32 rfl ?_
      refine w_if_ne C (qt := 44) dX11_evenings_35 (by decide) rfl h (fun _ h => ?_) (fun _ h => ?_)
      · refine w_iload_n C dX11_evenings_44 rfl 0 rfl ?_
        exact w_ri2 hr h (by decide) dX11_evenings_45
      · refine w_iinc (j := 0) C (v11.2 + 1) [(2, .int (v11.2 + 1)), (0, .ref (ad 0))] dX11_evenings_38 rfl rfl rfl (by decide) rfl ?_
        refine w_goto (q := 29) C dX11_evenings_41 (by decide) ?_
        exact w_sub (lv' := [(2, .int (v11.2 + 1)), (0, .ref (ad 0))]) [0, 1] rfl (hK13 ((u15, v11.2 + 1)) h)
  · refine w_aload_n C dX11_evenings_17 rfl 0 rfl ?_
    refine w_iconst C 1 dX11_evenings_18 rfl (by decide) ?_
    refine bd2_w h (fun r16 u17 hc h => ?_)
    refine w_callVi C (n := 1) (As := [.int 1]) (st := []) 0 (Nat.le_of_ble_eq_true rfl) rfl rfl (cfX11_fail D cI cT ad (l := X.2.1) C.2.2.1 hc) tw7_117 cy_X11_fail (by decide +kernel) ⟨Nat.le_of_ble_eq_true rfl, Nat.le_of_ble_eq_true rfl⟩ (by decide) rfl rfl (Nat.le_of_ble_eq_true rfl) dX11_evenings_19 rfl ?_
    exact w_ri2 hr h (by decide) dX11_evenings_22
theorem cfX11_evenings (D : va_G) (cI cT : ClassId) (ad : Nat → Nat) {l : Launch} (had : gAp (gM D cI cT ad)) {F : Nat} {σ : St} {a0 : Int32} {r : Int32} {σ' : St} (h : fX11_evenings F σ a0 = some (r, σ')) : MI l yX11_evenings (wB yX11_evenings cX11_evenings 4 (some .int)) 13 325 (gM D cI cT ad) [.ref (ad 0), .int a0] σ r σ' := mk_MI had (by decide +kernel) (Nat.le_of_ble_eq_true rfl) (fun X hX C hr => wfX11_evenings C hr h)

def fX11_see (F : Nat) (σ : St) (a0 : Int32) (a1 : Int32) (a2 : Int32) (a3 : Int32) (a4 : Int32) : Option (Int32 × St) := nm (up σ 0 4 0) fun u2 => bd1 (fX11_isStep F u2 a0 a1) fun r3 => if r3 = 0 then (bd2 (fX11_fail F u2 1) fun r18 u19 => some (r18, u19)) else jn (fun v4 : Unit => bd2 (fX11_refuse F u2 2) fun r7 u8 => some (r7, u8)) fun J5 => if (u2 0 34) = (8 : Int32) then (J5 (())) else if a2 < 0 then (J5 (())) else if (1 : Int32) < a2 then (J5 (())) else bd1 (fX11_isOn F u2 a3) fun r9 => if r9 = 0 then (J5 (())) else bd1 (fX11_isOn F u2 a4) fun r10 => if r10 = 0 then (J5 (())) else ckI (u2 0 34) 8 (nm (up u2 28 (Int32.toNatClampNeg (u2 0 34)) a0) fun u11 => ckI (u11 0 34) 8 (nm (up u11 29 (Int32.toNatClampNeg (u11 0 34)) a1) fun u12 => ckI (u12 0 34) 8 (nm (up u12 30 (Int32.toNatClampNeg (u12 0 34)) a2) fun u13 => ckI (u13 0 34) 8 (nm (up u13 31 (Int32.toNatClampNeg (u13 0 34)) a3) fun u14 => ckI (u14 0 34) 8 (nm (up u14 32 (Int32.toNatClampNeg (u14 0 34)) a4) fun u15 => nm (up u15 0 34 ((u15 0 34) + 1)) fun u17 => some (u17 0 34, u17))))))
set_option maxRecDepth 20000 in
theorem wfX11_see {X : XT} {D : va_G} {cI cT : ClassId} {ad : Nat → Nat} {F : Nat} {σ : St} {a0 : Int32} {a1 : Int32} {a2 : Int32} {a3 : Int32} {a4 : Int32} {r : Int32} {σ' : St} (C : Cx X (gM D cI cT ad) cX11_see 6 RX11 3 68 0) (hr : RetI X (gM D cI cT ad) cX11_see 6 0 r σ') (h : fX11_see F σ a0 a1 a2 a3 a4 = some (r, σ')) : WP X (gM D cI cT ad) 6 0 0 σ [(0, .ref (ad 0)), (1, .int a0), (2, .int a1), (3, .int a2), (4, .int a3), (5, .int a4)] [] := by
  unfold fX11_see at h
  refine w_aload_n C dX11_see_0 rfl 0 rfl ?_
  refine w_iconst C 0 dX11_see_1 rfl (by decide) ?_
  refine w_put C 0 4 0 (Nat.le_of_ble_eq_true rfl) rfl rfl inB_X11 tyX11_ok nmX11 (by decide) tw6_165 rfl rfl rfl (Nat.le_of_ble_eq_true rfl) rfl dX11_see_2 rfl ?_
  refine w_nst h (fun u2 h => ?_)
  refine w_aload_n C dX11_see_5 rfl 0 rfl ?_
  refine w_iload_n C dX11_see_6 rfl 1 rfl ?_
  refine w_iload_n C dX11_see_7 rfl 2 rfl ?_
  refine bd1_w h (fun r3 hc h => ?_)
  refine w_callVi C (n := 2) (As := [.int a0, .int a1]) (st := []) 0 (Nat.le_of_ble_eq_true rfl) rfl rfl (cfX11_isStep D cI cT ad (l := X.2.1) C.2.2.1 hc) tw8_114 cy_X11_isStep (by decide +kernel) ⟨Nat.le_of_ble_eq_true rfl, Nat.le_of_ble_eq_true rfl⟩ (by decide) rfl rfl (Nat.le_of_ble_eq_true rfl) dX11_see_8 rfl ?_
  refine w_if_ne C (qt := 20) dX11_see_11 (by decide) rfl h (fun _ h => ?_) (fun _ h => ?_)
  · refine w_aload_n C dX11_see_20 rfl 0 rfl ?_
    refine w_get C 0 34 (Nat.le_of_ble_eq_true rfl) rfl rfl inB_X11 (by decide) tw6_195 rfl dX11_see_21 rfl ?_
    refine w_bipush C 8 dX11_see_24 rfl (by decide) ?_
    refine jn_w (fun v4 : Unit => WP X (gM D cI cT ad) 6 0 56 u2 [(0, .ref (ad 0))] []) h (fun v4 h => ?_) (fun J5 hJ6 h => ?_)
    · refine w_aload_n C dX11_see_56 rfl 0 rfl ?_
      refine w_iconst C 2 dX11_see_57 rfl (by decide) ?_
      refine bd2_w h (fun r7 u8 hc h => ?_)
      refine w_callVi C (n := 1) (As := [.int 2]) (st := []) 0 (Nat.le_of_ble_eq_true rfl) rfl rfl (cfX11_refuse D cI cT ad (l := X.2.1) C.2.2.1 hc) tw8_150 cy_X11_refuse (by decide +kernel) ⟨Nat.le_of_ble_eq_true rfl, Nat.le_of_ble_eq_true rfl⟩ (by decide) rfl rfl (Nat.le_of_ble_eq_true rfl) dX11_see_58 rfl ?_
      exact w_ri2 hr h (by decide) dX11_see_61
    · refine w_icmp_eq C (qt := 56) dX11_see_26 (by decide) rfl h (fun _ h => ?_) (fun _ h => ?_)
      · exact w_sub (lv' := [(0, .ref (ad 0))]) [0] rfl (hJ6 (()) h)
      · refine w_iload_n C dX11_see_29 rfl 3 rfl ?_
        refine w_if_lt C (qt := 56) dX11_see_30 (by decide) rfl h (fun _ h => ?_) (fun _ h => ?_)
        · exact w_sub (lv' := [(0, .ref (ad 0))]) [0] rfl (hJ6 (()) h)
        · refine w_iload_n C dX11_see_33 rfl 3 rfl ?_
          refine w_iconst C 1 dX11_see_34 rfl (by decide) ?_
          refine w_icmp_gt C (qt := 56) dX11_see_35 (by decide) rfl h (fun _ h => ?_) (fun _ h => ?_)
          · exact w_sub (lv' := [(0, .ref (ad 0))]) [0] rfl (hJ6 (()) h)
          · refine w_aload_n C dX11_see_38 rfl 0 rfl ?_
            refine w_iload C dX11_see_39 rfl 4 rfl ?_
            refine bd1_w h (fun r9 hc h => ?_)
            refine w_callVi C (n := 1) (As := [.int a3]) (st := []) 0 (Nat.le_of_ble_eq_true rfl) rfl rfl (cfX11_isOn D cI cT ad (l := X.2.1) C.2.2.1 hc) tw8_32 cy_X11_isOn (by decide +kernel) ⟨Nat.le_of_ble_eq_true rfl, Nat.le_of_ble_eq_true rfl⟩ (by decide) rfl rfl (Nat.le_of_ble_eq_true rfl) dX11_see_41 rfl ?_
            refine w_if_eq C (qt := 56) dX11_see_44 (by decide) rfl h (fun _ h => ?_) (fun _ h => ?_)
            · exact w_sub (lv' := [(0, .ref (ad 0))]) [0] rfl (hJ6 (()) h)
            · refine w_aload_n C dX11_see_47 rfl 0 rfl ?_
              refine w_iload C dX11_see_48 rfl 5 rfl ?_
              refine bd1_w h (fun r10 hc h => ?_)
              refine w_callVi C (n := 1) (As := [.int a4]) (st := []) 0 (Nat.le_of_ble_eq_true rfl) rfl rfl (cfX11_isOn D cI cT ad (l := X.2.1) C.2.2.1 hc) tw8_32 cy_X11_isOn (by decide +kernel) ⟨Nat.le_of_ble_eq_true rfl, Nat.le_of_ble_eq_true rfl⟩ (by decide) rfl rfl (Nat.le_of_ble_eq_true rfl) dX11_see_50 rfl ?_
              refine w_if_ne C (qt := 62) dX11_see_53 (by decide) rfl h (fun _ h => ?_) (fun _ h => ?_)
              · refine w_aload_n C dX11_see_62 rfl 0 rfl ?_
                refine w_get C 0 43 (Nat.le_of_ble_eq_true rfl) rfl rfl inB_X11 (by decide) tw6_204 rfl dX11_see_63 rfl ?_
                refine w_aload_n C dX11_see_66 rfl 0 rfl ?_
                refine w_get C 0 34 (Nat.le_of_ble_eq_true rfl) rfl rfl inB_X11 (by decide) tw6_195 rfl dX11_see_67 rfl ?_
                refine w_iload_n C dX11_see_70 rfl 1 rfl ?_
                refine w_iast C 28 8 0 (Nat.le_of_ble_eq_true rfl) (fun _ => rfl) rfl h dX11_see_71 rfl (fun h => ?_)
                refine w_nst h (fun u11 h => ?_)
                refine w_aload_n C dX11_see_72 rfl 0 rfl ?_
                refine w_get C 0 44 (Nat.le_of_ble_eq_true rfl) rfl rfl inB_X11 (by decide) tw6_205 rfl dX11_see_73 rfl ?_
                refine w_aload_n C dX11_see_76 rfl 0 rfl ?_
                refine w_get C 0 34 (Nat.le_of_ble_eq_true rfl) rfl rfl inB_X11 (by decide) tw6_195 rfl dX11_see_77 rfl ?_
                refine w_iload_n C dX11_see_80 rfl 2 rfl ?_
                refine w_iast C 29 8 0 (Nat.le_of_ble_eq_true rfl) (fun _ => rfl) rfl h dX11_see_81 rfl (fun h => ?_)
                refine w_nst h (fun u12 h => ?_)
                refine w_aload_n C dX11_see_82 rfl 0 rfl ?_
                refine w_get C 0 45 (Nat.le_of_ble_eq_true rfl) rfl rfl inB_X11 (by decide) tw6_206 rfl dX11_see_83 rfl ?_
                refine w_aload_n C dX11_see_86 rfl 0 rfl ?_
                refine w_get C 0 34 (Nat.le_of_ble_eq_true rfl) rfl rfl inB_X11 (by decide) tw6_195 rfl dX11_see_87 rfl ?_
                refine w_iload_n C dX11_see_90 rfl 3 rfl ?_
                refine w_iast C 30 8 0 (Nat.le_of_ble_eq_true rfl) (fun _ => rfl) rfl h dX11_see_91 rfl (fun h => ?_)
                refine w_nst h (fun u13 h => ?_)
                refine w_aload_n C dX11_see_92 rfl 0 rfl ?_
                refine w_get C 0 46 (Nat.le_of_ble_eq_true rfl) rfl rfl inB_X11 (by decide) tw6_207 rfl dX11_see_93 rfl ?_
                refine w_aload_n C dX11_see_96 rfl 0 rfl ?_
                refine w_get C 0 34 (Nat.le_of_ble_eq_true rfl) rfl rfl inB_X11 (by decide) tw6_195 rfl dX11_see_97 rfl ?_
                refine w_iload C dX11_see_100 rfl 4 rfl ?_
                refine w_iast C 31 8 0 (Nat.le_of_ble_eq_true rfl) (fun _ => rfl) rfl h dX11_see_102 rfl (fun h => ?_)
                refine w_nst h (fun u14 h => ?_)
                refine w_aload_n C dX11_see_103 rfl 0 rfl ?_
                refine w_get C 0 47 (Nat.le_of_ble_eq_true rfl) rfl rfl inB_X11 (by decide) tw6_208 rfl dX11_see_104 rfl ?_
                refine w_aload_n C dX11_see_107 rfl 0 rfl ?_
                refine w_get C 0 34 (Nat.le_of_ble_eq_true rfl) rfl rfl inB_X11 (by decide) tw6_195 rfl dX11_see_108 rfl ?_
                refine w_iload C dX11_see_111 rfl 5 rfl ?_
                refine w_iast C 32 8 0 (Nat.le_of_ble_eq_true rfl) (fun _ => rfl) rfl h dX11_see_113 rfl (fun h => ?_)
                refine w_nst h (fun u15 h => ?_)
                refine w_aload_n C dX11_see_114 rfl 0 rfl ?_
                refine w_dup C rfl dX11_see_115 rfl ?_
                refine w_get C 0 34 (Nat.le_of_ble_eq_true rfl) rfl rfl inB_X11 (by decide) tw6_195 rfl dX11_see_116 rfl ?_
                refine w_iconst C 1 dX11_see_119 rfl (by decide) ?_
                refine w_iadd C dX11_see_120 rfl ?_
                refine w_put C 0 34 ((u15 0 34) + 1) (Nat.le_of_ble_eq_true rfl) rfl rfl inB_X11 tyX11_ok nmX11 (by decide) tw6_195 rfl rfl rfl (Nat.le_of_ble_eq_true rfl) rfl dX11_see_121 rfl ?_
                refine w_nst h (fun u17 h => ?_)
                refine w_aload_n C dX11_see_124 rfl 0 rfl ?_
                refine w_get C 0 34 (Nat.le_of_ble_eq_true rfl) rfl rfl inB_X11 (by decide) tw6_195 rfl dX11_see_125 rfl ?_
                exact w_ri2 hr h (by decide) dX11_see_128
              · exact w_sub (lv' := [(0, .ref (ad 0))]) [0] rfl (hJ6 (()) h)
  · refine w_aload_n C dX11_see_14 rfl 0 rfl ?_
    refine w_iconst C 1 dX11_see_15 rfl (by decide) ?_
    refine bd2_w h (fun r18 u19 hc h => ?_)
    refine w_callVi C (n := 1) (As := [.int 1]) (st := []) 0 (Nat.le_of_ble_eq_true rfl) rfl rfl (cfX11_fail D cI cT ad (l := X.2.1) C.2.2.1 hc) tw7_117 cy_X11_fail (by decide +kernel) ⟨Nat.le_of_ble_eq_true rfl, Nat.le_of_ble_eq_true rfl⟩ (by decide) rfl rfl (Nat.le_of_ble_eq_true rfl) dX11_see_16 rfl ?_
    exact w_ri2 hr h (by decide) dX11_see_19
theorem cfX11_see (D : va_G) (cI cT : ClassId) (ad : Nat → Nat) {l : Launch} (had : gAp (gM D cI cT ad)) {F : Nat} {σ : St} {a0 : Int32} {a1 : Int32} {a2 : Int32} {a3 : Int32} {a4 : Int32} {r : Int32} {σ' : St} (h : fX11_see F σ a0 a1 a2 a3 a4 = some (r, σ')) : MI l yX11_see (wB yX11_see cX11_see 6 (some .int)) 3 68 (gM D cI cT ad) [.ref (ad 0), .int a0, .int a1, .int a2, .int a3, .int a4] σ r σ' := mk_MI had (by decide +kernel) (Nat.le_of_ble_eq_true rfl) (fun X hX C hr => wfX11_see C hr h)

def fX11_isAsSeen (F : Nat) (σ : St) (a0 : Int32) : Option (Int32 × St) := lp (fun (K2 : (St × Int32) → Option (Int32 × St)) (v1 : St × Int32) => if (v1.1 0 34) ≤ v1.2 then (some (1, v1.1)) else ckI (v1.2) 8 (if (v1.1 28 (Int32.toNatClampNeg v1.2)) = a0 then (ckI (v1.2) 8 (nm ((v1.1 29 (Int32.toNatClampNeg v1.2)) + 1) fun x4 => bd2 (fX11_danceTo F v1.1 a0 x4) fun r5 u6 => if r5 = x4 then (ckI (v1.2) 8 (ckI (u6 30 (Int32.toNatClampNeg v1.2)) 2 (ckI (v1.2) 8 (if (u6 21 (Int32.toNatClampNeg (u6 30 (Int32.toNatClampNeg v1.2)))) = (u6 31 (Int32.toNatClampNeg v1.2)) then (ckI (v1.2) 8 (ckI (u6 30 (Int32.toNatClampNeg v1.2)) 2 (ckI (v1.2) 8 (if (u6 22 (Int32.toNatClampNeg (u6 30 (Int32.toNatClampNeg v1.2)))) = (u6 32 (Int32.toNatClampNeg v1.2)) then (K2 ((u6, v1.2 + 1))) else some (0, u6))))) else some (0, u6))))) else some (0, u6))) else K2 ((v1.1, v1.2 + 1)))) F ((σ, 0))
set_option maxRecDepth 20000 in
theorem wfX11_isAsSeen {X : XT} {D : va_G} {cI cT : ClassId} {ad : Nat → Nat} {F : Nat} {σ : St} {a0 : Int32} {r : Int32} {σ' : St} (C : Cx X (gM D cI cT ad) cX11_isAsSeen 4 RX11 4 98 0) (hr : RetZ X (gM D cI cT ad) cX11_isAsSeen 4 0 r σ') (h : fX11_isAsSeen F σ a0 = some (r, σ')) : WP X (gM D cI cT ad) 4 0 0 σ [(0, .ref (ad 0)), (1, .int a0)] [] := by
  unfold fX11_isAsSeen at h
  refine w_iconst C 0 dX11_isAsSeen_0 rfl (by decide) ?_
  refine w_istore_n C [(2, .int 0), (0, .ref (ad 0)), (1, .int a0)] dX11_isAsSeen_1 rfl (by decide) rfl ?_
  refine w_sub (lv' := [(2, .int 0), (0, .ref (ad 0)), (1, .int a0)]) [0, 1, 2] rfl ?_
  refine lp_w (fun v1 : St × Int32 => WP X (gM D cI cT ad) 4 0 2 v1.1 [(2, .int v1.2), (0, .ref (ad 0)), (1, .int a0)] []) (fun K2 hK3 v1 h => ?_) F _ h
  refine w_iload_n C dX11_isAsSeen_2 rfl 0 rfl ?_
  refine w_aload_n C dX11_isAsSeen_3 rfl 1 rfl ?_
  refine w_get C 0 34 (Nat.le_of_ble_eq_true rfl) rfl rfl inB_X11 (by decide) tw6_195 rfl dX11_isAsSeen_4 rfl ?_
  refine w_icmp_ge C (qt := 90) dX11_isAsSeen_7 (by decide) rfl h (fun _ h => ?_) (fun _ h => ?_)
  · refine w_iconst C 1 dX11_isAsSeen_90 rfl (by decide) ?_
    exact w_rz2 hr (by decide) h (by decide) dX11_isAsSeen_91
  · refine w_aload_n C dX11_isAsSeen_10 rfl 1 rfl ?_
    refine w_get C 0 43 (Nat.le_of_ble_eq_true rfl) rfl rfl inB_X11 (by decide) tw6_204 rfl dX11_isAsSeen_11 rfl ?_
    refine w_iload_n C dX11_isAsSeen_14 rfl 0 rfl ?_
    refine w_iald C 28 8 0 (Nat.le_of_ble_eq_true rfl) (fun _ => rfl) rfl h dX11_isAsSeen_15 rfl (fun h => ?_)
    refine w_iload_n C dX11_isAsSeen_16 rfl 2 rfl ?_
    refine w_icmp_eq C (qt := 23) dX11_isAsSeen_17 (by decide) rfl h (fun _ h => ?_) (fun _ h => ?_)
    · refine w_aload_n C dX11_isAsSeen_23 rfl 1 rfl ?_
      refine w_get C 0 44 (Nat.le_of_ble_eq_true rfl) rfl rfl inB_X11 (by decide) tw6_205 rfl dX11_isAsSeen_24 rfl ?_
      refine w_iload_n C dX11_isAsSeen_27 rfl 0 rfl ?_
      refine w_iald C 29 8 0 (Nat.le_of_ble_eq_true rfl) (fun _ => rfl) rfl h dX11_isAsSeen_28 rfl (fun h => ?_)
      refine w_iconst C 1 dX11_isAsSeen_29 rfl (by decide) ?_
      refine w_iadd C dX11_isAsSeen_30 rfl ?_
      refine w_nm h (fun x4 h => ?_)
      refine w_istore_n C [(3, .int x4), (2, .int v1.2), (0, .ref (ad 0)), (1, .int a0)] dX11_isAsSeen_31 rfl (by decide) rfl ?_
      refine w_aload_n C dX11_isAsSeen_32 rfl 2 rfl ?_
      refine w_iload_n C dX11_isAsSeen_33 rfl 3 rfl ?_
      refine w_iload_n C dX11_isAsSeen_34 rfl 0 rfl ?_
      refine bd2_w h (fun r5 u6 hc h => ?_)
      refine w_callVi C (n := 2) (As := [.int a0, .int x4]) (st := []) 0 (Nat.le_of_ble_eq_true rfl) rfl rfl (cfX11_danceTo D cI cT ad (l := X.2.1) C.2.2.1 hc) tw8_16 cy_X11_danceTo (by decide +kernel) ⟨Nat.le_of_ble_eq_true rfl, Nat.le_of_ble_eq_true rfl⟩ (by decide) rfl rfl (Nat.le_of_ble_eq_true rfl) dX11_isAsSeen_35 rfl ?_
      refine w_iload_n C dX11_isAsSeen_38 rfl 0 rfl ?_
      refine w_icmp_ne C (qt := 82) dX11_isAsSeen_39 (by decide) rfl h (fun _ h => ?_) (fun _ h => ?_)
      · refine w_iconst C 0 dX11_isAsSeen_82 rfl (by decide) ?_
        exact w_rz2 hr (by decide) h (by decide) dX11_isAsSeen_83
      · refine w_aload_n C dX11_isAsSeen_42 rfl 2 rfl ?_
        refine w_get C 0 35 (Nat.le_of_ble_eq_true rfl) rfl rfl inB_X11 (by decide) tw6_196 rfl dX11_isAsSeen_43 rfl ?_
        refine w_aload_n C dX11_isAsSeen_46 rfl 2 rfl ?_
        refine w_get C 0 45 (Nat.le_of_ble_eq_true rfl) rfl rfl inB_X11 (by decide) tw6_206 rfl dX11_isAsSeen_47 rfl ?_
        refine w_iload_n C dX11_isAsSeen_50 rfl 1 rfl ?_
        refine w_iald C 30 8 0 (Nat.le_of_ble_eq_true rfl) (fun _ => rfl) rfl h dX11_isAsSeen_51 rfl (fun h => ?_)
        refine w_iald C 21 2 0 (Nat.le_of_ble_eq_true rfl) (fun _ => rfl) rfl h dX11_isAsSeen_52 rfl (fun h => ?_)
        refine w_aload_n C dX11_isAsSeen_53 rfl 2 rfl ?_
        refine w_get C 0 46 (Nat.le_of_ble_eq_true rfl) rfl rfl inB_X11 (by decide) tw6_207 rfl dX11_isAsSeen_54 rfl ?_
        refine w_iload_n C dX11_isAsSeen_57 rfl 1 rfl ?_
        refine w_iald C 31 8 0 (Nat.le_of_ble_eq_true rfl) (fun _ => rfl) rfl h dX11_isAsSeen_58 rfl (fun h => ?_)
        refine w_icmp_ne C (qt := 82) dX11_isAsSeen_59 (by decide) rfl h (fun _ h => ?_) (fun _ h => ?_)
        · refine w_iconst C 0 dX11_isAsSeen_82 rfl (by decide) ?_
          exact w_rz2 hr (by decide) h (by decide) dX11_isAsSeen_83
        · refine w_aload_n C dX11_isAsSeen_62 rfl 2 rfl ?_
          refine w_get C 0 36 (Nat.le_of_ble_eq_true rfl) rfl rfl inB_X11 (by decide) tw6_197 rfl dX11_isAsSeen_63 rfl ?_
          refine w_aload_n C dX11_isAsSeen_66 rfl 2 rfl ?_
          refine w_get C 0 45 (Nat.le_of_ble_eq_true rfl) rfl rfl inB_X11 (by decide) tw6_206 rfl dX11_isAsSeen_67 rfl ?_
          refine w_iload_n C dX11_isAsSeen_70 rfl 1 rfl ?_
          refine w_iald C 30 8 0 (Nat.le_of_ble_eq_true rfl) (fun _ => rfl) rfl h dX11_isAsSeen_71 rfl (fun h => ?_)
          refine w_iald C 22 2 0 (Nat.le_of_ble_eq_true rfl) (fun _ => rfl) rfl h dX11_isAsSeen_72 rfl (fun h => ?_)
          refine w_aload_n C dX11_isAsSeen_73 rfl 2 rfl ?_
          refine w_get C 0 47 (Nat.le_of_ble_eq_true rfl) rfl rfl inB_X11 (by decide) tw6_208 rfl dX11_isAsSeen_74 rfl ?_
          refine w_iload_n C dX11_isAsSeen_77 rfl 1 rfl ?_
          refine w_iald C 32 8 0 (Nat.le_of_ble_eq_true rfl) (fun _ => rfl) rfl h dX11_isAsSeen_78 rfl (fun h => ?_)
          refine w_icmp_eq C (qt := 84) dX11_isAsSeen_79 (by decide) rfl h (fun _ h => ?_) (fun _ h => ?_)
          · refine w_iinc (j := 1) C (v1.2 + 1) [(2, .int (v1.2 + 1)), (3, .int x4), (0, .ref (ad 0)), (1, .int a0)] dX11_isAsSeen_84 rfl rfl rfl (by decide) rfl ?_
            refine w_goto (q := 2) C dX11_isAsSeen_87 (by decide) ?_
            exact w_sub (lv' := [(2, .int (v1.2 + 1)), (0, .ref (ad 0)), (1, .int a0)]) [0, 2, 3] rfl (hK3 ((u6, v1.2 + 1)) h)
          · refine w_iconst C 0 dX11_isAsSeen_82 rfl (by decide) ?_
            exact w_rz2 hr (by decide) h (by decide) dX11_isAsSeen_83
    · refine w_goto (q := 84) C dX11_isAsSeen_20 (by decide) ?_
      refine w_iinc (j := 0) C (v1.2 + 1) [(2, .int (v1.2 + 1)), (0, .ref (ad 0)), (1, .int a0)] dX11_isAsSeen_84 rfl rfl rfl (by decide) rfl ?_
      refine w_goto (q := 2) C dX11_isAsSeen_87 (by decide) ?_
      exact w_sub (lv' := [(2, .int (v1.2 + 1)), (0, .ref (ad 0)), (1, .int a0)]) [0, 1, 2] rfl (hK3 ((v1.1, v1.2 + 1)) h)
theorem cfX11_isAsSeen (D : va_G) (cI cT : ClassId) (ad : Nat → Nat) {l : Launch} (had : gAp (gM D cI cT ad)) {F : Nat} {σ : St} {a0 : Int32} {r : Int32} {σ' : St} (h : fX11_isAsSeen F σ a0 = some (r, σ')) : MI l yX11_isAsSeen (wB yX11_isAsSeen cX11_isAsSeen 4 (some .boolean)) 4 98 (gM D cI cT ad) [.ref (ad 0), .int a0] σ r σ' := mk_MZ had (by decide +kernel) (Nat.le_of_ble_eq_true rfl) (fun X hX C hr => wfX11_isAsSeen C hr h)

def fX11_limp (F : Nat) (σ : St) (a0 : Int32) (a1 : Int32) : Option (Int32 × St) := nm (up σ 0 4 0) fun u2 => bd1 (fX11_isDance F u2 a0) fun r3 => jn (fun v4 : Unit => bd2 (fX11_fail F u2 1) fun r7 u8 => some (r7, u8)) fun J5 => if r3 = 0 then (J5 (())) else bd1 (fX11_isIn F u2 (Int32.toInt64 a1) 0 2) fun r9 => if r9 = 0 then (J5 (())) else if a1 = (2 : Int32) then (bd2 (fX11_isAsSeen F u2 a0) fun r25 u26 => if r25 = 0 then (some (0, u26)) else some (1, u26)) else lp (fun (K11 : (St × Int32 × Int32 × Int32) → Option (Int32 × St)) (v10 : St × Int32 × Int32 × Int32) => ckI (a0) 16 (if (v10.1 10 (Int32.toNatClampNeg a0)) ≤ v10.2.1 then (if a1 = 0 then (some (v10.2.2.2, v10.1)) else some (v10.2.2.1, v10.1)) else nm ((10 * a0) + v10.2.1) fun x13 => ckI (x13) 160 (nm (v10.1 13 (Int32.toNatClampNeg x13)) fun x14 => lp (fun (K16 : (St × Int32 × Int32 × Int32) → Option (Int32 × St)) (v15 : St × Int32 × Int32 × Int32) => if (10 : Int32) ≤ v15.2.1 then (ckI (x13) 160 (nm (up v15.1 13 (Int32.toNatClampNeg x13) x14) fun u18 => K11 ((u18, v10.2.1 + 1, v15.2.2.1, v15.2.2.2)))) else bd1 (fX11_isLimp F v15.1 a0 v10.2.1) fun r19 => if r19 = 0 then (ckI (x13) 160 (nm (up v15.1 13 (Int32.toNatClampNeg x13) x14) fun u20 => K11 ((u20, v10.2.1 + 1, v15.2.2.1, v15.2.2.2)))) else ckI (x13) 160 (nm (up v15.1 13 (Int32.toNatClampNeg x13) v15.2.1) fun u21 => if v15.2.1 = x14 then (K16 ((u21, v15.2.1 + 1, v15.2.2.1, v15.2.2.2))) else bd2 (fX11_isAsSeen F u21 a0) fun r22 u23 => if r22 = 0 then (K16 ((u23, v15.2.1 + 1, v15.2.2.1, v15.2.2.2))) else if v15.2.2.1 = (-1 : Int32) then (nm ((10 * v10.2.1) + v15.2.1) fun x24 => K16 ((u23, v15.2.1 + 1, x24, v15.2.2.2 + 1))) else K16 ((u23, v15.2.1 + 1, v15.2.2.1, v15.2.2.2 + 1)))) F ((v10.1, 0, v10.2.2.1, v10.2.2.2))))) F ((u2, 0, (-1), 0))
set_option maxRecDepth 20000 in
theorem wfX11_limp {X : XT} {D : va_G} {cI cT : ClassId} {ad : Nat → Nat} {F : Nat} {σ : St} {a0 : Int32} {a1 : Int32} {r : Int32} {σ' : St} (C : Cx X (gM D cI cT ad) cX11_limp 9 RX11 5 121 0) (hr : RetI X (gM D cI cT ad) cX11_limp 9 0 r σ') (h : fX11_limp F σ a0 a1 = some (r, σ')) : WP X (gM D cI cT ad) 9 0 0 σ [(0, .ref (ad 0)), (1, .int a0), (2, .int a1)] [] := by
  unfold fX11_limp at h
  refine w_aload_n C dX11_limp_0 rfl 0 rfl ?_
  refine w_iconst C 0 dX11_limp_1 rfl (by decide) ?_
  refine w_put C 0 4 0 (Nat.le_of_ble_eq_true rfl) rfl rfl inB_X11 tyX11_ok nmX11 (by decide) tw6_165 rfl rfl rfl (Nat.le_of_ble_eq_true rfl) rfl dX11_limp_2 rfl ?_
  refine w_nst h (fun u2 h => ?_)
  refine w_aload_n C dX11_limp_5 rfl 0 rfl ?_
  refine w_iload_n C dX11_limp_6 rfl 1 rfl ?_
  refine bd1_w h (fun r3 hc h => ?_)
  refine w_callVi C (n := 1) (As := [.int a0]) (st := []) 0 (Nat.le_of_ble_eq_true rfl) rfl rfl (cfX11_isDance D cI cT ad (l := X.2.1) C.2.2.1 hc) tw8_106 cy_X11_isDance (by decide +kernel) ⟨Nat.le_of_ble_eq_true rfl, Nat.le_of_ble_eq_true rfl⟩ (by decide) rfl rfl (Nat.le_of_ble_eq_true rfl) dX11_limp_7 rfl ?_
  refine jn_w (fun v4 : Unit => WP X (gM D cI cT ad) 9 0 25 u2 [(0, .ref (ad 0))] []) h (fun v4 h => ?_) (fun J5 hJ6 h => ?_)
  · refine w_aload_n C dX11_limp_25 rfl 0 rfl ?_
    refine w_iconst C 1 dX11_limp_26 rfl (by decide) ?_
    refine bd2_w h (fun r7 u8 hc h => ?_)
    refine w_callVi C (n := 1) (As := [.int 1]) (st := []) 0 (Nat.le_of_ble_eq_true rfl) rfl rfl (cfX11_fail D cI cT ad (l := X.2.1) C.2.2.1 hc) tw7_117 cy_X11_fail (by decide +kernel) ⟨Nat.le_of_ble_eq_true rfl, Nat.le_of_ble_eq_true rfl⟩ (by decide) rfl rfl (Nat.le_of_ble_eq_true rfl) dX11_limp_27 rfl ?_
    exact w_ri2 hr h (by decide) dX11_limp_30
  · refine w_if_eq C (qt := 25) dX11_limp_10 (by decide) rfl h (fun _ h => ?_) (fun _ h => ?_)
    · exact w_sub (lv' := [(0, .ref (ad 0))]) [0] rfl (hJ6 (()) h)
    · refine w_iload_n C dX11_limp_13 rfl 2 rfl ?_
      refine w_i2l C dX11_limp_14 rfl ?_
      refine w_lconst C 0 dX11_limp_15 rfl (by decide) ?_
      refine w_ldc2 C (2) dX11_limp_16 rfl tw8_124 ?_
      refine bd1_w h (fun r9 hc h => ?_)
      refine w_callSi C (n := 3) (As := [.long (Int32.toInt64 a1), .long 0, .long 2]) (st := []) (cfX11_isIn D cI cT ad (l := X.2.1) C.2.2.1 hc) tw8_99 cs_X11_isIn (by decide +kernel) ⟨Nat.le_of_ble_eq_true rfl, Nat.le_of_ble_eq_true rfl⟩ (by decide) rfl rfl (Nat.le_of_ble_eq_true rfl) dX11_limp_19 rfl ?_
      refine w_if_ne C (qt := 31) dX11_limp_22 (by decide) rfl h (fun _ h => ?_) (fun _ h => ?_)
      · refine w_iload_n C dX11_limp_31 rfl 2 rfl ?_
        refine w_iconst C 2 dX11_limp_32 rfl (by decide) ?_
        refine w_icmp_ne C (qt := 50) dX11_limp_33 (by decide) rfl h (fun _ h => ?_) (fun _ h => ?_)
        · refine w_iconst C 0 dX11_limp_50 rfl (by decide) ?_
          refine w_istore_n C [(3, .int 0), (0, .ref (ad 0)), (1, .int a0), (2, .int a1)] dX11_limp_51 rfl (by decide) rfl ?_
          refine w_iconst C (-1) dX11_limp_52 rfl (by decide) ?_
          refine w_istore C [(4, .int ((-1))), (3, .int 0), (0, .ref (ad 0)), (1, .int a0), (2, .int a1)] dX11_limp_53 rfl (by decide) rfl ?_
          refine w_iconst C 0 dX11_limp_55 rfl (by decide) ?_
          refine w_istore C [(5, .int 0), (4, .int ((-1))), (3, .int 0), (0, .ref (ad 0)), (1, .int a0), (2, .int a1)] dX11_limp_56 rfl (by decide) rfl ?_
          refine w_sub (lv' := [(5, .int 0), (4, .int ((-1))), (3, .int 0), (0, .ref (ad 0)), (1, .int a0), (2, .int a1)]) [0, 1, 2, 3, 4, 5] rfl ?_
          refine lp_w (fun v10 : St × Int32 × Int32 × Int32 => WP X (gM D cI cT ad) 9 0 58 v10.1 [(5, .int v10.2.1), (4, .int v10.2.2.1), (3, .int v10.2.2.2), (0, .ref (ad 0)), (1, .int a0), (2, .int a1)] []) (fun K11 hK12 v10 h => ?_) F _ h
          refine w_iload C dX11_limp_58 rfl 0 rfl ?_
          refine w_aload_n C dX11_limp_60 rfl 3 rfl ?_
          refine w_get C 0 10 (Nat.le_of_ble_eq_true rfl) rfl rfl inB_X11 (by decide) tw6_171 rfl dX11_limp_61 rfl ?_
          refine w_iload_n C dX11_limp_64 rfl 4 rfl ?_
          refine w_iald C 10 16 0 (Nat.le_of_ble_eq_true rfl) (fun _ => rfl) rfl h dX11_limp_65 rfl (fun h => ?_)
          refine w_icmp_ge C (qt := 179) dX11_limp_66 (by decide) rfl h (fun _ h => ?_) (fun _ h => ?_)
          · refine w_iload_n C dX11_limp_179 rfl 5 rfl ?_
            refine w_if_ne C (qt := 187) dX11_limp_180 (by decide) rfl h (fun _ h => ?_) (fun _ h => ?_)
            · refine w_iload C dX11_limp_187 rfl 1 rfl ?_
              exact w_ri2 hr h (by decide) dX11_limp_189
            · refine w_iload_n C dX11_limp_183 rfl 2 rfl ?_
              refine w_goto (q := 189) C dX11_limp_184 (by decide) ?_
              exact w_ri2 hr h (by decide) dX11_limp_189
          · refine w_bipush C 10 dX11_limp_69 rfl (by decide) ?_
            refine w_iload_n C dX11_limp_71 rfl 4 rfl ?_
            refine w_imul C dX11_limp_72 rfl ?_
            refine w_iload C dX11_limp_73 rfl 0 rfl ?_
            refine w_iadd C dX11_limp_75 rfl ?_
            refine w_nm h (fun x13 h => ?_)
            refine w_istore C [(6, .int x13), (5, .int v10.2.1), (4, .int v10.2.2.1), (3, .int v10.2.2.2), (0, .ref (ad 0)), (1, .int a0), (2, .int a1)] dX11_limp_76 rfl (by decide) rfl ?_
            refine w_aload_n C dX11_limp_78 rfl 4 rfl ?_
            refine w_get C 0 13 (Nat.le_of_ble_eq_true rfl) rfl rfl inB_X11 (by decide) tw6_174 rfl dX11_limp_79 rfl ?_
            refine w_iload C dX11_limp_82 rfl 0 rfl ?_
            refine w_iald C 13 160 0 (Nat.le_of_ble_eq_true rfl) (fun _ => rfl) rfl h dX11_limp_84 rfl (fun h => ?_)
            refine w_nm h (fun x14 h => ?_)
            refine w_istore C [(7, .int x14), (6, .int x13), (5, .int v10.2.1), (4, .int v10.2.2.1), (3, .int v10.2.2.2), (0, .ref (ad 0)), (1, .int a0), (2, .int a1)] dX11_limp_85 rfl (by decide) rfl ?_
            refine w_iconst C 0 dX11_limp_87 rfl (by decide) ?_
            refine w_istore C [(8, .int 0), (7, .int x14), (6, .int x13), (5, .int v10.2.1), (4, .int v10.2.2.1), (3, .int v10.2.2.2), (0, .ref (ad 0)), (1, .int a0), (2, .int a1)] dX11_limp_88 rfl (by decide) rfl ?_
            refine w_sub (lv' := [(8, .int 0), (7, .int x14), (6, .int x13), (5, .int v10.2.1), (4, .int v10.2.2.1), (3, .int v10.2.2.2), (0, .ref (ad 0)), (1, .int a0), (2, .int a1)]) [0, 1, 2, 3, 4, 5, 6, 7, 8] rfl ?_
            refine lp_w (fun v15 : St × Int32 × Int32 × Int32 => WP X (gM D cI cT ad) 9 0 90 v15.1 [(8, .int v15.2.1), (7, .int x14), (6, .int x13), (5, .int v10.2.1), (4, .int v15.2.2.1), (3, .int v15.2.2.2), (0, .ref (ad 0)), (1, .int a0), (2, .int a1)] []) (fun K16 hK17 v15 h => ?_) F _ h
            refine w_iload C dX11_limp_90 rfl 0 rfl ?_
            refine w_bipush C 10 dX11_limp_92 rfl (by decide) ?_
            refine w_icmp_ge C (qt := 164) dX11_limp_94 (by decide) rfl h (fun _ h => ?_) (fun _ h => ?_)
            · refine w_aload_n C dX11_limp_164 rfl 6 rfl ?_
              refine w_get C 0 13 (Nat.le_of_ble_eq_true rfl) rfl rfl inB_X11 (by decide) tw6_174 rfl dX11_limp_165 rfl ?_
              refine w_iload C dX11_limp_168 rfl 2 rfl ?_
              refine w_iload C dX11_limp_170 rfl 1 rfl ?_
              refine w_iast C 13 160 0 (Nat.le_of_ble_eq_true rfl) (fun _ => rfl) rfl h dX11_limp_172 rfl (fun h => ?_)
              refine w_nst h (fun u18 h => ?_)
              refine w_iinc (j := 3) C (v10.2.1 + 1) [(5, .int (v10.2.1 + 1)), (8, .int v15.2.1), (7, .int x14), (6, .int x13), (4, .int v15.2.2.1), (3, .int v15.2.2.2), (0, .ref (ad 0)), (1, .int a0), (2, .int a1)] dX11_limp_173 rfl rfl rfl (by decide) rfl ?_
              refine w_goto (q := 58) C dX11_limp_176 (by decide) ?_
              exact w_sub (lv' := [(5, .int (v10.2.1 + 1)), (4, .int v15.2.2.1), (3, .int v15.2.2.2), (0, .ref (ad 0)), (1, .int a0), (2, .int a1)]) [0, 4, 5, 6, 7, 8] rfl (hK12 ((u18, v10.2.1 + 1, v15.2.2.1, v15.2.2.2)) h)
            · refine w_aload_n C dX11_limp_97 rfl 6 rfl ?_
              refine w_iload_n C dX11_limp_98 rfl 7 rfl ?_
              refine w_iload C dX11_limp_99 rfl 3 rfl ?_
              refine bd1_w h (fun r19 hc h => ?_)
              refine w_callVi C (n := 2) (As := [.int a0, .int v10.2.1]) (st := []) 0 (Nat.le_of_ble_eq_true rfl) rfl rfl (cfX11_isLimp D cI cT ad (l := X.2.1) C.2.2.1 hc) tw8_179 cy_X11_isLimp (by decide +kernel) ⟨Nat.le_of_ble_eq_true rfl, Nat.le_of_ble_eq_true rfl⟩ (by decide) rfl rfl (Nat.le_of_ble_eq_true rfl) dX11_limp_101 rfl ?_
              refine w_if_eq C (qt := 164) dX11_limp_104 (by decide) rfl h (fun _ h => ?_) (fun _ h => ?_)
              · refine w_aload_n C dX11_limp_164 rfl 6 rfl ?_
                refine w_get C 0 13 (Nat.le_of_ble_eq_true rfl) rfl rfl inB_X11 (by decide) tw6_174 rfl dX11_limp_165 rfl ?_
                refine w_iload C dX11_limp_168 rfl 2 rfl ?_
                refine w_iload C dX11_limp_170 rfl 1 rfl ?_
                refine w_iast C 13 160 0 (Nat.le_of_ble_eq_true rfl) (fun _ => rfl) rfl h dX11_limp_172 rfl (fun h => ?_)
                refine w_nst h (fun u20 h => ?_)
                refine w_iinc (j := 3) C (v10.2.1 + 1) [(5, .int (v10.2.1 + 1)), (8, .int v15.2.1), (7, .int x14), (6, .int x13), (4, .int v15.2.2.1), (3, .int v15.2.2.2), (0, .ref (ad 0)), (1, .int a0), (2, .int a1)] dX11_limp_173 rfl rfl rfl (by decide) rfl ?_
                refine w_goto (q := 58) C dX11_limp_176 (by decide) ?_
                exact w_sub (lv' := [(5, .int (v10.2.1 + 1)), (4, .int v15.2.2.1), (3, .int v15.2.2.2), (0, .ref (ad 0)), (1, .int a0), (2, .int a1)]) [0, 4, 5, 6, 7, 8] rfl (hK12 ((u20, v10.2.1 + 1, v15.2.2.1, v15.2.2.2)) h)
              · refine w_aload_n C dX11_limp_107 rfl 6 rfl ?_
                refine w_get C 0 13 (Nat.le_of_ble_eq_true rfl) rfl rfl inB_X11 (by decide) tw6_174 rfl dX11_limp_108 rfl ?_
                refine w_iload C dX11_limp_111 rfl 2 rfl ?_
                refine w_iload C dX11_limp_113 rfl 0 rfl ?_
                refine w_iast C 13 160 0 (Nat.le_of_ble_eq_true rfl) (fun _ => rfl) rfl h dX11_limp_115 rfl (fun h => ?_)
                refine w_nst h (fun u21 h => ?_)
                refine w_iload C dX11_limp_116 rfl 0 rfl ?_
                refine w_iload C dX11_limp_118 rfl 1 rfl ?_
                refine w_icmp_eq C (qt := 158) dX11_limp_120 (by decide) rfl h (fun _ h => ?_) (fun _ h => ?_)
                · refine w_iinc (j := 0) C (v15.2.1 + 1) [(8, .int (v15.2.1 + 1)), (7, .int x14), (6, .int x13), (5, .int v10.2.1), (4, .int v15.2.2.1), (3, .int v15.2.2.2), (0, .ref (ad 0)), (1, .int a0), (2, .int a1)] dX11_limp_158 rfl rfl rfl (by decide) rfl ?_
                  refine w_goto (q := 90) C dX11_limp_161 (by decide) ?_
                  exact w_sub (lv' := [(8, .int (v15.2.1 + 1)), (7, .int x14), (6, .int x13), (5, .int v10.2.1), (4, .int v15.2.2.1), (3, .int v15.2.2.2), (0, .ref (ad 0)), (1, .int a0), (2, .int a1)]) [0, 1, 2, 3, 4, 5, 6, 7, 8] rfl (hK17 ((u21, v15.2.1 + 1, v15.2.2.1, v15.2.2.2)) h)
                · refine w_aload_n C dX11_limp_123 rfl 6 rfl ?_
                  refine w_iload_n C dX11_limp_124 rfl 7 rfl ?_
                  refine bd2_w h (fun r22 u23 hc h => ?_)
                  refine w_callVi C (n := 1) (As := [.int a0]) (st := []) 0 (Nat.le_of_ble_eq_true rfl) rfl rfl (cfX11_isAsSeen D cI cT ad (l := X.2.1) C.2.2.1 hc) tw9_29 cy_X11_isAsSeen (by decide +kernel) ⟨Nat.le_of_ble_eq_true rfl, Nat.le_of_ble_eq_true rfl⟩ (by decide) rfl rfl (Nat.le_of_ble_eq_true rfl) dX11_limp_125 rfl ?_
                  refine w_if_ne C (qt := 134) dX11_limp_128 (by decide) rfl h (fun _ h => ?_) (fun _ h => ?_)
                  · refine w_iinc (j := 5) C (v15.2.2.2 + 1) [(3, .int (v15.2.2.2 + 1)), (8, .int v15.2.1), (7, .int x14), (6, .int x13), (5, .int v10.2.1), (4, .int v15.2.2.1), (0, .ref (ad 0)), (1, .int a0), (2, .int a1)] dX11_limp_134 rfl rfl rfl (by decide) rfl ?_
                    refine w_iload C dX11_limp_137 rfl 5 rfl ?_
                    refine w_iconst C (-1) dX11_limp_139 rfl (by decide) ?_
                    refine w_icmp_ne C (qt := 154) dX11_limp_140 (by decide) rfl h (fun _ h => ?_) (fun _ h => ?_)
                    · refine w_iload C dX11_limp_154 rfl 5 rfl ?_
                      refine w_istore C [(4, .int v15.2.2.1), (3, .int (v15.2.2.2 + 1)), (8, .int v15.2.1), (7, .int x14), (6, .int x13), (5, .int v10.2.1), (0, .ref (ad 0)), (1, .int a0), (2, .int a1)] dX11_limp_156 rfl (by decide) rfl ?_
                      refine w_iinc (j := 2) C (v15.2.1 + 1) [(8, .int (v15.2.1 + 1)), (4, .int v15.2.2.1), (3, .int (v15.2.2.2 + 1)), (7, .int x14), (6, .int x13), (5, .int v10.2.1), (0, .ref (ad 0)), (1, .int a0), (2, .int a1)] dX11_limp_158 rfl rfl rfl (by decide) rfl ?_
                      refine w_goto (q := 90) C dX11_limp_161 (by decide) ?_
                      exact w_sub (lv' := [(8, .int (v15.2.1 + 1)), (7, .int x14), (6, .int x13), (5, .int v10.2.1), (4, .int v15.2.2.1), (3, .int (v15.2.2.2 + 1)), (0, .ref (ad 0)), (1, .int a0), (2, .int a1)]) [0, 3, 4, 5, 1, 2, 6, 7, 8] rfl (hK17 ((u23, v15.2.1 + 1, v15.2.2.1, v15.2.2.2 + 1)) h)
                    · refine w_bipush C 10 dX11_limp_143 rfl (by decide) ?_
                      refine w_iload C dX11_limp_145 rfl 4 rfl ?_
                      refine w_imul C dX11_limp_147 rfl ?_
                      refine w_iload C dX11_limp_148 rfl 1 rfl ?_
                      refine w_iadd C dX11_limp_150 rfl ?_
                      refine w_goto (q := 156) C dX11_limp_151 (by decide) ?_
                      refine w_nm h (fun x24 h => ?_)
                      refine w_istore C [(4, .int x24), (3, .int (v15.2.2.2 + 1)), (8, .int v15.2.1), (7, .int x14), (6, .int x13), (5, .int v10.2.1), (0, .ref (ad 0)), (1, .int a0), (2, .int a1)] dX11_limp_156 rfl (by decide) rfl ?_
                      refine w_iinc (j := 2) C (v15.2.1 + 1) [(8, .int (v15.2.1 + 1)), (4, .int x24), (3, .int (v15.2.2.2 + 1)), (7, .int x14), (6, .int x13), (5, .int v10.2.1), (0, .ref (ad 0)), (1, .int a0), (2, .int a1)] dX11_limp_158 rfl rfl rfl (by decide) rfl ?_
                      refine w_goto (q := 90) C dX11_limp_161 (by decide) ?_
                      exact w_sub (lv' := [(8, .int (v15.2.1 + 1)), (7, .int x14), (6, .int x13), (5, .int v10.2.1), (4, .int x24), (3, .int (v15.2.2.2 + 1)), (0, .ref (ad 0)), (1, .int a0), (2, .int a1)]) [0, 3, 4, 5, 1, 2, 6, 7, 8] rfl (hK17 ((u23, v15.2.1 + 1, x24, v15.2.2.2 + 1)) h)
                  · refine w_goto (q := 158) C dX11_limp_131 (by decide) ?_
                    refine w_iinc (j := 0) C (v15.2.1 + 1) [(8, .int (v15.2.1 + 1)), (7, .int x14), (6, .int x13), (5, .int v10.2.1), (4, .int v15.2.2.1), (3, .int v15.2.2.2), (0, .ref (ad 0)), (1, .int a0), (2, .int a1)] dX11_limp_158 rfl rfl rfl (by decide) rfl ?_
                    refine w_goto (q := 90) C dX11_limp_161 (by decide) ?_
                    exact w_sub (lv' := [(8, .int (v15.2.1 + 1)), (7, .int x14), (6, .int x13), (5, .int v10.2.1), (4, .int v15.2.2.1), (3, .int v15.2.2.2), (0, .ref (ad 0)), (1, .int a0), (2, .int a1)]) [0, 1, 2, 3, 4, 5, 6, 7, 8] rfl (hK17 ((u23, v15.2.1 + 1, v15.2.2.1, v15.2.2.2)) h)
        · refine w_aload_n C dX11_limp_36 rfl 0 rfl ?_
          refine w_iload_n C dX11_limp_37 rfl 1 rfl ?_
          refine bd2_w h (fun r25 u26 hc h => ?_)
          refine w_callVi C (n := 1) (As := [.int a0]) (st := []) 0 (Nat.le_of_ble_eq_true rfl) rfl rfl (cfX11_isAsSeen D cI cT ad (l := X.2.1) C.2.2.1 hc) tw9_29 cy_X11_isAsSeen (by decide +kernel) ⟨Nat.le_of_ble_eq_true rfl, Nat.le_of_ble_eq_true rfl⟩ (by decide) rfl rfl (Nat.le_of_ble_eq_true rfl) dX11_limp_38 rfl ?_
          refine w_if_eq C (qt := 48) dX11_limp_41 (by decide) rfl h (fun _ h => ?_) (fun _ h => ?_)
          · refine w_iconst C 0 dX11_limp_48 rfl (by decide) ?_
            exact w_ri2 hr h (by decide) dX11_limp_49
          · refine w_iconst C 1 dX11_limp_44 rfl (by decide) ?_
            refine w_goto (q := 49) C dX11_limp_45 (by decide) ?_
            exact w_ri2 hr h (by decide) dX11_limp_49
      · exact w_sub (lv' := [(0, .ref (ad 0))]) [0] rfl (hJ6 (()) h)
theorem cfX11_limp (D : va_G) (cI cT : ClassId) (ad : Nat → Nat) {l : Launch} (had : gAp (gM D cI cT ad)) {F : Nat} {σ : St} {a0 : Int32} {a1 : Int32} {r : Int32} {σ' : St} (h : fX11_limp F σ a0 a1 = some (r, σ')) : MI l yX11_limp (wB yX11_limp cX11_limp 9 (some .int)) 5 121 (gM D cI cT ad) [.ref (ad 0), .int a0, .int a1] σ r σ' := mk_MI had (by decide +kernel) (Nat.le_of_ble_eq_true rfl) (fun X hX C hr => wfX11_limp C hr h)

def fX11_forget (F : Nat) (σ : St) : Option St := nm (up σ 0 4 0) fun u2 => nm (up u2 0 34 0) fun u4 => some u4
set_option maxRecDepth 20000 in
theorem wfX11_forget {X : XT} {D : va_G} {cI cT : ClassId} {ad : Nat → Nat} {F : Nat} {σ : St}  {σ' : St} (C : Cx X (gM D cI cT ad) cX11_forget 1 RX11 0 0 0) (hr : RetV X (gM D cI cT ad) cX11_forget 1 0 σ') (h : fX11_forget F σ = some σ') : WP X (gM D cI cT ad) 1 0 0 σ [(0, .ref (ad 0))] [] := by
  unfold fX11_forget at h
  refine w_aload_n C dX11_forget_0 rfl 0 rfl ?_
  refine w_iconst C 0 dX11_forget_1 rfl (by decide) ?_
  refine w_put C 0 4 0 (Nat.le_of_ble_eq_true rfl) rfl rfl inB_X11 tyX11_ok nmX11 (by decide) tw6_165 rfl rfl rfl (Nat.le_of_ble_eq_true rfl) rfl dX11_forget_2 rfl ?_
  refine w_nst h (fun u2 h => ?_)
  refine w_aload_n C dX11_forget_5 rfl 0 rfl ?_
  refine w_iconst C 0 dX11_forget_6 rfl (by decide) ?_
  refine w_put C 0 34 0 (Nat.le_of_ble_eq_true rfl) rfl rfl inB_X11 tyX11_ok nmX11 (by decide) tw6_195 rfl rfl rfl (Nat.le_of_ble_eq_true rfl) rfl dX11_forget_7 rfl ?_
  refine w_nst h (fun u4 h => ?_)
  exact w_rv hr h (by decide) dX11_forget_10
theorem cfX11_forget (D : va_G) (cI cT : ClassId) (ad : Nat → Nat) {l : Launch} (had : gAp (gM D cI cT ad)) {F : Nat} {σ : St}  {σ' : St} (h : fX11_forget F σ = some σ') : MV l yX11_forget (wB yX11_forget cX11_forget 1 none) 0 0 (gM D cI cT ad) [.ref (ad 0)] σ σ' := mk_MV had (by decide +kernel) (Nat.le_of_ble_eq_true rfl) (fun X hX C hr => wfX11_forget C hr h)

def fX11_gain (F : Nat) (σ : St) (a0 : Int32) (a1 : Int32) (a2 : Int32) (a3 : Int32) (a4 : Int32) : Option (Int32 × St) := ckI ((8 * a1) + a2) 48 (bd2 (fX11_hasStamped F σ a0 a1 a2 ((σ 19 (Int32.toNatClampNeg ((8 * a1) + a2))) + a3)) fun r1 u2 => if r1 = 0 then (some (((3 * a3) + a4) - 0, u2)) else some (((3 * a3) + a4) - 20, u2))
set_option maxRecDepth 20000 in
theorem wfX11_gain {X : XT} {D : va_G} {cI cT : ClassId} {ad : Nat → Nat} {F : Nat} {σ : St} {a0 : Int32} {a1 : Int32} {a2 : Int32} {a3 : Int32} {a4 : Int32} {r : Int32} {σ' : St} (C : Cx X (gM D cI cT ad) cX11_gain 6 RX11 6 149 0) (hr : RetI X (gM D cI cT ad) cX11_gain 6 0 r σ') (h : fX11_gain F σ a0 a1 a2 a3 a4 = some (r, σ')) : WP X (gM D cI cT ad) 6 0 0 σ [(0, .ref (ad 0)), (1, .int a0), (2, .int a1), (3, .int a2), (4, .int a3), (5, .int a4)] [] := by
  unfold fX11_gain at h
  refine w_iconst C 3 dX11_gain_0 rfl (by decide) ?_
  refine w_iload C dX11_gain_1 rfl 4 rfl ?_
  refine w_imul C dX11_gain_3 rfl ?_
  refine w_iload C dX11_gain_4 rfl 5 rfl ?_
  refine w_iadd C dX11_gain_6 rfl ?_
  refine w_aload_n C dX11_gain_7 rfl 0 rfl ?_
  refine w_iload_n C dX11_gain_8 rfl 1 rfl ?_
  refine w_iload_n C dX11_gain_9 rfl 2 rfl ?_
  refine w_iload_n C dX11_gain_10 rfl 3 rfl ?_
  refine w_aload_n C dX11_gain_11 rfl 0 rfl ?_
  refine w_get C 0 29 (Nat.le_of_ble_eq_true rfl) rfl rfl inB_X11 (by decide) tw6_190 rfl dX11_gain_12 rfl ?_
  refine w_bipush C 8 dX11_gain_15 rfl (by decide) ?_
  refine w_iload_n C dX11_gain_17 rfl 2 rfl ?_
  refine w_imul C dX11_gain_18 rfl ?_
  refine w_iload_n C dX11_gain_19 rfl 3 rfl ?_
  refine w_iadd C dX11_gain_20 rfl ?_
  refine w_iald C 19 48 0 (Nat.le_of_ble_eq_true rfl) (fun _ => rfl) rfl h dX11_gain_21 rfl (fun h => ?_)
  refine w_iload C dX11_gain_22 rfl 4 rfl ?_
  refine w_iadd C dX11_gain_24 rfl ?_
  refine bd2_w h (fun r1 u2 hc h => ?_)
  refine w_callVi C (n := 4) (As := [.int a0, .int a1, .int a2, .int ((σ 19 (Int32.toNatClampNeg ((8 * a1) + a2))) + a3)]) (st := [.int ((3 * a3) + a4)]) 0 (Nat.le_of_ble_eq_true rfl) rfl rfl (cfX11_hasStamped D cI cT ad (l := X.2.1) C.2.2.1 hc) tw8_48 cy_X11_hasStamped (by decide +kernel) ⟨Nat.le_of_ble_eq_true rfl, Nat.le_of_ble_eq_true rfl⟩ (by decide) rfl rfl (Nat.le_of_ble_eq_true rfl) dX11_gain_25 rfl ?_
  refine w_if_eq C (qt := 36) dX11_gain_28 (by decide) rfl h (fun _ h => ?_) (fun _ h => ?_)
  · refine w_iconst C 0 dX11_gain_36 rfl (by decide) ?_
    refine w_isub C dX11_gain_37 rfl ?_
    exact w_ri2 hr h (by decide) dX11_gain_38
  · refine w_bipush C 20 dX11_gain_31 rfl (by decide) ?_
    refine w_goto (q := 37) C dX11_gain_33 (by decide) ?_
    refine w_isub C dX11_gain_37 rfl ?_
    exact w_ri2 hr h (by decide) dX11_gain_38
theorem cfX11_gain (D : va_G) (cI cT : ClassId) (ad : Nat → Nat) {l : Launch} (had : gAp (gM D cI cT ad)) {F : Nat} {σ : St} {a0 : Int32} {a1 : Int32} {a2 : Int32} {a3 : Int32} {a4 : Int32} {r : Int32} {σ' : St} (h : fX11_gain F σ a0 a1 a2 a3 a4 = some (r, σ')) : MI l yX11_gain (wB yX11_gain cX11_gain 6 (some .int)) 6 149 (gM D cI cT ad) [.ref (ad 0), .int a0, .int a1, .int a2, .int a3, .int a4] σ r σ' := mk_MI had (by decide +kernel) (Nat.le_of_ble_eq_true rfl) (fun X hX C hr => wfX11_gain C hr h)

def fX11_game (F : Nat) (σ : St) (a0 : Int32) (a1 : Int32) (a2 : Int32) (a3 : Int32) : Option (Int32 × St) := nm (up σ 0 4 0) fun u2 => bd1 (fX11_isValley F u2 a0) fun r3 => jn (fun v4 : Unit => bd2 (fX11_fail F u2 1) fun r7 u8 => some (r7, u8)) fun J5 => if r3 = 0 then (J5 (())) else bd1 (fX11_isValley F u2 a1) fun r9 => if r9 = 0 then (J5 (())) else bd1 (fX11_isAbout F u2 a2) fun r10 => if r10 = 0 then (J5 (())) else if a3 < 0 then (J5 (())) else if a3 ≤ (1 : Int32) then (if a0 = a1 then (bd2 (fX11_fail F u2 2) fun r34 u35 => some (r34, u35)) else bd2 (fX11_binding F u2) fun r11 u12 => lp (fun (K14 : (St × Int32 × Int32 × Int32) → Option (Int32 × St)) (v13 : St × Int32 × Int32 × Int32) => if (10 : Int32) ≤ v13.2.1 then (if a3 = 0 then (some (v13.2.2.2, v13.1)) else some (v13.2.2.1, v13.1)) else lp (fun (K17 : (St × Int32 × Int32 × Int32) → Option (Int32 × St)) (v16 : St × Int32 × Int32 × Int32) => if (10 : Int32) ≤ v16.2.1 then (K14 ((v16.1, v13.2.1 + 1, v16.2.2.1, v16.2.2.2))) else lp (fun (K20 : (St × Int32 × Int32) → Option (Int32 × St)) (v19 : St × Int32 × Int32) => jn (fun v22 : Unit => if v19.2.2 = 0 then (K17 ((v19.1, v16.2.1 + 1, v16.2.2.1, v16.2.2.2))) else if v16.2.2.1 = (-1 : Int32) then (nm ((10 * v13.2.1) + v16.2.1) fun x25 => K17 ((v19.1, v16.2.1 + 1, x25, v16.2.2.2 + 1))) else K17 ((v19.1, v16.2.1 + 1, v16.2.2.1, v16.2.2.2 + 1))) fun J23 => if (10 : Int32) ≤ v19.2.1 then (J23 (())) else if v19.2.2 = 0 then (J23 (())) else bd2 (fX11_gain F v19.1 r11 a0 a2 v19.2.1 v16.2.1) fun r26 u27 => bd2 (fX11_gain F u27 r11 a0 a2 v13.2.1 v16.2.1) fun r28 u29 => if r28 < r26 then (K20 ((u29, v19.2.1 + 1, 0))) else bd2 (fX11_gain F u29 r11 a1 a2 v19.2.1 v13.2.1) fun r30 u31 => bd2 (fX11_gain F u31 r11 a1 a2 v16.2.1 v13.2.1) fun r32 u33 => if r32 < r30 then (K20 ((u33, v19.2.1 + 1, 0))) else K20 ((u33, v19.2.1 + 1, 1))) F ((v16.1, 0, 1))) F ((v13.1, 0, v13.2.2.1, v13.2.2.2))) F ((u12, 0, (-1), 0))) else J5 (())
set_option maxRecDepth 20000 in
theorem wfX11_game {X : XT} {D : va_G} {cI cT : ClassId} {ad : Nat → Nat} {F : Nat} {σ : St} {a0 : Int32} {a1 : Int32} {a2 : Int32} {a3 : Int32} {r : Int32} {σ' : St} (C : Cx X (gM D cI cT ad) cX11_game 12 RX11 7 174 0) (hr : RetI X (gM D cI cT ad) cX11_game 12 0 r σ') (h : fX11_game F σ a0 a1 a2 a3 = some (r, σ')) : WP X (gM D cI cT ad) 12 0 0 σ [(0, .ref (ad 0)), (1, .int a0), (2, .int a1), (3, .int a2), (4, .int a3)] [] := by
  unfold fX11_game at h
  refine w_aload_n C dX11_game_0 rfl 0 rfl ?_
  refine w_iconst C 0 dX11_game_1 rfl (by decide) ?_
  refine w_put C 0 4 0 (Nat.le_of_ble_eq_true rfl) rfl rfl inB_X11 tyX11_ok nmX11 (by decide) tw6_165 rfl rfl rfl (Nat.le_of_ble_eq_true rfl) rfl dX11_game_2 rfl ?_
  refine w_nst h (fun u2 h => ?_)
  refine w_aload_n C dX11_game_5 rfl 0 rfl ?_
  refine w_iload_n C dX11_game_6 rfl 1 rfl ?_
  refine bd1_w h (fun r3 hc h => ?_)
  refine w_callVi C (n := 1) (As := [.int a0]) (st := []) 0 (Nat.le_of_ble_eq_true rfl) rfl rfl (cfX11_isValley D cI cT ad (l := X.2.1) C.2.2.1 hc) tw8_95 cy_X11_isValley (by decide +kernel) ⟨Nat.le_of_ble_eq_true rfl, Nat.le_of_ble_eq_true rfl⟩ (by decide) rfl rfl (Nat.le_of_ble_eq_true rfl) dX11_game_7 rfl ?_
  refine jn_w (fun v4 : Unit => WP X (gM D cI cT ad) 12 0 39 u2 [(0, .ref (ad 0))] []) h (fun v4 h => ?_) (fun J5 hJ6 h => ?_)
  · refine w_aload_n C dX11_game_39 rfl 0 rfl ?_
    refine w_iconst C 1 dX11_game_40 rfl (by decide) ?_
    refine bd2_w h (fun r7 u8 hc h => ?_)
    refine w_callVi C (n := 1) (As := [.int 1]) (st := []) 0 (Nat.le_of_ble_eq_true rfl) rfl rfl (cfX11_fail D cI cT ad (l := X.2.1) C.2.2.1 hc) tw7_117 cy_X11_fail (by decide +kernel) ⟨Nat.le_of_ble_eq_true rfl, Nat.le_of_ble_eq_true rfl⟩ (by decide) rfl rfl (Nat.le_of_ble_eq_true rfl) dX11_game_41 rfl ?_
    exact w_ri2 hr h (by decide) dX11_game_44
  · refine w_if_eq C (qt := 39) dX11_game_10 (by decide) rfl h (fun _ h => ?_) (fun _ h => ?_)
    · exact w_sub (lv' := [(0, .ref (ad 0))]) [0] rfl (hJ6 (()) h)
    · refine w_aload_n C dX11_game_13 rfl 0 rfl ?_
      refine w_iload_n C dX11_game_14 rfl 2 rfl ?_
      refine bd1_w h (fun r9 hc h => ?_)
      refine w_callVi C (n := 1) (As := [.int a1]) (st := []) 0 (Nat.le_of_ble_eq_true rfl) rfl rfl (cfX11_isValley D cI cT ad (l := X.2.1) C.2.2.1 hc) tw8_95 cy_X11_isValley (by decide +kernel) ⟨Nat.le_of_ble_eq_true rfl, Nat.le_of_ble_eq_true rfl⟩ (by decide) rfl rfl (Nat.le_of_ble_eq_true rfl) dX11_game_15 rfl ?_
      refine w_if_eq C (qt := 39) dX11_game_18 (by decide) rfl h (fun _ h => ?_) (fun _ h => ?_)
      · exact w_sub (lv' := [(0, .ref (ad 0))]) [0] rfl (hJ6 (()) h)
      · refine w_iload_n C dX11_game_21 rfl 3 rfl ?_
        refine bd1_w h (fun r10 hc h => ?_)
        refine w_callSi C (n := 1) (As := [.int a2]) (st := []) (cfX11_isAbout D cI cT ad (l := X.2.1) C.2.2.1 hc) tw8_129 cs_X11_isAbout (by decide +kernel) ⟨Nat.le_of_ble_eq_true rfl, Nat.le_of_ble_eq_true rfl⟩ (by decide) rfl rfl (Nat.le_of_ble_eq_true rfl) dX11_game_22 rfl ?_
        refine w_if_eq C (qt := 39) dX11_game_25 (by decide) rfl h (fun _ h => ?_) (fun _ h => ?_)
        · exact w_sub (lv' := [(0, .ref (ad 0))]) [0] rfl (hJ6 (()) h)
        · refine w_iload C dX11_game_28 rfl 4 rfl ?_
          refine w_if_lt C (qt := 39) dX11_game_30 (by decide) rfl h (fun _ h => ?_) (fun _ h => ?_)
          · exact w_sub (lv' := [(0, .ref (ad 0))]) [0] rfl (hJ6 (()) h)
          · refine w_iload C dX11_game_33 rfl 4 rfl ?_
            refine w_iconst C 1 dX11_game_35 rfl (by decide) ?_
            refine w_icmp_le C (qt := 45) dX11_game_36 (by decide) rfl h (fun _ h => ?_) (fun _ h => ?_)
            · refine w_iload_n C dX11_game_45 rfl 1 rfl ?_
              refine w_iload_n C dX11_game_46 rfl 2 rfl ?_
              refine w_icmp_ne C (qt := 56) dX11_game_47 (by decide) rfl h (fun _ h => ?_) (fun _ h => ?_)
              · refine w_aload_n C dX11_game_56 rfl 0 rfl ?_
                refine bd2_w h (fun r11 u12 hc h => ?_)
                refine w_callVi C (n := 0) (As := []) (st := []) 0 (Nat.le_of_ble_eq_true rfl) rfl rfl (cfX11_binding D cI cT ad (l := X.2.1) C.2.2.1 hc) tw8_1 cy_X11_binding (by decide +kernel) ⟨Nat.le_of_ble_eq_true rfl, Nat.le_of_ble_eq_true rfl⟩ (by decide) rfl rfl (Nat.le_of_ble_eq_true rfl) dX11_game_57 rfl ?_
                refine w_istore C [(5, .int r11), (0, .ref (ad 0)), (1, .int a0), (2, .int a1), (3, .int a2), (4, .int a3)] dX11_game_60 rfl (by decide) rfl ?_
                refine w_iconst C 0 dX11_game_62 rfl (by decide) ?_
                refine w_istore C [(6, .int 0), (5, .int r11), (0, .ref (ad 0)), (1, .int a0), (2, .int a1), (3, .int a2), (4, .int a3)] dX11_game_63 rfl (by decide) rfl ?_
                refine w_iconst C (-1) dX11_game_65 rfl (by decide) ?_
                refine w_istore C [(7, .int ((-1))), (6, .int 0), (5, .int r11), (0, .ref (ad 0)), (1, .int a0), (2, .int a1), (3, .int a2), (4, .int a3)] dX11_game_66 rfl (by decide) rfl ?_
                refine w_iconst C 0 dX11_game_68 rfl (by decide) ?_
                refine w_istore C [(8, .int 0), (7, .int ((-1))), (6, .int 0), (5, .int r11), (0, .ref (ad 0)), (1, .int a0), (2, .int a1), (3, .int a2), (4, .int a3)] dX11_game_69 rfl (by decide) rfl ?_
                refine w_sub (lv' := [(8, .int 0), (7, .int ((-1))), (6, .int 0), (5, .int r11), (0, .ref (ad 0)), (1, .int a0), (2, .int a1), (3, .int a2), (4, .int a3)]) [0, 1, 2, 3, 4, 5, 6, 7, 8] rfl ?_
                refine lp_w (fun v13 : St × Int32 × Int32 × Int32 => WP X (gM D cI cT ad) 12 0 71 v13.1 [(8, .int v13.2.1), (7, .int v13.2.2.1), (6, .int v13.2.2.2), (5, .int r11), (0, .ref (ad 0)), (1, .int a0), (2, .int a1), (3, .int a2), (4, .int a3)] []) (fun K14 hK15 v13 h => ?_) F _ h
                refine w_iload C dX11_game_71 rfl 0 rfl ?_
                refine w_bipush C 10 dX11_game_73 rfl (by decide) ?_
                refine w_icmp_ge C (qt := 217) dX11_game_75 (by decide) rfl h (fun _ h => ?_) (fun _ h => ?_)
                · refine w_iload C dX11_game_217 rfl 8 rfl ?_
                  refine w_if_ne C (qt := 227) dX11_game_219 (by decide) rfl h (fun _ h => ?_) (fun _ h => ?_)
                  · refine w_iload C dX11_game_227 rfl 1 rfl ?_
                    exact w_ri2 hr h (by decide) dX11_game_229
                  · refine w_iload C dX11_game_222 rfl 2 rfl ?_
                    refine w_goto (q := 229) C dX11_game_224 (by decide) ?_
                    exact w_ri2 hr h (by decide) dX11_game_229
                · refine w_iconst C 0 dX11_game_78 rfl (by decide) ?_
                  refine w_istore C [(9, .int 0), (8, .int v13.2.1), (7, .int v13.2.2.1), (6, .int v13.2.2.2), (5, .int r11), (0, .ref (ad 0)), (1, .int a0), (2, .int a1), (3, .int a2), (4, .int a3)] dX11_game_79 rfl (by decide) rfl ?_
                  refine w_sub (lv' := [(9, .int 0), (8, .int v13.2.1), (7, .int v13.2.2.1), (6, .int v13.2.2.2), (5, .int r11), (0, .ref (ad 0)), (1, .int a0), (2, .int a1), (3, .int a2), (4, .int a3)]) [0, 1, 2, 3, 4, 5, 6, 7, 8, 9] rfl ?_
                  refine lp_w (fun v16 : St × Int32 × Int32 × Int32 => WP X (gM D cI cT ad) 12 0 81 v16.1 [(9, .int v16.2.1), (8, .int v13.2.1), (7, .int v16.2.2.1), (6, .int v16.2.2.2), (5, .int r11), (0, .ref (ad 0)), (1, .int a0), (2, .int a1), (3, .int a2), (4, .int a3)] []) (fun K17 hK18 v16 h => ?_) F _ h
                  refine w_iload C dX11_game_81 rfl 0 rfl ?_
                  refine w_bipush C 10 dX11_game_83 rfl (by decide) ?_
                  refine w_icmp_ge C (qt := 211) dX11_game_85 (by decide) rfl h (fun _ h => ?_) (fun _ h => ?_)
                  · refine w_iinc (j := 1) C (v13.2.1 + 1) [(8, .int (v13.2.1 + 1)), (9, .int v16.2.1), (7, .int v16.2.2.1), (6, .int v16.2.2.2), (5, .int r11), (0, .ref (ad 0)), (1, .int a0), (2, .int a1), (3, .int a2), (4, .int a3)] dX11_game_211 rfl rfl rfl (by decide) rfl ?_
                    refine w_goto (q := 71) C dX11_game_214 (by decide) ?_
                    exact w_sub (lv' := [(8, .int (v13.2.1 + 1)), (7, .int v16.2.2.1), (6, .int v16.2.2.2), (5, .int r11), (0, .ref (ad 0)), (1, .int a0), (2, .int a1), (3, .int a2), (4, .int a3)]) [0, 2, 3, 4, 5, 6, 7, 8, 9] rfl (hK15 ((v16.1, v13.2.1 + 1, v16.2.2.1, v16.2.2.2)) h)
                  · refine w_iconst C 1 dX11_game_88 rfl (by decide) ?_
                    refine w_istore C [(10, .int 1), (9, .int v16.2.1), (8, .int v13.2.1), (7, .int v16.2.2.1), (6, .int v16.2.2.2), (5, .int r11), (0, .ref (ad 0)), (1, .int a0), (2, .int a1), (3, .int a2), (4, .int a3)] dX11_game_89 rfl (by decide) rfl ?_
                    refine w_iconst C 0 dX11_game_91 rfl (by decide) ?_
                    refine w_istore C [(11, .int 0), (10, .int 1), (9, .int v16.2.1), (8, .int v13.2.1), (7, .int v16.2.2.1), (6, .int v16.2.2.2), (5, .int r11), (0, .ref (ad 0)), (1, .int a0), (2, .int a1), (3, .int a2), (4, .int a3)] dX11_game_92 rfl (by decide) rfl ?_
                    refine w_sub (lv' := [(11, .int 0), (10, .int 1), (9, .int v16.2.1), (8, .int v13.2.1), (7, .int v16.2.2.1), (6, .int v16.2.2.2), (5, .int r11), (0, .ref (ad 0)), (1, .int a0), (2, .int a1), (3, .int a2), (4, .int a3)]) [0, 1, 2, 3, 4, 5, 6, 7, 8, 9, 10, 11] rfl ?_
                    refine lp_w (fun v19 : St × Int32 × Int32 => WP X (gM D cI cT ad) 12 0 94 v19.1 [(11, .int v19.2.1), (10, .int v19.2.2), (9, .int v16.2.1), (8, .int v13.2.1), (7, .int v16.2.2.1), (6, .int v16.2.2.2), (5, .int r11), (0, .ref (ad 0)), (1, .int a0), (2, .int a1), (3, .int a2), (4, .int a3)] []) (fun K20 hK21 v19 h => ?_) F _ h
                    refine w_iload C dX11_game_94 rfl 0 rfl ?_
                    refine w_bipush C 10 dX11_game_96 rfl (by decide) ?_
                    refine jn_w (fun v22 : Unit => WP X (gM D cI cT ad) 12 0 173 v19.1 [(10, .int v19.2.2), (9, .int v16.2.1), (8, .int v13.2.1), (7, .int v16.2.2.1), (6, .int v16.2.2.2), (5, .int r11), (0, .ref (ad 0)), (1, .int a0), (2, .int a1), (3, .int a2), (4, .int a3)] []) h (fun v22 h => ?_) (fun J23 hJ24 h => ?_)
                    · refine w_iload C dX11_game_173 rfl 0 rfl ?_
                      refine w_if_ne C (qt := 181) dX11_game_175 (by decide) rfl h (fun _ h => ?_) (fun _ h => ?_)
                      · refine w_iinc (j := 4) C (v16.2.2.2 + 1) [(6, .int (v16.2.2.2 + 1)), (10, .int v19.2.2), (9, .int v16.2.1), (8, .int v13.2.1), (7, .int v16.2.2.1), (5, .int r11), (0, .ref (ad 0)), (1, .int a0), (2, .int a1), (3, .int a2), (4, .int a3)] dX11_game_181 rfl rfl rfl (by decide) rfl ?_
                        refine w_iload C dX11_game_184 rfl 4 rfl ?_
                        refine w_iconst C (-1) dX11_game_186 rfl (by decide) ?_
                        refine w_icmp_ne C (qt := 201) dX11_game_187 (by decide) rfl h (fun _ h => ?_) (fun _ h => ?_)
                        · refine w_iload C dX11_game_201 rfl 4 rfl ?_
                          refine w_istore C [(7, .int v16.2.2.1), (6, .int (v16.2.2.2 + 1)), (10, .int v19.2.2), (9, .int v16.2.1), (8, .int v13.2.1), (5, .int r11), (0, .ref (ad 0)), (1, .int a0), (2, .int a1), (3, .int a2), (4, .int a3)] dX11_game_203 rfl (by decide) rfl ?_
                          refine w_iinc (j := 3) C (v16.2.1 + 1) [(9, .int (v16.2.1 + 1)), (7, .int v16.2.2.1), (6, .int (v16.2.2.2 + 1)), (10, .int v19.2.2), (8, .int v13.2.1), (5, .int r11), (0, .ref (ad 0)), (1, .int a0), (2, .int a1), (3, .int a2), (4, .int a3)] dX11_game_205 rfl rfl rfl (by decide) rfl ?_
                          refine w_goto (q := 81) C dX11_game_208 (by decide) ?_
                          exact w_sub (lv' := [(9, .int (v16.2.1 + 1)), (8, .int v13.2.1), (7, .int v16.2.2.1), (6, .int (v16.2.2.2 + 1)), (5, .int r11), (0, .ref (ad 0)), (1, .int a0), (2, .int a1), (3, .int a2), (4, .int a3)]) [0, 4, 1, 2, 5, 6, 7, 8, 9, 10] rfl (hK18 ((v19.1, v16.2.1 + 1, v16.2.2.1, v16.2.2.2 + 1)) h)
                        · refine w_bipush C 10 dX11_game_190 rfl (by decide) ?_
                          refine w_iload C dX11_game_192 rfl 3 rfl ?_
                          refine w_imul C dX11_game_194 rfl ?_
                          refine w_iload C dX11_game_195 rfl 2 rfl ?_
                          refine w_iadd C dX11_game_197 rfl ?_
                          refine w_goto (q := 203) C dX11_game_198 (by decide) ?_
                          refine w_nm h (fun x25 h => ?_)
                          refine w_istore C [(7, .int x25), (6, .int (v16.2.2.2 + 1)), (10, .int v19.2.2), (9, .int v16.2.1), (8, .int v13.2.1), (5, .int r11), (0, .ref (ad 0)), (1, .int a0), (2, .int a1), (3, .int a2), (4, .int a3)] dX11_game_203 rfl (by decide) rfl ?_
                          refine w_iinc (j := 3) C (v16.2.1 + 1) [(9, .int (v16.2.1 + 1)), (7, .int x25), (6, .int (v16.2.2.2 + 1)), (10, .int v19.2.2), (8, .int v13.2.1), (5, .int r11), (0, .ref (ad 0)), (1, .int a0), (2, .int a1), (3, .int a2), (4, .int a3)] dX11_game_205 rfl rfl rfl (by decide) rfl ?_
                          refine w_goto (q := 81) C dX11_game_208 (by decide) ?_
                          exact w_sub (lv' := [(9, .int (v16.2.1 + 1)), (8, .int v13.2.1), (7, .int x25), (6, .int (v16.2.2.2 + 1)), (5, .int r11), (0, .ref (ad 0)), (1, .int a0), (2, .int a1), (3, .int a2), (4, .int a3)]) [0, 4, 1, 2, 5, 6, 7, 8, 9, 10] rfl (hK18 ((v19.1, v16.2.1 + 1, x25, v16.2.2.2 + 1)) h)
                      · refine w_goto (q := 205) C dX11_game_178 (by decide) ?_
                        refine w_iinc (j := 1) C (v16.2.1 + 1) [(9, .int (v16.2.1 + 1)), (10, .int v19.2.2), (8, .int v13.2.1), (7, .int v16.2.2.1), (6, .int v16.2.2.2), (5, .int r11), (0, .ref (ad 0)), (1, .int a0), (2, .int a1), (3, .int a2), (4, .int a3)] dX11_game_205 rfl rfl rfl (by decide) rfl ?_
                        refine w_goto (q := 81) C dX11_game_208 (by decide) ?_
                        exact w_sub (lv' := [(9, .int (v16.2.1 + 1)), (8, .int v13.2.1), (7, .int v16.2.2.1), (6, .int v16.2.2.2), (5, .int r11), (0, .ref (ad 0)), (1, .int a0), (2, .int a1), (3, .int a2), (4, .int a3)]) [0, 2, 3, 4, 5, 6, 7, 8, 9, 10] rfl (hK18 ((v19.1, v16.2.1 + 1, v16.2.2.1, v16.2.2.2)) h)
                    · refine w_icmp_ge C (qt := 173) dX11_game_98 (by decide) rfl h (fun _ h => ?_) (fun _ h => ?_)
                      · exact w_sub (lv' := [(10, .int v19.2.2), (9, .int v16.2.1), (8, .int v13.2.1), (7, .int v16.2.2.1), (6, .int v16.2.2.2), (5, .int r11), (0, .ref (ad 0)), (1, .int a0), (2, .int a1), (3, .int a2), (4, .int a3)]) [1, 2, 3, 4, 5, 6, 7, 8, 9, 10, 11] rfl (hJ24 (()) h)
                      · refine w_iload C dX11_game_101 rfl 1 rfl ?_
                        refine w_if_eq C (qt := 173) dX11_game_103 (by decide) rfl h (fun _ h => ?_) (fun _ h => ?_)
                        · exact w_sub (lv' := [(10, .int v19.2.2), (9, .int v16.2.1), (8, .int v13.2.1), (7, .int v16.2.2.1), (6, .int v16.2.2.2), (5, .int r11), (0, .ref (ad 0)), (1, .int a0), (2, .int a1), (3, .int a2), (4, .int a3)]) [1, 2, 3, 4, 5, 6, 7, 8, 9, 10, 11] rfl (hJ24 (()) h)
                        · refine w_aload_n C dX11_game_106 rfl 7 rfl ?_
                          refine w_iload C dX11_game_107 rfl 6 rfl ?_
                          refine w_iload_n C dX11_game_109 rfl 8 rfl ?_
                          refine w_iload_n C dX11_game_110 rfl 10 rfl ?_
                          refine w_iload C dX11_game_111 rfl 0 rfl ?_
                          refine w_iload C dX11_game_113 rfl 2 rfl ?_
                          refine bd2_w h (fun r26 u27 hc h => ?_)
                          refine w_callVi C (n := 5) (As := [.int r11, .int a0, .int a2, .int v19.2.1, .int v16.2.1]) (st := []) 0 (Nat.le_of_ble_eq_true rfl) rfl rfl (cfX11_gain D cI cT ad (l := X.2.1) C.2.2.1 hc) tw9_41 cy_X11_gain (by decide +kernel) ⟨Nat.le_of_ble_eq_true rfl, Nat.le_of_ble_eq_true rfl⟩ (by decide) rfl rfl (Nat.le_of_ble_eq_true rfl) dX11_game_115 rfl ?_
                          refine w_aload_n C dX11_game_118 rfl 7 rfl ?_
                          refine w_iload C dX11_game_119 rfl 6 rfl ?_
                          refine w_iload_n C dX11_game_121 rfl 8 rfl ?_
                          refine w_iload_n C dX11_game_122 rfl 10 rfl ?_
                          refine w_iload C dX11_game_123 rfl 3 rfl ?_
                          refine w_iload C dX11_game_125 rfl 2 rfl ?_
                          refine bd2_w h (fun r28 u29 hc h => ?_)
                          refine w_callVi C (n := 5) (As := [.int r11, .int a0, .int a2, .int v13.2.1, .int v16.2.1]) (st := [.int r26]) 0 (Nat.le_of_ble_eq_true rfl) rfl rfl (cfX11_gain D cI cT ad (l := X.2.1) C.2.2.1 hc) tw9_41 cy_X11_gain (by decide +kernel) ⟨Nat.le_of_ble_eq_true rfl, Nat.le_of_ble_eq_true rfl⟩ (by decide) rfl rfl (Nat.le_of_ble_eq_true rfl) dX11_game_127 rfl ?_
                          refine w_icmp_gt C (qt := 164) dX11_game_130 (by decide) rfl h (fun _ h => ?_) (fun _ h => ?_)
                          · refine w_iconst C 0 dX11_game_164 rfl (by decide) ?_
                            refine w_istore C [(10, .int 0), (11, .int v19.2.1), (9, .int v16.2.1), (8, .int v13.2.1), (7, .int v16.2.2.1), (6, .int v16.2.2.2), (5, .int r11), (0, .ref (ad 0)), (1, .int a0), (2, .int a1), (3, .int a2), (4, .int a3)] dX11_game_165 rfl (by decide) rfl ?_
                            refine w_iinc (j := 1) C (v19.2.1 + 1) [(11, .int (v19.2.1 + 1)), (10, .int 0), (9, .int v16.2.1), (8, .int v13.2.1), (7, .int v16.2.2.1), (6, .int v16.2.2.2), (5, .int r11), (0, .ref (ad 0)), (1, .int a0), (2, .int a1), (3, .int a2), (4, .int a3)] dX11_game_167 rfl rfl rfl (by decide) rfl ?_
                            refine w_goto (q := 94) C dX11_game_170 (by decide) ?_
                            exact w_sub (lv' := [(11, .int (v19.2.1 + 1)), (10, .int 0), (9, .int v16.2.1), (8, .int v13.2.1), (7, .int v16.2.2.1), (6, .int v16.2.2.2), (5, .int r11), (0, .ref (ad 0)), (1, .int a0), (2, .int a1), (3, .int a2), (4, .int a3)]) [0, 1, 2, 3, 4, 5, 6, 7, 8, 9, 10, 11] rfl (hK21 ((u29, v19.2.1 + 1, 0)) h)
                          · refine w_aload_n C dX11_game_133 rfl 7 rfl ?_
                            refine w_iload C dX11_game_134 rfl 6 rfl ?_
                            refine w_iload_n C dX11_game_136 rfl 9 rfl ?_
                            refine w_iload_n C dX11_game_137 rfl 10 rfl ?_
                            refine w_iload C dX11_game_138 rfl 0 rfl ?_
                            refine w_iload C dX11_game_140 rfl 3 rfl ?_
                            refine bd2_w h (fun r30 u31 hc h => ?_)
                            refine w_callVi C (n := 5) (As := [.int r11, .int a1, .int a2, .int v19.2.1, .int v13.2.1]) (st := []) 0 (Nat.le_of_ble_eq_true rfl) rfl rfl (cfX11_gain D cI cT ad (l := X.2.1) C.2.2.1 hc) tw9_41 cy_X11_gain (by decide +kernel) ⟨Nat.le_of_ble_eq_true rfl, Nat.le_of_ble_eq_true rfl⟩ (by decide) rfl rfl (Nat.le_of_ble_eq_true rfl) dX11_game_142 rfl ?_
                            refine w_aload_n C dX11_game_145 rfl 7 rfl ?_
                            refine w_iload C dX11_game_146 rfl 6 rfl ?_
                            refine w_iload_n C dX11_game_148 rfl 9 rfl ?_
                            refine w_iload_n C dX11_game_149 rfl 10 rfl ?_
                            refine w_iload C dX11_game_150 rfl 2 rfl ?_
                            refine w_iload C dX11_game_152 rfl 3 rfl ?_
                            refine bd2_w h (fun r32 u33 hc h => ?_)
                            refine w_callVi C (n := 5) (As := [.int r11, .int a1, .int a2, .int v16.2.1, .int v13.2.1]) (st := [.int r30]) 0 (Nat.le_of_ble_eq_true rfl) rfl rfl (cfX11_gain D cI cT ad (l := X.2.1) C.2.2.1 hc) tw9_41 cy_X11_gain (by decide +kernel) ⟨Nat.le_of_ble_eq_true rfl, Nat.le_of_ble_eq_true rfl⟩ (by decide) rfl rfl (Nat.le_of_ble_eq_true rfl) dX11_game_154 rfl ?_
                            refine w_icmp_gt C (qt := 164) dX11_game_157 (by decide) rfl h (fun _ h => ?_) (fun _ h => ?_)
                            · refine w_iconst C 0 dX11_game_164 rfl (by decide) ?_
                              refine w_istore C [(10, .int 0), (11, .int v19.2.1), (9, .int v16.2.1), (8, .int v13.2.1), (7, .int v16.2.2.1), (6, .int v16.2.2.2), (5, .int r11), (0, .ref (ad 0)), (1, .int a0), (2, .int a1), (3, .int a2), (4, .int a3)] dX11_game_165 rfl (by decide) rfl ?_
                              refine w_iinc (j := 1) C (v19.2.1 + 1) [(11, .int (v19.2.1 + 1)), (10, .int 0), (9, .int v16.2.1), (8, .int v13.2.1), (7, .int v16.2.2.1), (6, .int v16.2.2.2), (5, .int r11), (0, .ref (ad 0)), (1, .int a0), (2, .int a1), (3, .int a2), (4, .int a3)] dX11_game_167 rfl rfl rfl (by decide) rfl ?_
                              refine w_goto (q := 94) C dX11_game_170 (by decide) ?_
                              exact w_sub (lv' := [(11, .int (v19.2.1 + 1)), (10, .int 0), (9, .int v16.2.1), (8, .int v13.2.1), (7, .int v16.2.2.1), (6, .int v16.2.2.2), (5, .int r11), (0, .ref (ad 0)), (1, .int a0), (2, .int a1), (3, .int a2), (4, .int a3)]) [0, 1, 2, 3, 4, 5, 6, 7, 8, 9, 10, 11] rfl (hK21 ((u33, v19.2.1 + 1, 0)) h)
                            · refine w_iconst C 1 dX11_game_160 rfl (by decide) ?_
                              refine w_goto (q := 165) C dX11_game_161 (by decide) ?_
                              refine w_istore C [(10, .int 1), (11, .int v19.2.1), (9, .int v16.2.1), (8, .int v13.2.1), (7, .int v16.2.2.1), (6, .int v16.2.2.2), (5, .int r11), (0, .ref (ad 0)), (1, .int a0), (2, .int a1), (3, .int a2), (4, .int a3)] dX11_game_165 rfl (by decide) rfl ?_
                              refine w_iinc (j := 1) C (v19.2.1 + 1) [(11, .int (v19.2.1 + 1)), (10, .int 1), (9, .int v16.2.1), (8, .int v13.2.1), (7, .int v16.2.2.1), (6, .int v16.2.2.2), (5, .int r11), (0, .ref (ad 0)), (1, .int a0), (2, .int a1), (3, .int a2), (4, .int a3)] dX11_game_167 rfl rfl rfl (by decide) rfl ?_
                              refine w_goto (q := 94) C dX11_game_170 (by decide) ?_
                              exact w_sub (lv' := [(11, .int (v19.2.1 + 1)), (10, .int 1), (9, .int v16.2.1), (8, .int v13.2.1), (7, .int v16.2.2.1), (6, .int v16.2.2.2), (5, .int r11), (0, .ref (ad 0)), (1, .int a0), (2, .int a1), (3, .int a2), (4, .int a3)]) [0, 1, 2, 3, 4, 5, 6, 7, 8, 9, 10, 11] rfl (hK21 ((u33, v19.2.1 + 1, 1)) h)
              · refine w_aload_n C dX11_game_50 rfl 0 rfl ?_
                refine w_iconst C 2 dX11_game_51 rfl (by decide) ?_
                refine bd2_w h (fun r34 u35 hc h => ?_)
                refine w_callVi C (n := 1) (As := [.int 2]) (st := []) 0 (Nat.le_of_ble_eq_true rfl) rfl rfl (cfX11_fail D cI cT ad (l := X.2.1) C.2.2.1 hc) tw7_117 cy_X11_fail (by decide +kernel) ⟨Nat.le_of_ble_eq_true rfl, Nat.le_of_ble_eq_true rfl⟩ (by decide) rfl rfl (Nat.le_of_ble_eq_true rfl) dX11_game_52 rfl ?_
                exact w_ri2 hr h (by decide) dX11_game_55
            · exact w_sub (lv' := [(0, .ref (ad 0))]) [0] rfl (hJ6 (()) h)
theorem cfX11_game (D : va_G) (cI cT : ClassId) (ad : Nat → Nat) {l : Launch} (had : gAp (gM D cI cT ad)) {F : Nat} {σ : St} {a0 : Int32} {a1 : Int32} {a2 : Int32} {a3 : Int32} {r : Int32} {σ' : St} (h : fX11_game F σ a0 a1 a2 a3 = some (r, σ')) : MI l yX11_game (wB yX11_game cX11_game 12 (some .int)) 7 174 (gM D cI cT ad) [.ref (ad 0), .int a0, .int a1, .int a2, .int a3] σ r σ' := mk_MI had (by decide +kernel) (Nat.le_of_ble_eq_true rfl) (fun X hX C hr => wfX11_game C hr h)

