def fX11_thrown (F : Nat) (σ : St) : Option Int32 := some (σ 0 4)
set_option maxRecDepth 20000 in
theorem wfX11_thrown {X : XT} {D : va_G} {cI cT : ClassId} {ad : Nat → Nat} {F : Nat} {σ : St}  {r : Int32} (C : Cx X (gM D cI cT ad) cX11_thrown 1 RX11 0 0 0) (hr : RetI X (gM D cI cT ad) cX11_thrown 1 0 r σ) (h : fX11_thrown F σ = some r) : WP X (gM D cI cT ad) 1 0 0 σ [(0, .ref (ad 0))] [] := by
  unfold fX11_thrown at h
  refine w_aload_n C dX11_thrown_0 rfl 0 rfl ?_
  refine w_get C 0 4 (Nat.le_of_ble_eq_true rfl) rfl rfl inB_X11 (by decide) tw6_165 rfl dX11_thrown_1 rfl ?_
  exact w_ri1 hr h (by decide) dX11_thrown_4
theorem cfX11_thrown (D : va_G) (cI cT : ClassId) (ad : Nat → Nat) {l : Launch} (had : gAp (gM D cI cT ad)) {F : Nat} {σ : St}  {r : Int32} (h : fX11_thrown F σ = some r) : MI l yX11_thrown (wB yX11_thrown cX11_thrown 1 (some .int)) 0 0 (gM D cI cT ad) [.ref (ad 0)] σ r σ := mk_MI had (by decide +kernel) (Nat.le_of_ble_eq_true rfl) (fun X hX C hr => wfX11_thrown C hr h)

def fX11_fail (F : Nat) (σ : St) (a0 : Int32) : Option (Int32 × St) := nm (up σ 0 4 a0) fun u2 => some (0, u2)
set_option maxRecDepth 20000 in
theorem wfX11_fail {X : XT} {D : va_G} {cI cT : ClassId} {ad : Nat → Nat} {F : Nat} {σ : St} {a0 : Int32} {r : Int32} {σ' : St} (C : Cx X (gM D cI cT ad) cX11_fail 2 RX11 0 0 0) (hr : RetI X (gM D cI cT ad) cX11_fail 2 0 r σ') (h : fX11_fail F σ a0 = some (r, σ')) : WP X (gM D cI cT ad) 2 0 0 σ [(0, .ref (ad 0)), (1, .int a0)] [] := by
  unfold fX11_fail at h
  refine w_aload_n C dX11_fail_0 rfl 0 rfl ?_
  refine w_iload_n C dX11_fail_1 rfl 1 rfl ?_
  refine w_put C 0 4 a0 (Nat.le_of_ble_eq_true rfl) rfl rfl inB_X11 tyX11_ok nmX11 (by decide) tw6_165 rfl rfl rfl (Nat.le_of_ble_eq_true rfl) rfl dX11_fail_2 rfl ?_
  refine w_nst h (fun u2 h => ?_)
  refine w_iconst C 0 dX11_fail_5 rfl (by decide) ?_
  exact w_ri2 hr h (by decide) dX11_fail_6
theorem cfX11_fail (D : va_G) (cI cT : ClassId) (ad : Nat → Nat) {l : Launch} (had : gAp (gM D cI cT ad)) {F : Nat} {σ : St} {a0 : Int32} {r : Int32} {σ' : St} (h : fX11_fail F σ a0 = some (r, σ')) : MI l yX11_fail (wB yX11_fail cX11_fail 2 (some .int)) 0 0 (gM D cI cT ad) [.ref (ad 0), .int a0] σ r σ' := mk_MI had (by decide +kernel) (Nat.le_of_ble_eq_true rfl) (fun X hX C hr => wfX11_fail C hr h)

def fX11_isIn (F : Nat) (σ : St) (a0 : Int64) (a1 : Int64) (a2 : Int64) : Option Int32 := if (lg_cmp a0 a1) < 0 then (some 0) else if 0 < (lg_cmp a0 a2) then (some 0) else some 1
set_option maxRecDepth 20000 in
theorem wfX11_isIn {X : XT} {D : va_G} {cI cT : ClassId} {ad : Nat → Nat} {F : Nat} {σ : St} {a0 : Int64} {a1 : Int64} {a2 : Int64} {r : Int32} (C : Cx X (gM D cI cT ad) cX11_isIn 6 RX11 0 0 0) (hr : RetZ X (gM D cI cT ad) cX11_isIn 6 0 r σ) (h : fX11_isIn F σ a0 a1 a2 = some r) : WP X (gM D cI cT ad) 6 0 0 σ [(0, .long a0), (2, .long a1), (4, .long a2)] [] := by
  unfold fX11_isIn at h
  refine w_lload_n C dX11_isIn_0 rfl 0 rfl ?_
  refine w_lload_n C dX11_isIn_1 rfl 1 rfl ?_
  refine w_lcmp C dX11_isIn_2 rfl ?_
  refine w_if_lt C (qt := 17) dX11_isIn_3 (by decide) rfl h (fun _ h => ?_) (fun _ h => ?_)
  · refine w_iconst C 0 dX11_isIn_17 rfl (by decide) ?_
    exact w_rz1 hr (by decide) h (by decide) dX11_isIn_18
  · refine w_lload_n C dX11_isIn_6 rfl 0 rfl ?_
    refine w_lload C dX11_isIn_7 rfl 2 rfl ?_
    refine w_lcmp C dX11_isIn_9 rfl ?_
    refine w_if_gt C (qt := 17) dX11_isIn_10 (by decide) rfl h (fun _ h => ?_) (fun _ h => ?_)
    · refine w_iconst C 0 dX11_isIn_17 rfl (by decide) ?_
      exact w_rz1 hr (by decide) h (by decide) dX11_isIn_18
    · refine w_iconst C 1 dX11_isIn_13 rfl (by decide) ?_
      refine w_goto (q := 18) C dX11_isIn_14 (by decide) ?_
      exact w_rz1 hr (by decide) h (by decide) dX11_isIn_18
theorem cfX11_isIn (D : va_G) (cI cT : ClassId) (ad : Nat → Nat) {l : Launch} (had : gAp (gM D cI cT ad)) {F : Nat} {σ : St} {a0 : Int64} {a1 : Int64} {a2 : Int64} {r : Int32} (h : fX11_isIn F σ a0 a1 a2 = some r) : MI l yX11_isIn (wB yX11_isIn cX11_isIn 6 (some .boolean)) 0 0 (gM D cI cT ad) [.long a0, .long a1, .long a2] σ r σ := mk_MZ had (by decide +kernel) (Nat.le_of_ble_eq_true rfl) (fun X hX C hr => wfX11_isIn C hr h)

def fX11_isOf (F : Nat) (σ : St) (a0 : Int32) (a1 : Int32) : Option Int32 := if ((a0 >>> (a1 &&& 31)) &&& 1) = (1 : Int32) then (some 1) else some 0
set_option maxRecDepth 20000 in
theorem wfX11_isOf {X : XT} {D : va_G} {cI cT : ClassId} {ad : Nat → Nat} {F : Nat} {σ : St} {a0 : Int32} {a1 : Int32} {r : Int32} (C : Cx X (gM D cI cT ad) cX11_isOf 2 RX11 0 0 0) (hr : RetZ X (gM D cI cT ad) cX11_isOf 2 0 r σ) (h : fX11_isOf F σ a0 a1 = some r) : WP X (gM D cI cT ad) 2 0 0 σ [(0, .int a0), (1, .int a1)] [] := by
  unfold fX11_isOf at h
  refine w_iload_n C dX11_isOf_0 rfl 0 rfl ?_
  refine w_iload_n C dX11_isOf_1 rfl 1 rfl ?_
  refine w_ishr C dX11_isOf_2 rfl ?_
  refine w_iconst C 1 dX11_isOf_3 rfl (by decide) ?_
  refine w_iand C dX11_isOf_4 rfl ?_
  refine w_iconst C 1 dX11_isOf_5 rfl (by decide) ?_
  refine w_icmp_ne C (qt := 13) dX11_isOf_6 (by decide) rfl h (fun _ h => ?_) (fun _ h => ?_)
  · refine w_iconst C 0 dX11_isOf_13 rfl (by decide) ?_
    exact w_rz1 hr (by decide) h (by decide) dX11_isOf_14
  · refine w_iconst C 1 dX11_isOf_9 rfl (by decide) ?_
    refine w_goto (q := 14) C dX11_isOf_10 (by decide) ?_
    exact w_rz1 hr (by decide) h (by decide) dX11_isOf_14
theorem cfX11_isOf (D : va_G) (cI cT : ClassId) (ad : Nat → Nat) {l : Launch} (had : gAp (gM D cI cT ad)) {F : Nat} {σ : St} {a0 : Int32} {a1 : Int32} {r : Int32} (h : fX11_isOf F σ a0 a1 = some r) : MI l yX11_isOf (wB yX11_isOf cX11_isOf 2 (some .boolean)) 0 0 (gM D cI cT ad) [.int a0, .int a1] σ r σ := mk_MZ had (by decide +kernel) (Nat.le_of_ble_eq_true rfl) (fun X hX C hr => wfX11_isOf C hr h)

def fX11_isValley (F : Nat) (σ : St) (a0 : Int32) : Option Int32 := bd1 (fX11_isIn F σ (Int32.toInt64 a0) 0 (Int32.toInt64 ((σ 5 0) - 1))) fun r1 => ckB (r1) (some r1)
set_option maxRecDepth 20000 in
theorem wfX11_isValley {X : XT} {D : va_G} {cI cT : ClassId} {ad : Nat → Nat} {F : Nat} {σ : St} {a0 : Int32} {r : Int32} (C : Cx X (gM D cI cT ad) cX11_isValley 2 RX11 1 25 0) (hr : RetZ X (gM D cI cT ad) cX11_isValley 2 0 r σ) (h : fX11_isValley F σ a0 = some r) : WP X (gM D cI cT ad) 2 0 0 σ [(0, .ref (ad 0)), (1, .int a0)] [] := by
  unfold fX11_isValley at h
  refine w_iload_n C dX11_isValley_0 rfl 1 rfl ?_
  refine w_i2l C dX11_isValley_1 rfl ?_
  refine w_lconst C 0 dX11_isValley_2 rfl (by decide) ?_
  refine w_aload_n C dX11_isValley_3 rfl 0 rfl ?_
  refine w_get C 0 5 (Nat.le_of_ble_eq_true rfl) rfl rfl inB_X11 (by decide) tw6_166 rfl dX11_isValley_4 rfl ?_
  refine w_iconst C 0 dX11_isValley_7 rfl (by decide) ?_
  refine w_ialdc C 5 8 0 0 (Nat.le_of_ble_eq_true rfl) (fun _ => rfl) rfl (by decide) (by show ¬ (_ ∨ _); decide) dX11_isValley_8 rfl ?_
  refine w_iconst C 1 dX11_isValley_9 rfl (by decide) ?_
  refine w_isub C dX11_isValley_10 rfl ?_
  refine w_i2l C dX11_isValley_11 rfl ?_
  refine bd1_w h (fun r1 hc h => ?_)
  refine w_callSi C (n := 3) (As := [.long (Int32.toInt64 a0), .long 0, .long (Int32.toInt64 ((σ 5 0) - 1))]) (st := []) (cfX11_isIn D cI cT ad (l := X.2.1) C.2.2.1 hc) tw8_99 cs_X11_isIn (by decide +kernel) ⟨Nat.le_of_ble_eq_true rfl, Nat.le_of_ble_eq_true rfl⟩ (by decide) rfl rfl (Nat.le_of_ble_eq_true rfl) dX11_isValley_12 rfl ?_
  obtain ⟨hz, h⟩ := ckB_w h
  exact w_rz1 hr hz h (by decide) dX11_isValley_15
theorem cfX11_isValley (D : va_G) (cI cT : ClassId) (ad : Nat → Nat) {l : Launch} (had : gAp (gM D cI cT ad)) {F : Nat} {σ : St} {a0 : Int32} {r : Int32} (h : fX11_isValley F σ a0 = some r) : MI l yX11_isValley (wB yX11_isValley cX11_isValley 2 (some .boolean)) 1 25 (gM D cI cT ad) [.ref (ad 0), .int a0] σ r σ := mk_MZ had (by decide +kernel) (Nat.le_of_ble_eq_true rfl) (fun X hX C hr => wfX11_isValley C hr h)

def fX11_isDance (F : Nat) (σ : St) (a0 : Int32) : Option Int32 := bd1 (fX11_isIn F σ (Int32.toInt64 a0) 0 (Int32.toInt64 ((σ 5 1) - 1))) fun r1 => ckB (r1) (some r1)
set_option maxRecDepth 20000 in
theorem wfX11_isDance {X : XT} {D : va_G} {cI cT : ClassId} {ad : Nat → Nat} {F : Nat} {σ : St} {a0 : Int32} {r : Int32} (C : Cx X (gM D cI cT ad) cX11_isDance 2 RX11 1 25 0) (hr : RetZ X (gM D cI cT ad) cX11_isDance 2 0 r σ) (h : fX11_isDance F σ a0 = some r) : WP X (gM D cI cT ad) 2 0 0 σ [(0, .ref (ad 0)), (1, .int a0)] [] := by
  unfold fX11_isDance at h
  refine w_iload_n C dX11_isDance_0 rfl 1 rfl ?_
  refine w_i2l C dX11_isDance_1 rfl ?_
  refine w_lconst C 0 dX11_isDance_2 rfl (by decide) ?_
  refine w_aload_n C dX11_isDance_3 rfl 0 rfl ?_
  refine w_get C 0 5 (Nat.le_of_ble_eq_true rfl) rfl rfl inB_X11 (by decide) tw6_166 rfl dX11_isDance_4 rfl ?_
  refine w_iconst C 1 dX11_isDance_7 rfl (by decide) ?_
  refine w_ialdc C 5 8 0 1 (Nat.le_of_ble_eq_true rfl) (fun _ => rfl) rfl (by decide) (by show ¬ (_ ∨ _); decide) dX11_isDance_8 rfl ?_
  refine w_iconst C 1 dX11_isDance_9 rfl (by decide) ?_
  refine w_isub C dX11_isDance_10 rfl ?_
  refine w_i2l C dX11_isDance_11 rfl ?_
  refine bd1_w h (fun r1 hc h => ?_)
  refine w_callSi C (n := 3) (As := [.long (Int32.toInt64 a0), .long 0, .long (Int32.toInt64 ((σ 5 1) - 1))]) (st := []) (cfX11_isIn D cI cT ad (l := X.2.1) C.2.2.1 hc) tw8_99 cs_X11_isIn (by decide +kernel) ⟨Nat.le_of_ble_eq_true rfl, Nat.le_of_ble_eq_true rfl⟩ (by decide) rfl rfl (Nat.le_of_ble_eq_true rfl) dX11_isDance_12 rfl ?_
  obtain ⟨hz, h⟩ := ckB_w h
  exact w_rz1 hr hz h (by decide) dX11_isDance_15
theorem cfX11_isDance (D : va_G) (cI cT : ClassId) (ad : Nat → Nat) {l : Launch} (had : gAp (gM D cI cT ad)) {F : Nat} {σ : St} {a0 : Int32} {r : Int32} (h : fX11_isDance F σ a0 = some r) : MI l yX11_isDance (wB yX11_isDance cX11_isDance 2 (some .boolean)) 1 25 (gM D cI cT ad) [.ref (ad 0), .int a0] σ r σ := mk_MZ had (by decide +kernel) (Nat.le_of_ble_eq_true rfl) (fun X hX C hr => wfX11_isDance C hr h)

def fX11_isStep (F : Nat) (σ : St) (a0 : Int32) (a1 : Int32) : Option Int32 := bd1 (fX11_isDance F σ a0) fun r1 => if r1 = 0 then (some 0) else ckI (a0) 16 (bd1 (fX11_isIn F σ (Int32.toInt64 a1) 0 (Int32.toInt64 ((σ 10 (Int32.toNatClampNeg a0)) - 1))) fun r2 => if r2 = 0 then (some 0) else some 1)
set_option maxRecDepth 20000 in
theorem wfX11_isStep {X : XT} {D : va_G} {cI cT : ClassId} {ad : Nat → Nat} {F : Nat} {σ : St} {a0 : Int32} {a1 : Int32} {r : Int32} (C : Cx X (gM D cI cT ad) cX11_isStep 3 RX11 2 46 0) (hr : RetZ X (gM D cI cT ad) cX11_isStep 3 0 r σ) (h : fX11_isStep F σ a0 a1 = some r) : WP X (gM D cI cT ad) 3 0 0 σ [(0, .ref (ad 0)), (1, .int a0), (2, .int a1)] [] := by
  unfold fX11_isStep at h
  refine w_aload_n C dX11_isStep_0 rfl 0 rfl ?_
  refine w_iload_n C dX11_isStep_1 rfl 1 rfl ?_
  refine bd1_w h (fun r1 hc h => ?_)
  refine w_callVi C (n := 1) (As := [.int a0]) (st := []) 0 (Nat.le_of_ble_eq_true rfl) rfl rfl (cfX11_isDance D cI cT ad (l := X.2.1) C.2.2.1 hc) tw8_106 cy_X11_isDance (by decide +kernel) ⟨Nat.le_of_ble_eq_true rfl, Nat.le_of_ble_eq_true rfl⟩ (by decide) rfl rfl (Nat.le_of_ble_eq_true rfl) dX11_isStep_2 rfl ?_
  refine w_if_eq C (qt := 30) dX11_isStep_5 (by decide) rfl h (fun _ h => ?_) (fun _ h => ?_)
  · refine w_iconst C 0 dX11_isStep_30 rfl (by decide) ?_
    exact w_rz1 hr (by decide) h (by decide) dX11_isStep_31
  · refine w_iload_n C dX11_isStep_8 rfl 2 rfl ?_
    refine w_i2l C dX11_isStep_9 rfl ?_
    refine w_lconst C 0 dX11_isStep_10 rfl (by decide) ?_
    refine w_aload_n C dX11_isStep_11 rfl 0 rfl ?_
    refine w_get C 0 10 (Nat.le_of_ble_eq_true rfl) rfl rfl inB_X11 (by decide) tw6_171 rfl dX11_isStep_12 rfl ?_
    refine w_iload_n C dX11_isStep_15 rfl 1 rfl ?_
    refine w_iald C 10 16 0 (Nat.le_of_ble_eq_true rfl) (fun _ => rfl) rfl h dX11_isStep_16 rfl (fun h => ?_)
    refine w_iconst C 1 dX11_isStep_17 rfl (by decide) ?_
    refine w_isub C dX11_isStep_18 rfl ?_
    refine w_i2l C dX11_isStep_19 rfl ?_
    refine bd1_w h (fun r2 hc h => ?_)
    refine w_callSi C (n := 3) (As := [.long (Int32.toInt64 a1), .long 0, .long (Int32.toInt64 ((σ 10 (Int32.toNatClampNeg a0)) - 1))]) (st := []) (cfX11_isIn D cI cT ad (l := X.2.1) C.2.2.1 hc) tw8_99 cs_X11_isIn (by decide +kernel) ⟨Nat.le_of_ble_eq_true rfl, Nat.le_of_ble_eq_true rfl⟩ (by decide) rfl rfl (Nat.le_of_ble_eq_true rfl) dX11_isStep_20 rfl ?_
    refine w_if_eq C (qt := 30) dX11_isStep_23 (by decide) rfl h (fun _ h => ?_) (fun _ h => ?_)
    · refine w_iconst C 0 dX11_isStep_30 rfl (by decide) ?_
      exact w_rz1 hr (by decide) h (by decide) dX11_isStep_31
    · refine w_iconst C 1 dX11_isStep_26 rfl (by decide) ?_
      refine w_goto (q := 31) C dX11_isStep_27 (by decide) ?_
      exact w_rz1 hr (by decide) h (by decide) dX11_isStep_31
theorem cfX11_isStep (D : va_G) (cI cT : ClassId) (ad : Nat → Nat) {l : Launch} (had : gAp (gM D cI cT ad)) {F : Nat} {σ : St} {a0 : Int32} {a1 : Int32} {r : Int32} (h : fX11_isStep F σ a0 a1 = some r) : MI l yX11_isStep (wB yX11_isStep cX11_isStep 3 (some .boolean)) 2 46 (gM D cI cT ad) [.ref (ad 0), .int a0, .int a1] σ r σ := mk_MZ had (by decide +kernel) (Nat.le_of_ble_eq_true rfl) (fun X hX C hr => wfX11_isStep C hr h)

def fX11_isAbout (F : Nat) (σ : St) (a0 : Int32) : Option Int32 := bd1 (fX11_isIn F σ (Int32.toInt64 a0) 0 7) fun r1 => ckB (r1) (some r1)
set_option maxRecDepth 20000 in
theorem wfX11_isAbout {X : XT} {D : va_G} {cI cT : ClassId} {ad : Nat → Nat} {F : Nat} {σ : St} {a0 : Int32} {r : Int32} (C : Cx X (gM D cI cT ad) cX11_isAbout 1 RX11 1 25 0) (hr : RetZ X (gM D cI cT ad) cX11_isAbout 1 0 r σ) (h : fX11_isAbout F σ a0 = some r) : WP X (gM D cI cT ad) 1 0 0 σ [(0, .int a0)] [] := by
  unfold fX11_isAbout at h
  refine w_iload_n C dX11_isAbout_0 rfl 0 rfl ?_
  refine w_i2l C dX11_isAbout_1 rfl ?_
  refine w_lconst C 0 dX11_isAbout_2 rfl (by decide) ?_
  refine w_ldc2 C (7) dX11_isAbout_3 rfl tw8_132 ?_
  refine bd1_w h (fun r1 hc h => ?_)
  refine w_callSi C (n := 3) (As := [.long (Int32.toInt64 a0), .long 0, .long 7]) (st := []) (cfX11_isIn D cI cT ad (l := X.2.1) C.2.2.1 hc) tw8_99 cs_X11_isIn (by decide +kernel) ⟨Nat.le_of_ble_eq_true rfl, Nat.le_of_ble_eq_true rfl⟩ (by decide) rfl rfl (Nat.le_of_ble_eq_true rfl) dX11_isAbout_6 rfl ?_
  obtain ⟨hz, h⟩ := ckB_w h
  exact w_rz1 hr hz h (by decide) dX11_isAbout_9
theorem cfX11_isAbout (D : va_G) (cI cT : ClassId) (ad : Nat → Nat) {l : Launch} (had : gAp (gM D cI cT ad)) {F : Nat} {σ : St} {a0 : Int32} {r : Int32} (h : fX11_isAbout F σ a0 = some r) : MI l yX11_isAbout (wB yX11_isAbout cX11_isAbout 1 (some .boolean)) 1 25 (gM D cI cT ad) [.int a0] σ r σ := mk_MZ had (by decide +kernel) (Nat.le_of_ble_eq_true rfl) (fun X hX C hr => wfX11_isAbout C hr h)

def fX11_feed (F : Nat) (σ : St) (a0 : Int32) (a1 : Int32) (a2 : Int32) (a3 : Int32) (a4 : Int32) : Option (Int32 × St) := nm (up σ 0 4 0) fun u2 => if ((u2 0 18) + 20) ≤ (700 : Int32) then (lp (fun (K4 : (St × Int32) → Option (Int32 × St)) (v3 : St × Int32) => if (20 : Int32) ≤ v3.2 then (some (v3.1 0 18, v3.1)) else jn (fun v6 : Int32 => ckI (v3.1 0 18) 700 (nm (up v3.1 17 (Int32.toNatClampNeg (v3.1 0 18)) ((v6 >>> ((24 - (8 * (v3.2 - v3.2 / 4 * 4))) &&& 31)) &&& 255)) fun u9 => nm (up u9 0 18 ((u9 0 18) + 1)) fun u11 => K4 ((u11, v3.2 + 1)))) fun J7 => if (4 : Int32) ≤ v3.2 then (if (8 : Int32) ≤ v3.2 then (if (12 : Int32) ≤ v3.2 then (if (16 : Int32) ≤ v3.2 then (J7 a4) else J7 a3) else J7 a2) else J7 a1) else J7 a0) F ((u2, 0))) else some ((-1), u2)
set_option maxRecDepth 20000 in
theorem wfX11_feed {X : XT} {D : va_G} {cI cT : ClassId} {ad : Nat → Nat} {F : Nat} {σ : St} {a0 : Int32} {a1 : Int32} {a2 : Int32} {a3 : Int32} {a4 : Int32} {r : Int32} {σ' : St} (C : Cx X (gM D cI cT ad) cX11_feed 8 RX11 0 0 0) (hr : RetI X (gM D cI cT ad) cX11_feed 8 0 r σ') (h : fX11_feed F σ a0 a1 a2 a3 a4 = some (r, σ')) : WP X (gM D cI cT ad) 8 0 0 σ [(0, .ref (ad 0)), (1, .int a0), (2, .int a1), (3, .int a2), (4, .int a3), (5, .int a4)] [] := by
  unfold fX11_feed at h
  refine w_aload_n C dX11_feed_0 rfl 0 rfl ?_
  refine w_iconst C 0 dX11_feed_1 rfl (by decide) ?_
  refine w_put C 0 4 0 (Nat.le_of_ble_eq_true rfl) rfl rfl inB_X11 tyX11_ok nmX11 (by decide) tw6_165 rfl rfl rfl (Nat.le_of_ble_eq_true rfl) rfl dX11_feed_2 rfl ?_
  refine w_nst h (fun u2 h => ?_)
  refine w_aload_n C dX11_feed_5 rfl 0 rfl ?_
  refine w_get C 0 18 (Nat.le_of_ble_eq_true rfl) rfl rfl inB_X11 (by decide) tw6_179 rfl dX11_feed_6 rfl ?_
  refine w_bipush C 20 dX11_feed_9 rfl (by decide) ?_
  refine w_iadd C dX11_feed_11 rfl ?_
  refine w_sipush C 700 dX11_feed_12 rfl (by decide) ?_
  refine w_icmp_le C (qt := 20) dX11_feed_15 (by decide) rfl h (fun _ h => ?_) (fun _ h => ?_)
  · refine w_iconst C 0 dX11_feed_20 rfl (by decide) ?_
    refine w_istore C [(6, .int 0), (0, .ref (ad 0)), (1, .int a0), (2, .int a1), (3, .int a2), (4, .int a3), (5, .int a4)] dX11_feed_21 rfl (by decide) rfl ?_
    refine w_sub (lv' := [(6, .int 0), (0, .ref (ad 0)), (1, .int a0), (2, .int a1), (3, .int a2), (4, .int a3), (5, .int a4)]) [0, 1, 2, 3, 4, 5, 6] rfl ?_
    refine lp_w (fun v3 : St × Int32 => WP X (gM D cI cT ad) 8 0 23 v3.1 [(6, .int v3.2), (0, .ref (ad 0)), (1, .int a0), (2, .int a1), (3, .int a2), (4, .int a3), (5, .int a4)] []) (fun K4 hK5 v3 h => ?_) F _ h
    refine w_iload C dX11_feed_23 rfl 0 rfl ?_
    refine w_bipush C 20 dX11_feed_25 rfl (by decide) ?_
    refine w_icmp_ge C (qt := 120) dX11_feed_27 (by decide) rfl h (fun _ h => ?_) (fun _ h => ?_)
    · refine w_aload_n C dX11_feed_120 rfl 1 rfl ?_
      refine w_get C 0 18 (Nat.le_of_ble_eq_true rfl) rfl rfl inB_X11 (by decide) tw6_179 rfl dX11_feed_121 rfl ?_
      exact w_ri2 hr h (by decide) dX11_feed_124
    · refine w_iload C dX11_feed_30 rfl 0 rfl ?_
      refine w_iconst C 4 dX11_feed_32 rfl (by decide) ?_
      refine jn_w (fun v6 : Int32 => WP X (gM D cI cT ad) 8 0 76 v3.1 [(6, .int v3.2), (0, .ref (ad 0)), (1, .int a0), (2, .int a1), (3, .int a2), (4, .int a3), (5, .int a4)] [.int v6]) h (fun v6 h => ?_) (fun J7 hJ8 h => ?_)
      · refine w_istore C [(7, .int v6), (6, .int v3.2), (0, .ref (ad 0)), (1, .int a0), (2, .int a1), (3, .int a2), (4, .int a3), (5, .int a4)] dX11_feed_76 rfl (by decide) rfl ?_
        refine w_aload_n C dX11_feed_78 rfl 2 rfl ?_
        refine w_get C 0 17 (Nat.le_of_ble_eq_true rfl) rfl rfl inB_X11 (by decide) tw6_178 rfl dX11_feed_79 rfl ?_
        refine w_aload_n C dX11_feed_82 rfl 2 rfl ?_
        refine w_get C 0 18 (Nat.le_of_ble_eq_true rfl) rfl rfl inB_X11 (by decide) tw6_179 rfl dX11_feed_83 rfl ?_
        refine w_iload C dX11_feed_86 rfl 0 rfl ?_
        refine w_bipush C 24 dX11_feed_88 rfl (by decide) ?_
        refine w_bipush C 8 dX11_feed_90 rfl (by decide) ?_
        refine w_iload C dX11_feed_92 rfl 1 rfl ?_
        refine w_iconst C 4 dX11_feed_94 rfl (by decide) ?_
        refine w_irem C (by decide) dX11_feed_95 rfl ?_
        refine w_imul C dX11_feed_96 rfl ?_
        refine w_isub C dX11_feed_97 rfl ?_
        refine w_ishr C dX11_feed_98 rfl ?_
        refine w_sipush C 255 dX11_feed_99 rfl (by decide) ?_
        refine w_iand C dX11_feed_102 rfl ?_
        refine w_iast C 17 700 0 (Nat.le_of_ble_eq_true rfl) (fun _ => rfl) rfl h dX11_feed_103 rfl (fun h => ?_)
        refine w_nst h (fun u9 h => ?_)
        refine w_aload_n C dX11_feed_104 rfl 2 rfl ?_
        refine w_dup C rfl dX11_feed_105 rfl ?_
        refine w_get C 0 18 (Nat.le_of_ble_eq_true rfl) rfl rfl inB_X11 (by decide) tw6_179 rfl dX11_feed_106 rfl ?_
        refine w_iconst C 1 dX11_feed_109 rfl (by decide) ?_
        refine w_iadd C dX11_feed_110 rfl ?_
        refine w_put C 0 18 ((u9 0 18) + 1) (Nat.le_of_ble_eq_true rfl) rfl rfl inB_X11 tyX11_ok nmX11 (by decide) tw6_179 rfl rfl rfl (Nat.le_of_ble_eq_true rfl) rfl dX11_feed_111 rfl ?_
        refine w_nst h (fun u11 h => ?_)
        refine w_iinc (j := 1) C (v3.2 + 1) [(6, .int (v3.2 + 1)), (7, .int v6), (0, .ref (ad 0)), (1, .int a0), (2, .int a1), (3, .int a2), (4, .int a3), (5, .int a4)] dX11_feed_114 rfl rfl rfl (by decide) rfl ?_
        refine w_goto (q := 23) C dX11_feed_117 (by decide) ?_
        exact w_sub (lv' := [(6, .int (v3.2 + 1)), (0, .ref (ad 0)), (1, .int a0), (2, .int a1), (3, .int a2), (4, .int a3), (5, .int a4)]) [0, 2, 3, 4, 5, 6, 7] rfl (hK5 ((u11, v3.2 + 1)) h)
      · refine w_icmp_ge C (qt := 40) dX11_feed_33 (by decide) rfl h (fun _ h => ?_) (fun _ h => ?_)
        · refine w_iload C dX11_feed_40 rfl 0 rfl ?_
          refine w_bipush C 8 dX11_feed_42 rfl (by decide) ?_
          refine w_icmp_ge C (qt := 51) dX11_feed_44 (by decide) rfl h (fun _ h => ?_) (fun _ h => ?_)
          · refine w_iload C dX11_feed_51 rfl 0 rfl ?_
            refine w_bipush C 12 dX11_feed_53 rfl (by decide) ?_
            refine w_icmp_ge C (qt := 62) dX11_feed_55 (by decide) rfl h (fun _ h => ?_) (fun _ h => ?_)
            · refine w_iload C dX11_feed_62 rfl 0 rfl ?_
              refine w_bipush C 16 dX11_feed_64 rfl (by decide) ?_
              refine w_icmp_ge C (qt := 74) dX11_feed_66 (by decide) rfl h (fun _ h => ?_) (fun _ h => ?_)
              · refine w_iload C dX11_feed_74 rfl 6 rfl ?_
                exact w_sub (lv' := [(6, .int v3.2), (0, .ref (ad 0)), (1, .int a0), (2, .int a1), (3, .int a2), (4, .int a3), (5, .int a4)]) [0, 1, 2, 3, 4, 5, 6] rfl (hJ8 a4 h)
              · refine w_iload C dX11_feed_69 rfl 5 rfl ?_
                refine w_goto (q := 76) C dX11_feed_71 (by decide) ?_
                exact w_sub (lv' := [(6, .int v3.2), (0, .ref (ad 0)), (1, .int a0), (2, .int a1), (3, .int a2), (4, .int a3), (5, .int a4)]) [0, 1, 2, 3, 4, 5, 6] rfl (hJ8 a3 h)
            · refine w_iload_n C dX11_feed_58 rfl 4 rfl ?_
              refine w_goto (q := 76) C dX11_feed_59 (by decide) ?_
              exact w_sub (lv' := [(6, .int v3.2), (0, .ref (ad 0)), (1, .int a0), (2, .int a1), (3, .int a2), (4, .int a3), (5, .int a4)]) [0, 1, 2, 3, 4, 5, 6] rfl (hJ8 a2 h)
          · refine w_iload_n C dX11_feed_47 rfl 3 rfl ?_
            refine w_goto (q := 76) C dX11_feed_48 (by decide) ?_
            exact w_sub (lv' := [(6, .int v3.2), (0, .ref (ad 0)), (1, .int a0), (2, .int a1), (3, .int a2), (4, .int a3), (5, .int a4)]) [0, 1, 2, 3, 4, 5, 6] rfl (hJ8 a1 h)
        · refine w_iload_n C dX11_feed_36 rfl 2 rfl ?_
          refine w_goto (q := 76) C dX11_feed_37 (by decide) ?_
          exact w_sub (lv' := [(6, .int v3.2), (0, .ref (ad 0)), (1, .int a0), (2, .int a1), (3, .int a2), (4, .int a3), (5, .int a4)]) [0, 1, 2, 3, 4, 5, 6] rfl (hJ8 a0 h)
  · refine w_iconst C (-1) dX11_feed_18 rfl (by decide) ?_
    exact w_ri2 hr h (by decide) dX11_feed_19
theorem cfX11_feed (D : va_G) (cI cT : ClassId) (ad : Nat → Nat) {l : Launch} (had : gAp (gM D cI cT ad)) {F : Nat} {σ : St} {a0 : Int32} {a1 : Int32} {a2 : Int32} {a3 : Int32} {a4 : Int32} {r : Int32} {σ' : St} (h : fX11_feed F σ a0 a1 a2 a3 a4 = some (r, σ')) : MI l yX11_feed (wB yX11_feed cX11_feed 8 (some .int)) 0 0 (gM D cI cT ad) [.ref (ad 0), .int a0, .int a1, .int a2, .int a3, .int a4] σ r σ' := mk_MI had (by decide +kernel) (Nat.le_of_ble_eq_true rfl) (fun X hX C hr => wfX11_feed C hr h)

def fX11_byteAt (F : Nat) (σ : St) (a0 : Int32) : Option Int32 := if (σ 0 20) ≤ a0 then (some ((-1))) else ckI (a0) 700 (some (σ 17 (Int32.toNatClampNeg a0)))
set_option maxRecDepth 20000 in
theorem wfX11_byteAt {X : XT} {D : va_G} {cI cT : ClassId} {ad : Nat → Nat} {F : Nat} {σ : St} {a0 : Int32} {r : Int32} (C : Cx X (gM D cI cT ad) cX11_byteAt 2 RX11 0 0 0) (hr : RetI X (gM D cI cT ad) cX11_byteAt 2 0 r σ) (h : fX11_byteAt F σ a0 = some r) : WP X (gM D cI cT ad) 2 0 0 σ [(0, .ref (ad 0)), (1, .int a0)] [] := by
  unfold fX11_byteAt at h
  refine w_iload_n C dX11_byteAt_0 rfl 1 rfl ?_
  refine w_aload_n C dX11_byteAt_1 rfl 0 rfl ?_
  refine w_get C 0 20 (Nat.le_of_ble_eq_true rfl) rfl rfl inB_X11 (by decide) tw6_181 rfl dX11_byteAt_2 rfl ?_
  refine w_icmp_ge C (qt := 17) dX11_byteAt_5 (by decide) rfl h (fun _ h => ?_) (fun _ h => ?_)
  · refine w_iconst C (-1) dX11_byteAt_17 rfl (by decide) ?_
    exact w_ri1 hr h (by decide) dX11_byteAt_18
  · refine w_aload_n C dX11_byteAt_8 rfl 0 rfl ?_
    refine w_get C 0 17 (Nat.le_of_ble_eq_true rfl) rfl rfl inB_X11 (by decide) tw6_178 rfl dX11_byteAt_9 rfl ?_
    refine w_iload_n C dX11_byteAt_12 rfl 1 rfl ?_
    refine w_iald C 17 700 0 (Nat.le_of_ble_eq_true rfl) (fun _ => rfl) rfl h dX11_byteAt_13 rfl (fun h => ?_)
    refine w_goto (q := 18) C dX11_byteAt_14 (by decide) ?_
    exact w_ri1 hr h (by decide) dX11_byteAt_18
theorem cfX11_byteAt (D : va_G) (cI cT : ClassId) (ad : Nat → Nat) {l : Launch} (had : gAp (gM D cI cT ad)) {F : Nat} {σ : St} {a0 : Int32} {r : Int32} (h : fX11_byteAt F σ a0 = some r) : MI l yX11_byteAt (wB yX11_byteAt cX11_byteAt 2 (some .int)) 0 0 (gM D cI cT ad) [.ref (ad 0), .int a0] σ r σ := mk_MI had (by decide +kernel) (Nat.le_of_ble_eq_true rfl) (fun X hX C hr => wfX11_byteAt C hr h)

def fX11_isLetter (F : Nat) (σ : St) (a0 : Int32) : Option Int32 := if a0 < (97 : Int32) then (some 0) else if (122 : Int32) < a0 then (some 0) else some 1
set_option maxRecDepth 20000 in
theorem wfX11_isLetter {X : XT} {D : va_G} {cI cT : ClassId} {ad : Nat → Nat} {F : Nat} {σ : St} {a0 : Int32} {r : Int32} (C : Cx X (gM D cI cT ad) cX11_isLetter 1 RX11 0 0 0) (hr : RetZ X (gM D cI cT ad) cX11_isLetter 1 0 r σ) (h : fX11_isLetter F σ a0 = some r) : WP X (gM D cI cT ad) 1 0 0 σ [(0, .int a0)] [] := by
  unfold fX11_isLetter at h
  refine w_iload_n C dX11_isLetter_0 rfl 0 rfl ?_
  refine w_bipush C 97 dX11_isLetter_1 rfl (by decide) ?_
  refine w_icmp_lt C (qt := 16) dX11_isLetter_3 (by decide) rfl h (fun _ h => ?_) (fun _ h => ?_)
  · refine w_iconst C 0 dX11_isLetter_16 rfl (by decide) ?_
    exact w_rz1 hr (by decide) h (by decide) dX11_isLetter_17
  · refine w_iload_n C dX11_isLetter_6 rfl 0 rfl ?_
    refine w_bipush C 122 dX11_isLetter_7 rfl (by decide) ?_
    refine w_icmp_gt C (qt := 16) dX11_isLetter_9 (by decide) rfl h (fun _ h => ?_) (fun _ h => ?_)
    · refine w_iconst C 0 dX11_isLetter_16 rfl (by decide) ?_
      exact w_rz1 hr (by decide) h (by decide) dX11_isLetter_17
    · refine w_iconst C 1 dX11_isLetter_12 rfl (by decide) ?_
      refine w_goto (q := 17) C dX11_isLetter_13 (by decide) ?_
      exact w_rz1 hr (by decide) h (by decide) dX11_isLetter_17
theorem cfX11_isLetter (D : va_G) (cI cT : ClassId) (ad : Nat → Nat) {l : Launch} (had : gAp (gM D cI cT ad)) {F : Nat} {σ : St} {a0 : Int32} {r : Int32} (h : fX11_isLetter F σ a0 = some r) : MI l yX11_isLetter (wB yX11_isLetter cX11_isLetter 1 (some .boolean)) 0 0 (gM D cI cT ad) [.int a0] σ r σ := mk_MZ had (by decide +kernel) (Nat.le_of_ble_eq_true rfl) (fun X hX C hr => wfX11_isLetter C hr h)

def fX11_isDigit (F : Nat) (σ : St) (a0 : Int32) : Option Int32 := if a0 < (48 : Int32) then (some 0) else if (57 : Int32) < a0 then (some 0) else some 1
set_option maxRecDepth 20000 in
theorem wfX11_isDigit {X : XT} {D : va_G} {cI cT : ClassId} {ad : Nat → Nat} {F : Nat} {σ : St} {a0 : Int32} {r : Int32} (C : Cx X (gM D cI cT ad) cX11_isDigit 1 RX11 0 0 0) (hr : RetZ X (gM D cI cT ad) cX11_isDigit 1 0 r σ) (h : fX11_isDigit F σ a0 = some r) : WP X (gM D cI cT ad) 1 0 0 σ [(0, .int a0)] [] := by
  unfold fX11_isDigit at h
  refine w_iload_n C dX11_isDigit_0 rfl 0 rfl ?_
  refine w_bipush C 48 dX11_isDigit_1 rfl (by decide) ?_
  refine w_icmp_lt C (qt := 16) dX11_isDigit_3 (by decide) rfl h (fun _ h => ?_) (fun _ h => ?_)
  · refine w_iconst C 0 dX11_isDigit_16 rfl (by decide) ?_
    exact w_rz1 hr (by decide) h (by decide) dX11_isDigit_17
  · refine w_iload_n C dX11_isDigit_6 rfl 0 rfl ?_
    refine w_bipush C 57 dX11_isDigit_7 rfl (by decide) ?_
    refine w_icmp_gt C (qt := 16) dX11_isDigit_9 (by decide) rfl h (fun _ h => ?_) (fun _ h => ?_)
    · refine w_iconst C 0 dX11_isDigit_16 rfl (by decide) ?_
      exact w_rz1 hr (by decide) h (by decide) dX11_isDigit_17
    · refine w_iconst C 1 dX11_isDigit_12 rfl (by decide) ?_
      refine w_goto (q := 17) C dX11_isDigit_13 (by decide) ?_
      exact w_rz1 hr (by decide) h (by decide) dX11_isDigit_17
theorem cfX11_isDigit (D : va_G) (cI cT : ClassId) (ad : Nat → Nat) {l : Launch} (had : gAp (gM D cI cT ad)) {F : Nat} {σ : St} {a0 : Int32} {r : Int32} (h : fX11_isDigit F σ a0 = some r) : MI l yX11_isDigit (wB yX11_isDigit cX11_isDigit 1 (some .boolean)) 0 0 (gM D cI cT ad) [.int a0] σ r σ := mk_MZ had (by decide +kernel) (Nat.le_of_ble_eq_true rfl) (fun X hX C hr => wfX11_isDigit C hr h)

def fX11_isMark (F : Nat) (σ : St) (a0 : Int32) : Option Int32 := if a0 = (59 : Int32) then (some 1) else if a0 = (40 : Int32) then (some 1) else if a0 = (41 : Int32) then (some 1) else if a0 = (43 : Int32) then (some 1) else if a0 = (45 : Int32) then (some 1) else if a0 = (42 : Int32) then (some 1) else if a0 = (47 : Int32) then (some 1) else if a0 = (60 : Int32) then (some 1) else if a0 = (61 : Int32) then (some 1) else some 0
set_option maxRecDepth 20000 in
theorem wfX11_isMark {X : XT} {D : va_G} {cI cT : ClassId} {ad : Nat → Nat} {F : Nat} {σ : St} {a0 : Int32} {r : Int32} (C : Cx X (gM D cI cT ad) cX11_isMark 1 RX11 0 0 0) (hr : RetZ X (gM D cI cT ad) cX11_isMark 1 0 r σ) (h : fX11_isMark F σ a0 = some r) : WP X (gM D cI cT ad) 1 0 0 σ [(0, .int a0)] [] := by
  unfold fX11_isMark at h
  refine w_iload_n C dX11_isMark_0 rfl 0 rfl ?_
  refine w_bipush C 59 dX11_isMark_1 rfl (by decide) ?_
  refine w_icmp_eq C (qt := 54) dX11_isMark_3 (by decide) rfl h (fun _ h => ?_) (fun _ h => ?_)
  · refine w_iconst C 1 dX11_isMark_54 rfl (by decide) ?_
    refine w_goto (q := 59) C dX11_isMark_55 (by decide) ?_
    exact w_rz1 hr (by decide) h (by decide) dX11_isMark_59
  · refine w_iload_n C dX11_isMark_6 rfl 0 rfl ?_
    refine w_bipush C 40 dX11_isMark_7 rfl (by decide) ?_
    refine w_icmp_eq C (qt := 54) dX11_isMark_9 (by decide) rfl h (fun _ h => ?_) (fun _ h => ?_)
    · refine w_iconst C 1 dX11_isMark_54 rfl (by decide) ?_
      refine w_goto (q := 59) C dX11_isMark_55 (by decide) ?_
      exact w_rz1 hr (by decide) h (by decide) dX11_isMark_59
    · refine w_iload_n C dX11_isMark_12 rfl 0 rfl ?_
      refine w_bipush C 41 dX11_isMark_13 rfl (by decide) ?_
      refine w_icmp_eq C (qt := 54) dX11_isMark_15 (by decide) rfl h (fun _ h => ?_) (fun _ h => ?_)
      · refine w_iconst C 1 dX11_isMark_54 rfl (by decide) ?_
        refine w_goto (q := 59) C dX11_isMark_55 (by decide) ?_
        exact w_rz1 hr (by decide) h (by decide) dX11_isMark_59
      · refine w_iload_n C dX11_isMark_18 rfl 0 rfl ?_
        refine w_bipush C 43 dX11_isMark_19 rfl (by decide) ?_
        refine w_icmp_eq C (qt := 54) dX11_isMark_21 (by decide) rfl h (fun _ h => ?_) (fun _ h => ?_)
        · refine w_iconst C 1 dX11_isMark_54 rfl (by decide) ?_
          refine w_goto (q := 59) C dX11_isMark_55 (by decide) ?_
          exact w_rz1 hr (by decide) h (by decide) dX11_isMark_59
        · refine w_iload_n C dX11_isMark_24 rfl 0 rfl ?_
          refine w_bipush C 45 dX11_isMark_25 rfl (by decide) ?_
          refine w_icmp_eq C (qt := 54) dX11_isMark_27 (by decide) rfl h (fun _ h => ?_) (fun _ h => ?_)
          · refine w_iconst C 1 dX11_isMark_54 rfl (by decide) ?_
            refine w_goto (q := 59) C dX11_isMark_55 (by decide) ?_
            exact w_rz1 hr (by decide) h (by decide) dX11_isMark_59
          · refine w_iload_n C dX11_isMark_30 rfl 0 rfl ?_
            refine w_bipush C 42 dX11_isMark_31 rfl (by decide) ?_
            refine w_icmp_eq C (qt := 54) dX11_isMark_33 (by decide) rfl h (fun _ h => ?_) (fun _ h => ?_)
            · refine w_iconst C 1 dX11_isMark_54 rfl (by decide) ?_
              refine w_goto (q := 59) C dX11_isMark_55 (by decide) ?_
              exact w_rz1 hr (by decide) h (by decide) dX11_isMark_59
            · refine w_iload_n C dX11_isMark_36 rfl 0 rfl ?_
              refine w_bipush C 47 dX11_isMark_37 rfl (by decide) ?_
              refine w_icmp_eq C (qt := 54) dX11_isMark_39 (by decide) rfl h (fun _ h => ?_) (fun _ h => ?_)
              · refine w_iconst C 1 dX11_isMark_54 rfl (by decide) ?_
                refine w_goto (q := 59) C dX11_isMark_55 (by decide) ?_
                exact w_rz1 hr (by decide) h (by decide) dX11_isMark_59
              · refine w_iload_n C dX11_isMark_42 rfl 0 rfl ?_
                refine w_bipush C 60 dX11_isMark_43 rfl (by decide) ?_
                refine w_icmp_eq C (qt := 54) dX11_isMark_45 (by decide) rfl h (fun _ h => ?_) (fun _ h => ?_)
                · refine w_iconst C 1 dX11_isMark_54 rfl (by decide) ?_
                  refine w_goto (q := 59) C dX11_isMark_55 (by decide) ?_
                  exact w_rz1 hr (by decide) h (by decide) dX11_isMark_59
                · refine w_iload_n C dX11_isMark_48 rfl 0 rfl ?_
                  refine w_bipush C 61 dX11_isMark_49 rfl (by decide) ?_
                  refine w_icmp_ne C (qt := 58) dX11_isMark_51 (by decide) rfl h (fun _ h => ?_) (fun _ h => ?_)
                  · refine w_iconst C 0 dX11_isMark_58 rfl (by decide) ?_
                    exact w_rz1 hr (by decide) h (by decide) dX11_isMark_59
                  · refine w_iconst C 1 dX11_isMark_54 rfl (by decide) ?_
                    refine w_goto (q := 59) C dX11_isMark_55 (by decide) ?_
                    exact w_rz1 hr (by decide) h (by decide) dX11_isMark_59
theorem cfX11_isMark (D : va_G) (cI cT : ClassId) (ad : Nat → Nat) {l : Launch} (had : gAp (gM D cI cT ad)) {F : Nat} {σ : St} {a0 : Int32} {r : Int32} (h : fX11_isMark F σ a0 = some r) : MI l yX11_isMark (wB yX11_isMark cX11_isMark 1 (some .boolean)) 0 0 (gM D cI cT ad) [.int a0] σ r σ := mk_MZ had (by decide +kernel) (Nat.le_of_ble_eq_true rfl) (fun X hX C hr => wfX11_isMark C hr h)

def fX11_stepOn (F : Nat) (σ : St) : Option St := lp (fun (K2 : St → Option St) (v1 : St) => bd1 (fX11_byteAt F v1 (v1 0 19)) fun r4 => if r4 = (32 : Int32) then (nm (up v1 0 19 ((v1 0 19) + 1)) fun u6 => K2 u6) else bd1 (fX11_byteAt F v1 (v1 0 19)) fun r7 => if r7 = (10 : Int32) then (nm (up v1 0 19 ((v1 0 19) + 1)) fun u56 => K2 u56) else nm (up v1 0 23 (v1 0 19)) fun u9 => bd1 (fX11_byteAt F u9 (u9 0 19)) fun r10 => if r10 = (-1 : Int32) then (nm (up u9 0 21 0) fun u52 => nm (up u52 0 24 (u52 0 19)) fun u54 => some u54) else bd1 (fX11_isLetter F u9 r10) fun r11 => if r11 = 0 then (bd1 (fX11_isDigit F u9 r10) fun r12 => if r12 = 0 then (nm (up u9 0 19 ((u9 0 19) + 1)) fun u14 => bd1 (fX11_isMark F u14 r10) fun r15 => if r15 = 0 then (nm (up u14 0 21 4) fun u17 => nm (up u17 0 24 (u17 0 19)) fun u19 => some u19) else nm (up u14 0 21 3) fun u21 => nm (up u21 0 24 (u21 0 19)) fun u23 => some u23) else nm (up u9 0 22 0) fun u25 => lp (fun (K27 : St → Option St) (v26 : St) => bd1 (fX11_byteAt F v26 (v26 0 19)) fun r29 => bd1 (fX11_isDigit F v26 r29) fun r30 => if r30 = 0 then (nm (up v26 0 21 2) fun u32 => nm (up u32 0 24 (u32 0 19)) fun u34 => some u34) else bd1 (fX11_byteAt F v26 (v26 0 19)) fun r35 => nm (up v26 0 22 (if (((10 * (v26 0 22)) + r35) - 48) < 100000 then (((10 * (v26 0 22)) + r35) - 48) else 100000)) fun u37 => nm (up u37 0 19 ((u37 0 19) + 1)) fun u39 => K27 u39) F u25) else lp (fun (K41 : St → Option St) (v40 : St) => bd1 (fX11_byteAt F v40 (v40 0 19)) fun r43 => bd1 (fX11_isLetter F v40 r43) fun r44 => if r44 = 0 then (nm (up v40 0 21 1) fun u46 => nm (up u46 0 24 (u46 0 19)) fun u48 => some u48) else nm (up v40 0 19 ((v40 0 19) + 1)) fun u50 => K41 u50) F u9) F σ
set_option maxRecDepth 20000 in
theorem wfX11_stepOn {X : XT} {D : va_G} {cI cT : ClassId} {ad : Nat → Nat} {F : Nat} {σ : St}  {σ' : St} (C : Cx X (gM D cI cT ad) cX11_stepOn 2 RX11 1 21 0) (hr : RetV X (gM D cI cT ad) cX11_stepOn 2 0 σ') (h : fX11_stepOn F σ = some σ') : WP X (gM D cI cT ad) 2 0 0 σ [(0, .ref (ad 0))] [] := by
  unfold fX11_stepOn at h
  refine w_sub (lv' := [(0, .ref (ad 0))]) [0] rfl ?_
  refine lp_w (fun v1 : St => WP X (gM D cI cT ad) 2 0 0 v1 [(0, .ref (ad 0))] []) (fun K2 hK3 v1 h => ?_) F _ h
  refine w_aload_n C dX11_stepOn_0 rfl 0 rfl ?_
  refine w_aload_n C dX11_stepOn_1 rfl 0 rfl ?_
  refine w_get C 0 19 (Nat.le_of_ble_eq_true rfl) rfl rfl inB_X11 (by decide) tw6_180 rfl dX11_stepOn_2 rfl ?_
  refine bd1_w h (fun r4 hc h => ?_)
  refine w_callVi C (n := 1) (As := [.int (v1 0 19)]) (st := []) 0 (Nat.le_of_ble_eq_true rfl) rfl rfl (cfX11_byteAt D cI cT ad (l := X.2.1) C.2.2.1 hc) tw7_125 cy_X11_byteAt (by decide +kernel) ⟨Nat.le_of_ble_eq_true rfl, Nat.le_of_ble_eq_true rfl⟩ (by decide) rfl rfl (Nat.le_of_ble_eq_true rfl) dX11_stepOn_5 rfl ?_
  refine w_bipush C 32 dX11_stepOn_8 rfl (by decide) ?_
  refine w_icmp_eq C (qt := 26) dX11_stepOn_10 (by decide) rfl h (fun _ h => ?_) (fun _ h => ?_)
  · refine w_aload_n C dX11_stepOn_26 rfl 0 rfl ?_
    refine w_dup C rfl dX11_stepOn_27 rfl ?_
    refine w_get C 0 19 (Nat.le_of_ble_eq_true rfl) rfl rfl inB_X11 (by decide) tw6_180 rfl dX11_stepOn_28 rfl ?_
    refine w_iconst C 1 dX11_stepOn_31 rfl (by decide) ?_
    refine w_iadd C dX11_stepOn_32 rfl ?_
    refine w_put C 0 19 ((v1 0 19) + 1) (Nat.le_of_ble_eq_true rfl) rfl rfl inB_X11 tyX11_ok nmX11 (by decide) tw6_180 rfl rfl rfl (Nat.le_of_ble_eq_true rfl) rfl dX11_stepOn_33 rfl ?_
    refine w_nst h (fun u6 h => ?_)
    refine w_goto (q := 0) C dX11_stepOn_36 (by decide) ?_
    exact w_sub (lv' := [(0, .ref (ad 0))]) [0] rfl (hK3 u6 h)
  · refine w_aload_n C dX11_stepOn_13 rfl 0 rfl ?_
    refine w_aload_n C dX11_stepOn_14 rfl 0 rfl ?_
    refine w_get C 0 19 (Nat.le_of_ble_eq_true rfl) rfl rfl inB_X11 (by decide) tw6_180 rfl dX11_stepOn_15 rfl ?_
    refine bd1_w h (fun r7 hc h => ?_)
    refine w_callVi C (n := 1) (As := [.int (v1 0 19)]) (st := []) 0 (Nat.le_of_ble_eq_true rfl) rfl rfl (cfX11_byteAt D cI cT ad (l := X.2.1) C.2.2.1 hc) tw7_125 cy_X11_byteAt (by decide +kernel) ⟨Nat.le_of_ble_eq_true rfl, Nat.le_of_ble_eq_true rfl⟩ (by decide) rfl rfl (Nat.le_of_ble_eq_true rfl) dX11_stepOn_18 rfl ?_
    refine w_bipush C 10 dX11_stepOn_21 rfl (by decide) ?_
    refine w_icmp_ne C (qt := 39) dX11_stepOn_23 (by decide) rfl h (fun _ h => ?_) (fun _ h => ?_)
    · refine w_aload_n C dX11_stepOn_39 rfl 0 rfl ?_
      refine w_aload_n C dX11_stepOn_40 rfl 0 rfl ?_
      refine w_get C 0 19 (Nat.le_of_ble_eq_true rfl) rfl rfl inB_X11 (by decide) tw6_180 rfl dX11_stepOn_41 rfl ?_
      refine w_put C 0 23 (v1 0 19) (Nat.le_of_ble_eq_true rfl) rfl rfl inB_X11 tyX11_ok nmX11 (by decide) tw6_184 rfl rfl rfl (Nat.le_of_ble_eq_true rfl) rfl dX11_stepOn_44 rfl ?_
      refine w_nst h (fun u9 h => ?_)
      refine w_aload_n C dX11_stepOn_47 rfl 0 rfl ?_
      refine w_aload_n C dX11_stepOn_48 rfl 0 rfl ?_
      refine w_get C 0 19 (Nat.le_of_ble_eq_true rfl) rfl rfl inB_X11 (by decide) tw6_180 rfl dX11_stepOn_49 rfl ?_
      refine bd1_w h (fun r10 hc h => ?_)
      refine w_callVi C (n := 1) (As := [.int (u9 0 19)]) (st := []) 0 (Nat.le_of_ble_eq_true rfl) rfl rfl (cfX11_byteAt D cI cT ad (l := X.2.1) C.2.2.1 hc) tw7_125 cy_X11_byteAt (by decide +kernel) ⟨Nat.le_of_ble_eq_true rfl, Nat.le_of_ble_eq_true rfl⟩ (by decide) rfl rfl (Nat.le_of_ble_eq_true rfl) dX11_stepOn_52 rfl ?_
      refine w_istore_n C [(1, .int r10), (0, .ref (ad 0))] dX11_stepOn_55 rfl (by decide) rfl ?_
      refine w_iload_n C dX11_stepOn_56 rfl 0 rfl ?_
      refine w_iconst C (-1) dX11_stepOn_57 rfl (by decide) ?_
      refine w_icmp_ne C (qt := 69) dX11_stepOn_58 (by decide) rfl h (fun _ h => ?_) (fun _ h => ?_)
      · refine w_iload_n C dX11_stepOn_69 rfl 0 rfl ?_
        refine bd1_w h (fun r11 hc h => ?_)
        refine w_callSi C (n := 1) (As := [.int r10]) (st := []) (cfX11_isLetter D cI cT ad (l := X.2.1) C.2.2.1 hc) tw7_129 cs_X11_isLetter (by decide +kernel) ⟨Nat.le_of_ble_eq_true rfl, Nat.le_of_ble_eq_true rfl⟩ (by decide) rfl rfl (Nat.le_of_ble_eq_true rfl) dX11_stepOn_70 rfl ?_
        refine w_if_eq C (qt := 111) dX11_stepOn_73 (by decide) rfl h (fun _ h => ?_) (fun _ h => ?_)
        · refine w_iload_n C dX11_stepOn_111 rfl 0 rfl ?_
          refine bd1_w h (fun r12 hc h => ?_)
          refine w_callSi C (n := 1) (As := [.int r10]) (st := []) (cfX11_isDigit D cI cT ad (l := X.2.1) C.2.2.1 hc) tw7_132 cs_X11_isDigit (by decide +kernel) ⟨Nat.le_of_ble_eq_true rfl, Nat.le_of_ble_eq_true rfl⟩ (by decide) rfl rfl (Nat.le_of_ble_eq_true rfl) dX11_stepOn_112 rfl ?_
          refine w_if_eq C (qt := 186) dX11_stepOn_115 (by decide) rfl h (fun _ h => ?_) (fun _ h => ?_)
          · refine w_aload_n C dX11_stepOn_186 rfl 1 rfl ?_
            refine w_dup C rfl dX11_stepOn_187 rfl ?_
            refine w_get C 0 19 (Nat.le_of_ble_eq_true rfl) rfl rfl inB_X11 (by decide) tw6_180 rfl dX11_stepOn_188 rfl ?_
            refine w_iconst C 1 dX11_stepOn_191 rfl (by decide) ?_
            refine w_iadd C dX11_stepOn_192 rfl ?_
            refine w_put C 0 19 ((u9 0 19) + 1) (Nat.le_of_ble_eq_true rfl) rfl rfl inB_X11 tyX11_ok nmX11 (by decide) tw6_180 rfl rfl rfl (Nat.le_of_ble_eq_true rfl) rfl dX11_stepOn_193 rfl ?_
            refine w_nst h (fun u14 h => ?_)
            refine w_aload_n C dX11_stepOn_196 rfl 1 rfl ?_
            refine w_iload_n C dX11_stepOn_197 rfl 0 rfl ?_
            refine bd1_w h (fun r15 hc h => ?_)
            refine w_callSi C (n := 1) (As := [.int r10]) (st := [.ref (ad 0)]) (cfX11_isMark D cI cT ad (l := X.2.1) C.2.2.1 hc) tw7_137 cs_X11_isMark (by decide +kernel) ⟨Nat.le_of_ble_eq_true rfl, Nat.le_of_ble_eq_true rfl⟩ (by decide) rfl rfl (Nat.le_of_ble_eq_true rfl) dX11_stepOn_198 rfl ?_
            refine w_if_eq C (qt := 208) dX11_stepOn_201 (by decide) rfl h (fun _ h => ?_) (fun _ h => ?_)
            · refine w_iconst C 4 dX11_stepOn_208 rfl (by decide) ?_
              refine w_put C 0 21 4 (Nat.le_of_ble_eq_true rfl) rfl rfl inB_X11 tyX11_ok nmX11 (by decide) tw6_182 rfl rfl rfl (Nat.le_of_ble_eq_true rfl) rfl dX11_stepOn_209 rfl ?_
              refine w_nst h (fun u17 h => ?_)
              refine w_aload_n C dX11_stepOn_212 rfl 1 rfl ?_
              refine w_aload_n C dX11_stepOn_213 rfl 1 rfl ?_
              refine w_get C 0 19 (Nat.le_of_ble_eq_true rfl) rfl rfl inB_X11 (by decide) tw6_180 rfl dX11_stepOn_214 rfl ?_
              refine w_put C 0 24 (u17 0 19) (Nat.le_of_ble_eq_true rfl) rfl rfl inB_X11 tyX11_ok nmX11 (by decide) tw6_185 rfl rfl rfl (Nat.le_of_ble_eq_true rfl) rfl dX11_stepOn_217 rfl ?_
              refine w_nst h (fun u19 h => ?_)
              exact w_rv hr h (by decide) dX11_stepOn_220
            · refine w_iconst C 3 dX11_stepOn_204 rfl (by decide) ?_
              refine w_goto (q := 209) C dX11_stepOn_205 (by decide) ?_
              refine w_put C 0 21 3 (Nat.le_of_ble_eq_true rfl) rfl rfl inB_X11 tyX11_ok nmX11 (by decide) tw6_182 rfl rfl rfl (Nat.le_of_ble_eq_true rfl) rfl dX11_stepOn_209 rfl ?_
              refine w_nst h (fun u21 h => ?_)
              refine w_aload_n C dX11_stepOn_212 rfl 1 rfl ?_
              refine w_aload_n C dX11_stepOn_213 rfl 1 rfl ?_
              refine w_get C 0 19 (Nat.le_of_ble_eq_true rfl) rfl rfl inB_X11 (by decide) tw6_180 rfl dX11_stepOn_214 rfl ?_
              refine w_put C 0 24 (u21 0 19) (Nat.le_of_ble_eq_true rfl) rfl rfl inB_X11 tyX11_ok nmX11 (by decide) tw6_185 rfl rfl rfl (Nat.le_of_ble_eq_true rfl) rfl dX11_stepOn_217 rfl ?_
              refine w_nst h (fun u23 h => ?_)
              exact w_rv hr h (by decide) dX11_stepOn_220
          · refine w_aload_n C dX11_stepOn_118 rfl 1 rfl ?_
            refine w_iconst C 0 dX11_stepOn_119 rfl (by decide) ?_
            refine w_put C 0 22 0 (Nat.le_of_ble_eq_true rfl) rfl rfl inB_X11 tyX11_ok nmX11 (by decide) tw6_183 rfl rfl rfl (Nat.le_of_ble_eq_true rfl) rfl dX11_stepOn_120 rfl ?_
            refine w_nst h (fun u25 h => ?_)
            refine w_sub (lv' := [(0, .ref (ad 0))]) [1] rfl ?_
            refine lp_w (fun v26 : St => WP X (gM D cI cT ad) 2 0 123 v26 [(0, .ref (ad 0))] []) (fun K27 hK28 v26 h => ?_) F _ h
            refine w_aload_n C dX11_stepOn_123 rfl 0 rfl ?_
            refine w_aload_n C dX11_stepOn_124 rfl 0 rfl ?_
            refine w_get C 0 19 (Nat.le_of_ble_eq_true rfl) rfl rfl inB_X11 (by decide) tw6_180 rfl dX11_stepOn_125 rfl ?_
            refine bd1_w h (fun r29 hc h => ?_)
            refine w_callVi C (n := 1) (As := [.int (v26 0 19)]) (st := []) 0 (Nat.le_of_ble_eq_true rfl) rfl rfl (cfX11_byteAt D cI cT ad (l := X.2.1) C.2.2.1 hc) tw7_125 cy_X11_byteAt (by decide +kernel) ⟨Nat.le_of_ble_eq_true rfl, Nat.le_of_ble_eq_true rfl⟩ (by decide) rfl rfl (Nat.le_of_ble_eq_true rfl) dX11_stepOn_128 rfl ?_
            refine bd1_w h (fun r30 hc h => ?_)
            refine w_callSi C (n := 1) (As := [.int r29]) (st := []) (cfX11_isDigit D cI cT ad (l := X.2.1) C.2.2.1 hc) tw7_132 cs_X11_isDigit (by decide +kernel) ⟨Nat.le_of_ble_eq_true rfl, Nat.le_of_ble_eq_true rfl⟩ (by decide) rfl rfl (Nat.le_of_ble_eq_true rfl) dX11_stepOn_131 rfl ?_
            refine w_if_eq C (qt := 178) dX11_stepOn_134 (by decide) rfl h (fun _ h => ?_) (fun _ h => ?_)
            · refine w_aload_n C dX11_stepOn_178 rfl 0 rfl ?_
              refine w_iconst C 2 dX11_stepOn_179 rfl (by decide) ?_
              refine w_put C 0 21 2 (Nat.le_of_ble_eq_true rfl) rfl rfl inB_X11 tyX11_ok nmX11 (by decide) tw6_182 rfl rfl rfl (Nat.le_of_ble_eq_true rfl) rfl dX11_stepOn_180 rfl ?_
              refine w_nst h (fun u32 h => ?_)
              refine w_goto (q := 212) C dX11_stepOn_183 (by decide) ?_
              refine w_aload_n C dX11_stepOn_212 rfl 0 rfl ?_
              refine w_aload_n C dX11_stepOn_213 rfl 0 rfl ?_
              refine w_get C 0 19 (Nat.le_of_ble_eq_true rfl) rfl rfl inB_X11 (by decide) tw6_180 rfl dX11_stepOn_214 rfl ?_
              refine w_put C 0 24 (u32 0 19) (Nat.le_of_ble_eq_true rfl) rfl rfl inB_X11 tyX11_ok nmX11 (by decide) tw6_185 rfl rfl rfl (Nat.le_of_ble_eq_true rfl) rfl dX11_stepOn_217 rfl ?_
              refine w_nst h (fun u34 h => ?_)
              exact w_rv hr h (by decide) dX11_stepOn_220
            · refine w_aload_n C dX11_stepOn_137 rfl 0 rfl ?_
              refine w_ldc C 100000 dX11_stepOn_138 rfl tw7_135 ?_
              refine w_bipush C 10 dX11_stepOn_140 rfl (by decide) ?_
              refine w_aload_n C dX11_stepOn_142 rfl 0 rfl ?_
              refine w_get C 0 22 (Nat.le_of_ble_eq_true rfl) rfl rfl inB_X11 (by decide) tw6_183 rfl dX11_stepOn_143 rfl ?_
              refine w_imul C dX11_stepOn_146 rfl ?_
              refine w_aload_n C dX11_stepOn_147 rfl 0 rfl ?_
              refine w_aload_n C dX11_stepOn_148 rfl 0 rfl ?_
              refine w_get C 0 19 (Nat.le_of_ble_eq_true rfl) rfl rfl inB_X11 (by decide) tw6_180 rfl dX11_stepOn_149 rfl ?_
              refine bd1_w h (fun r35 hc h => ?_)
              refine w_callVi C (n := 1) (As := [.int (v26 0 19)]) (st := [.int (10 * (v26 0 22)), .int 100000, .ref (ad 0)]) 0 (Nat.le_of_ble_eq_true rfl) rfl rfl (cfX11_byteAt D cI cT ad (l := X.2.1) C.2.2.1 hc) tw7_125 cy_X11_byteAt (by decide +kernel) ⟨Nat.le_of_ble_eq_true rfl, Nat.le_of_ble_eq_true rfl⟩ (by decide) rfl rfl (Nat.le_of_ble_eq_true rfl) dX11_stepOn_152 rfl ?_
              refine w_iadd C dX11_stepOn_155 rfl ?_
              refine w_bipush C 48 dX11_stepOn_156 rfl (by decide) ?_
              refine w_isub C dX11_stepOn_158 rfl ?_
              refine w_mmin C (all4 tw7_136 tw3_112 tw1_17 tw3_113) ⟨Nat.le_of_ble_eq_true rfl, Nat.le_of_ble_eq_true rfl⟩ (by decide) dX11_stepOn_159 rfl ?_
              refine w_put C 0 22 (if (((10 * (v26 0 22)) + r35) - 48) < 100000 then (((10 * (v26 0 22)) + r35) - 48) else 100000) (Nat.le_of_ble_eq_true rfl) rfl rfl inB_X11 tyX11_ok nmX11 (by decide) tw6_183 rfl rfl rfl (Nat.le_of_ble_eq_true rfl) rfl dX11_stepOn_162 rfl ?_
              refine w_nst h (fun u37 h => ?_)
              refine w_aload_n C dX11_stepOn_165 rfl 0 rfl ?_
              refine w_dup C rfl dX11_stepOn_166 rfl ?_
              refine w_get C 0 19 (Nat.le_of_ble_eq_true rfl) rfl rfl inB_X11 (by decide) tw6_180 rfl dX11_stepOn_167 rfl ?_
              refine w_iconst C 1 dX11_stepOn_170 rfl (by decide) ?_
              refine w_iadd C dX11_stepOn_171 rfl ?_
              refine w_put C 0 19 ((u37 0 19) + 1) (Nat.le_of_ble_eq_true rfl) rfl rfl inB_X11 tyX11_ok nmX11 (by decide) tw6_180 rfl rfl rfl (Nat.le_of_ble_eq_true rfl) rfl dX11_stepOn_172 rfl ?_
              refine w_nst h (fun u39 h => ?_)
              refine w_goto (q := 123) C dX11_stepOn_175 (by decide) ?_
              exact w_sub (lv' := [(0, .ref (ad 0))]) [0] rfl (hK28 u39 h)
        · refine w_sub (lv' := [(0, .ref (ad 0))]) [1] rfl ?_
          refine lp_w (fun v40 : St => WP X (gM D cI cT ad) 2 0 76 v40 [(0, .ref (ad 0))] []) (fun K41 hK42 v40 h => ?_) F _ h
          refine w_aload_n C dX11_stepOn_76 rfl 0 rfl ?_
          refine w_aload_n C dX11_stepOn_77 rfl 0 rfl ?_
          refine w_get C 0 19 (Nat.le_of_ble_eq_true rfl) rfl rfl inB_X11 (by decide) tw6_180 rfl dX11_stepOn_78 rfl ?_
          refine bd1_w h (fun r43 hc h => ?_)
          refine w_callVi C (n := 1) (As := [.int (v40 0 19)]) (st := []) 0 (Nat.le_of_ble_eq_true rfl) rfl rfl (cfX11_byteAt D cI cT ad (l := X.2.1) C.2.2.1 hc) tw7_125 cy_X11_byteAt (by decide +kernel) ⟨Nat.le_of_ble_eq_true rfl, Nat.le_of_ble_eq_true rfl⟩ (by decide) rfl rfl (Nat.le_of_ble_eq_true rfl) dX11_stepOn_81 rfl ?_
          refine bd1_w h (fun r44 hc h => ?_)
          refine w_callSi C (n := 1) (As := [.int r43]) (st := []) (cfX11_isLetter D cI cT ad (l := X.2.1) C.2.2.1 hc) tw7_129 cs_X11_isLetter (by decide +kernel) ⟨Nat.le_of_ble_eq_true rfl, Nat.le_of_ble_eq_true rfl⟩ (by decide) rfl rfl (Nat.le_of_ble_eq_true rfl) dX11_stepOn_84 rfl ?_
          refine w_if_eq C (qt := 103) dX11_stepOn_87 (by decide) rfl h (fun _ h => ?_) (fun _ h => ?_)
          · refine w_aload_n C dX11_stepOn_103 rfl 0 rfl ?_
            refine w_iconst C 1 dX11_stepOn_104 rfl (by decide) ?_
            refine w_put C 0 21 1 (Nat.le_of_ble_eq_true rfl) rfl rfl inB_X11 tyX11_ok nmX11 (by decide) tw6_182 rfl rfl rfl (Nat.le_of_ble_eq_true rfl) rfl dX11_stepOn_105 rfl ?_
            refine w_nst h (fun u46 h => ?_)
            refine w_goto (q := 212) C dX11_stepOn_108 (by decide) ?_
            refine w_aload_n C dX11_stepOn_212 rfl 0 rfl ?_
            refine w_aload_n C dX11_stepOn_213 rfl 0 rfl ?_
            refine w_get C 0 19 (Nat.le_of_ble_eq_true rfl) rfl rfl inB_X11 (by decide) tw6_180 rfl dX11_stepOn_214 rfl ?_
            refine w_put C 0 24 (u46 0 19) (Nat.le_of_ble_eq_true rfl) rfl rfl inB_X11 tyX11_ok nmX11 (by decide) tw6_185 rfl rfl rfl (Nat.le_of_ble_eq_true rfl) rfl dX11_stepOn_217 rfl ?_
            refine w_nst h (fun u48 h => ?_)
            exact w_rv hr h (by decide) dX11_stepOn_220
          · refine w_aload_n C dX11_stepOn_90 rfl 0 rfl ?_
            refine w_dup C rfl dX11_stepOn_91 rfl ?_
            refine w_get C 0 19 (Nat.le_of_ble_eq_true rfl) rfl rfl inB_X11 (by decide) tw6_180 rfl dX11_stepOn_92 rfl ?_
            refine w_iconst C 1 dX11_stepOn_95 rfl (by decide) ?_
            refine w_iadd C dX11_stepOn_96 rfl ?_
            refine w_put C 0 19 ((v40 0 19) + 1) (Nat.le_of_ble_eq_true rfl) rfl rfl inB_X11 tyX11_ok nmX11 (by decide) tw6_180 rfl rfl rfl (Nat.le_of_ble_eq_true rfl) rfl dX11_stepOn_97 rfl ?_
            refine w_nst h (fun u50 h => ?_)
            refine w_goto (q := 76) C dX11_stepOn_100 (by decide) ?_
            exact w_sub (lv' := [(0, .ref (ad 0))]) [0] rfl (hK42 u50 h)
      · refine w_aload_n C dX11_stepOn_61 rfl 1 rfl ?_
        refine w_iconst C 0 dX11_stepOn_62 rfl (by decide) ?_
        refine w_put C 0 21 0 (Nat.le_of_ble_eq_true rfl) rfl rfl inB_X11 tyX11_ok nmX11 (by decide) tw6_182 rfl rfl rfl (Nat.le_of_ble_eq_true rfl) rfl dX11_stepOn_63 rfl ?_
        refine w_nst h (fun u52 h => ?_)
        refine w_goto (q := 212) C dX11_stepOn_66 (by decide) ?_
        refine w_aload_n C dX11_stepOn_212 rfl 1 rfl ?_
        refine w_aload_n C dX11_stepOn_213 rfl 1 rfl ?_
        refine w_get C 0 19 (Nat.le_of_ble_eq_true rfl) rfl rfl inB_X11 (by decide) tw6_180 rfl dX11_stepOn_214 rfl ?_
        refine w_put C 0 24 (u52 0 19) (Nat.le_of_ble_eq_true rfl) rfl rfl inB_X11 tyX11_ok nmX11 (by decide) tw6_185 rfl rfl rfl (Nat.le_of_ble_eq_true rfl) rfl dX11_stepOn_217 rfl ?_
        refine w_nst h (fun u54 h => ?_)
        exact w_rv hr h (by decide) dX11_stepOn_220
    · refine w_aload_n C dX11_stepOn_26 rfl 0 rfl ?_
      refine w_dup C rfl dX11_stepOn_27 rfl ?_
      refine w_get C 0 19 (Nat.le_of_ble_eq_true rfl) rfl rfl inB_X11 (by decide) tw6_180 rfl dX11_stepOn_28 rfl ?_
      refine w_iconst C 1 dX11_stepOn_31 rfl (by decide) ?_
      refine w_iadd C dX11_stepOn_32 rfl ?_
      refine w_put C 0 19 ((v1 0 19) + 1) (Nat.le_of_ble_eq_true rfl) rfl rfl inB_X11 tyX11_ok nmX11 (by decide) tw6_180 rfl rfl rfl (Nat.le_of_ble_eq_true rfl) rfl dX11_stepOn_33 rfl ?_
      refine w_nst h (fun u56 h => ?_)
      refine w_goto (q := 0) C dX11_stepOn_36 (by decide) ?_
      exact w_sub (lv' := [(0, .ref (ad 0))]) [0] rfl (hK3 u56 h)
theorem cfX11_stepOn (D : va_G) (cI cT : ClassId) (ad : Nat → Nat) {l : Launch} (had : gAp (gM D cI cT ad)) {F : Nat} {σ : St}  {σ' : St} (h : fX11_stepOn F σ = some σ') : MV l yX11_stepOn (wB yX11_stepOn cX11_stepOn 2 none) 1 21 (gM D cI cT ad) [.ref (ad 0)] σ σ' := mk_MV had (by decide +kernel) (Nat.le_of_ble_eq_true rfl) (fun X hX C hr => wfX11_stepOn C hr h)

def fX11_wrong (F : Nat) (σ : St) (a0 : Int32) : Option St := if (σ 0 25) = 0 then (nm (up σ 0 25 a0) fun u2 => nm (up u2 0 26 (u2 0 23)) fun u4 => some u4) else some σ
set_option maxRecDepth 20000 in
theorem wfX11_wrong {X : XT} {D : va_G} {cI cT : ClassId} {ad : Nat → Nat} {F : Nat} {σ : St} {a0 : Int32} {σ' : St} (C : Cx X (gM D cI cT ad) cX11_wrong 2 RX11 0 0 0) (hr : RetV X (gM D cI cT ad) cX11_wrong 2 0 σ') (h : fX11_wrong F σ a0 = some σ') : WP X (gM D cI cT ad) 2 0 0 σ [(0, .ref (ad 0)), (1, .int a0)] [] := by
  unfold fX11_wrong at h
  refine w_aload_n C dX11_wrong_0 rfl 0 rfl ?_
  refine w_get C 0 25 (Nat.le_of_ble_eq_true rfl) rfl rfl inB_X11 (by decide) tw6_186 rfl dX11_wrong_1 rfl ?_
  refine w_if_eq C (qt := 8) dX11_wrong_4 (by decide) rfl h (fun _ h => ?_) (fun _ h => ?_)
  · refine w_aload_n C dX11_wrong_8 rfl 0 rfl ?_
    refine w_iload_n C dX11_wrong_9 rfl 1 rfl ?_
    refine w_put C 0 25 a0 (Nat.le_of_ble_eq_true rfl) rfl rfl inB_X11 tyX11_ok nmX11 (by decide) tw6_186 rfl rfl rfl (Nat.le_of_ble_eq_true rfl) rfl dX11_wrong_10 rfl ?_
    refine w_nst h (fun u2 h => ?_)
    refine w_aload_n C dX11_wrong_13 rfl 0 rfl ?_
    refine w_aload_n C dX11_wrong_14 rfl 0 rfl ?_
    refine w_get C 0 23 (Nat.le_of_ble_eq_true rfl) rfl rfl inB_X11 (by decide) tw6_184 rfl dX11_wrong_15 rfl ?_
    refine w_put C 0 26 (u2 0 23) (Nat.le_of_ble_eq_true rfl) rfl rfl inB_X11 tyX11_ok nmX11 (by decide) tw6_187 rfl rfl rfl (Nat.le_of_ble_eq_true rfl) rfl dX11_wrong_18 rfl ?_
    refine w_nst h (fun u4 h => ?_)
    exact w_rv hr h (by decide) dX11_wrong_21
  · exact w_rv hr h (by decide) dX11_wrong_7
theorem cfX11_wrong (D : va_G) (cI cT : ClassId) (ad : Nat → Nat) {l : Launch} (had : gAp (gM D cI cT ad)) {F : Nat} {σ : St} {a0 : Int32} {σ' : St} (h : fX11_wrong F σ a0 = some σ') : MV l yX11_wrong (wB yX11_wrong cX11_wrong 2 none) 0 0 (gM D cI cT ad) [.ref (ad 0), .int a0] σ σ' := mk_MV had (by decide +kernel) (Nat.le_of_ble_eq_true rfl) (fun X hX C hr => wfX11_wrong C hr h)

def mJ0_coder_7d493 (F : Nat) (σ : St) (i0 : Nat) : Option Int32 := ckS i0 (if (1 : Int32) = 0 then (some 1) else some 0)
set_option maxRecDepth 20000 in
theorem wmJ0_coder_7d493 {X : XT} {D : va_G} {cI cT : ClassId} {ad : Nat → Nat} {F : Nat} {σ : St} {i0 : Nat} {r : Int32} (C : Cx X (gM D cI cT ad) cJ0_coder_7d493 1 RJ0 0 0 0) (hr : RetN X (gM D cI cT ad) cJ0_coder_7d493 1 0 .byte r σ) (h : mJ0_coder_7d493 F σ i0 = some r) : WP X (gM D cI cT ad) 1 0 0 σ [(0, .ref (ad (1100 + i0)))] [] := by
  unfold mJ0_coder_7d493 at h
  obtain ⟨hi0, h⟩ := ckS_w h
  refine w_gets C C.2.2.2.1.2.2.2.2.2.2.1.1 tw3_143 dJ0_coder_7d493_0 rfl ?_
  refine w_if_eq C (qt := 13) dJ0_coder_7d493_3 (by decide) rfl h (fun _ h => ?_) (fun _ h => ?_)
  · refine w_iconst C 1 dJ0_coder_7d493_13 rfl (by decide) ?_
    exact w_rn1 hr rfl h (by decide) dJ0_coder_7d493_14
  · refine w_aload_n C dJ0_coder_7d493_6 rfl 0 rfl ?_
    refine w_scod C i0 hi0 tw9_85 dJ0_coder_7d493_7 rfl ?_
    refine w_goto (q := 14) C dJ0_coder_7d493_10 (by decide) ?_
    exact w_rn1 hr rfl h (by decide) dJ0_coder_7d493_14
theorem cmJ0_coder_7d493 (D : va_G) (cI cT : ClassId) (ad : Nat → Nat) {l : Launch} (had : gAp (gM D cI cT ad)) {F : Nat} {σ : St} {i0 : Nat} {r : Int32} (h : mJ0_coder_7d493 F σ i0 = some r) : MI l yJ0_coder_7d493 (wB yJ0_coder_7d493 cJ0_coder_7d493 1 (some .byte)) 0 0 (gM D cI cT ad) [.ref (ad (1100 + i0))] σ r σ := mk_MN had (by decide +kernel) (Nat.le_of_ble_eq_true rfl) (fun X hX C hr => wmJ0_coder_7d493 C hr h)

def mJ0_length_8abf5 (F : Nat) (σ : St) (i0 : Nat) : Option Int32 := ckS i0 (bd1 (mJ0_coder_7d493 F σ i0) fun r1 => some ((slen i0) >>> (r1 &&& 31)))
set_option maxRecDepth 20000 in
theorem wmJ0_length_8abf5 {X : XT} {D : va_G} {cI cT : ClassId} {ad : Nat → Nat} {F : Nat} {σ : St} {i0 : Nat} {r : Int32} (C : Cx X (gM D cI cT ad) cJ0_length_8abf5 1 RJ0 1 20 0) (hr : RetI X (gM D cI cT ad) cJ0_length_8abf5 1 0 r σ) (h : mJ0_length_8abf5 F σ i0 = some r) : WP X (gM D cI cT ad) 1 0 0 σ [(0, .ref (ad (1100 + i0)))] [] := by
  unfold mJ0_length_8abf5 at h
  obtain ⟨hi0, h⟩ := ckS_w h
  refine w_aload_n C dJ0_length_8abf5_0 rfl 0 rfl ?_
  refine w_sval C i0 hi0 tw9_84 dJ0_length_8abf5_1 rfl ?_
  refine w_slen C i0 hi0 dJ0_length_8abf5_4 rfl ?_
  refine w_aload_n C dJ0_length_8abf5_5 rfl 0 rfl ?_
  refine bd1_w h (fun r1 hc h => ?_)
  refine w_callWi C (n := 0) (As := []) (st := [.int (slen i0)]) i0 hi0 rfl (cmJ0_coder_7d493 D cI cT ad (l := X.2.1) C.2.2.1 hc) tw3_139 cy_J0_coder_7d493 (by decide +kernel) ⟨Nat.le_of_ble_eq_true rfl, Nat.le_of_ble_eq_true rfl⟩ (by decide) rfl rfl (Nat.le_of_ble_eq_true rfl) dJ0_length_8abf5_6 rfl ?_
  refine w_ishr C dJ0_length_8abf5_9 rfl ?_
  exact w_ri1 hr h (by decide) dJ0_length_8abf5_10
theorem cmJ0_length_8abf5 (D : va_G) (cI cT : ClassId) (ad : Nat → Nat) {l : Launch} (had : gAp (gM D cI cT ad)) {F : Nat} {σ : St} {i0 : Nat} {r : Int32} (h : mJ0_length_8abf5 F σ i0 = some r) : MI l yJ0_length_8abf5 (wB yJ0_length_8abf5 cJ0_length_8abf5 1 (some .int)) 1 20 (gM D cI cT ad) [.ref (ad (1100 + i0))] σ r σ := mk_MI had (by decide +kernel) (Nat.le_of_ble_eq_true rfl) (fun X hX C hr => wmJ0_length_8abf5 C hr h)

def mJ0_isLatin1_aae02 (F : Nat) (σ : St) (i0 : Nat) : Option Int32 := ckS i0 (if (1 : Int32) = 0 then (some 0) else if (0 : Int32) = 0 then (some 1) else some 0)
set_option maxRecDepth 20000 in
theorem wmJ0_isLatin1_aae02 {X : XT} {D : va_G} {cI cT : ClassId} {ad : Nat → Nat} {F : Nat} {σ : St} {i0 : Nat} {r : Int32} (C : Cx X (gM D cI cT ad) cJ0_isLatin1_aae02 1 RJ0 0 0 0) (hr : RetZ X (gM D cI cT ad) cJ0_isLatin1_aae02 1 0 r σ) (h : mJ0_isLatin1_aae02 F σ i0 = some r) : WP X (gM D cI cT ad) 1 0 0 σ [(0, .ref (ad (1100 + i0)))] [] := by
  unfold mJ0_isLatin1_aae02 at h
  obtain ⟨hi0, h⟩ := ckS_w h
  refine w_gets C C.2.2.2.1.2.2.2.2.2.2.1.1 tw3_143 dJ0_isLatin1_aae02_0 rfl ?_
  refine w_if_eq C (qt := 17) dJ0_isLatin1_aae02_3 (by decide) rfl h (fun _ h => ?_) (fun _ h => ?_)
  · refine w_iconst C 0 dJ0_isLatin1_aae02_17 rfl (by decide) ?_
    exact w_rz1 hr (by decide) h (by decide) dJ0_isLatin1_aae02_18
  · refine w_aload_n C dJ0_isLatin1_aae02_6 rfl 0 rfl ?_
    refine w_scod C i0 hi0 tw9_85 dJ0_isLatin1_aae02_7 rfl ?_
    refine w_if_ne C (qt := 17) dJ0_isLatin1_aae02_10 (by decide) rfl h (fun _ h => ?_) (fun _ h => ?_)
    · refine w_iconst C 0 dJ0_isLatin1_aae02_17 rfl (by decide) ?_
      exact w_rz1 hr (by decide) h (by decide) dJ0_isLatin1_aae02_18
    · refine w_iconst C 1 dJ0_isLatin1_aae02_13 rfl (by decide) ?_
      refine w_goto (q := 18) C dJ0_isLatin1_aae02_14 (by decide) ?_
      exact w_rz1 hr (by decide) h (by decide) dJ0_isLatin1_aae02_18
theorem cmJ0_isLatin1_aae02 (D : va_G) (cI cT : ClassId) (ad : Nat → Nat) {l : Launch} (had : gAp (gM D cI cT ad)) {F : Nat} {σ : St} {i0 : Nat} {r : Int32} (h : mJ0_isLatin1_aae02 F σ i0 = some r) : MI l yJ0_isLatin1_aae02 (wB yJ0_isLatin1_aae02 cJ0_isLatin1_aae02 1 (some .boolean)) 0 0 (gM D cI cT ad) [.ref (ad (1100 + i0))] σ r σ := mk_MZ had (by decide +kernel) (Nat.le_of_ble_eq_true rfl) (fun X hX C hr => wmJ0_isLatin1_aae02 C hr h)

def mJ3_checkIndex_8e157 (F : Nat) (σ : St) (a0 : Int32) (a1 : Int32) : Option Int32 := jn (fun v1 : Unit => none) fun J2 => if a0 < 0 then (none) else if a0 < a1 then (some a0) else none
set_option maxRecDepth 20000 in
theorem wmJ3_checkIndex_8e157 {X : XT} {D : va_G} {cI cT : ClassId} {ad : Nat → Nat} {F : Nat} {σ : St} {a0 : Int32} {a1 : Int32} {a2 : Option Nat} {r : Int32} (C : Cx X (gM D cI cT ad) cJ3_checkIndex_8e157 3 RJ3 0 0 0) (hr : RetI X (gM D cI cT ad) cJ3_checkIndex_8e157 3 0 r σ) (h : mJ3_checkIndex_8e157 F σ a0 a1 = some r) : WP X (gM D cI cT ad) 3 0 0 σ [(0, .int a0), (1, .int a1), (2, va_rf a2)] [] := by
  unfold mJ3_checkIndex_8e157 at h
  refine w_iload_n C dJ3_checkIndex_8e157_0 rfl 0 rfl ?_
  refine jn_w (fun v1 : Unit => WP X (gM D cI cT ad) 3 0 9 σ [(0, .int a0), (1, .int a1), (2, va_rf a2)] []) h (fun v1 h => ?_) (fun J2 hJ3 h => ?_)
  · cases h
  · refine w_if_lt C (qt := 9) dJ3_checkIndex_8e157_1 (by decide) rfl h (fun _ h => ?_) (fun _ h => ?_)
    · cases h
    · refine w_iload_n C dJ3_checkIndex_8e157_4 rfl 0 rfl ?_
      refine w_iload_n C dJ3_checkIndex_8e157_5 rfl 1 rfl ?_
      refine w_icmp_lt C (qt := 16) dJ3_checkIndex_8e157_6 (by decide) rfl h (fun _ h => ?_) (fun _ h => ?_)
      · refine w_iload_n C dJ3_checkIndex_8e157_16 rfl 0 rfl ?_
        exact w_ri1 hr h (by decide) dJ3_checkIndex_8e157_17
      · cases h
theorem cmJ3_checkIndex_8e157 (D : va_G) (cI cT : ClassId) (ad : Nat → Nat) {l : Launch} (had : gAp (gM D cI cT ad)) {F : Nat} {σ : St} {a0 : Int32} {a1 : Int32} {a2 : Option Nat} {r : Int32} (h : mJ3_checkIndex_8e157 F σ a0 a1 = some r) : MI l yJ3_checkIndex_8e157 (wB yJ3_checkIndex_8e157 cJ3_checkIndex_8e157 3 (some .int)) 0 0 (gM D cI cT ad) [.int a0, .int a1, va_rf a2] σ r σ := by cases a2 <;> exact mk_MI had (by decide +kernel) (Nat.le_of_ble_eq_true rfl) (fun X hX C hr => wmJ3_checkIndex_8e157 C hr h)

def mJ0_checkIndex_df160 (F : Nat) (σ : St) (a0 : Int32) (a1 : Int32) : Option Unit := bd1 (mJ3_checkIndex_8e157 F σ a0 a1) fun r2 => some ()
set_option maxRecDepth 20000 in
theorem wmJ0_checkIndex_df160 {X : XT} {D : va_G} {cI cT : ClassId} {ad : Nat → Nat} {F : Nat} {σ : St} {a0 : Int32} {a1 : Int32}  (C : Cx X (gM D cI cT ad) cJ0_checkIndex_df160 2 RJ0 1 22 0) (hr : RetV X (gM D cI cT ad) cJ0_checkIndex_df160 2 0 σ) (h : mJ0_checkIndex_df160 F σ a0 a1 = some ()) : WP X (gM D cI cT ad) 2 0 0 σ [(0, .int a0), (1, .int a1)] [] := by
  unfold mJ0_checkIndex_df160 at h
  refine w_iload_n C dJ0_checkIndex_df160_0 rfl 0 rfl ?_
  refine w_iload_n C dJ0_checkIndex_df160_1 rfl 1 rfl ?_
  refine w_getsq C C.2.2.2.1.2.2.2.2.2.2.1.2 tw3_163 dJ0_checkIndex_df160_2 rfl (fun q1 => ?_)
  refine bd1_w h (fun r2 hc h => ?_)
  refine w_callSi C (n := 3) (As := [.int a0, .int a1, va_rf q1]) (st := []) (cmJ3_checkIndex_8e157 D cI cT ad (l := X.2.1) C.2.2.1 hc) tw3_165 cs_J3_checkIndex_8e157 (by decide +kernel) ⟨Nat.le_of_ble_eq_true rfl, Nat.le_of_ble_eq_true rfl⟩ (by decide) rfl rfl (Nat.le_of_ble_eq_true rfl) dJ0_checkIndex_df160_5 rfl ?_
  refine w_pop C rfl dJ0_checkIndex_df160_8 rfl ?_
  exact hr _ _ _ (by decide) dJ0_checkIndex_df160_9
theorem cmJ0_checkIndex_df160 (D : va_G) (cI cT : ClassId) (ad : Nat → Nat) {l : Launch} (had : gAp (gM D cI cT ad)) {F : Nat} {σ : St} {a0 : Int32} {a1 : Int32}  (h : mJ0_checkIndex_df160 F σ a0 a1 = some ()) : MV l yJ0_checkIndex_df160 (wB yJ0_checkIndex_df160 cJ0_checkIndex_df160 2 none) 1 22 (gM D cI cT ad) [.int a0, .int a1] σ σ := mk_MV had (by decide +kernel) (Nat.le_of_ble_eq_true rfl) (fun X hX C hr => wmJ0_checkIndex_df160 C hr h)

def mJ1_charAt_3b067 (F : Nat) (σ : St) (a0 : Nat) (a1 : Int32) : Option Int32 := ckS a0 (bd1 (mJ0_checkIndex_df160 F σ a1 (slen a0)) fun _ => ckI (a1) (strB.getD a0 []).length (ckC (c16 ((schr a0 a1) &&& 255)) (some (c16 ((schr a0 a1) &&& 255)))))
set_option maxRecDepth 20000 in
theorem wmJ1_charAt_3b067 {X : XT} {D : va_G} {cI cT : ClassId} {ad : Nat → Nat} {F : Nat} {σ : St} {a0 : Nat} {a1 : Int32} {r : Int32} (C : Cx X (gM D cI cT ad) cJ1_charAt_3b067 2 RJ1 2 43 0) (hr : RetN X (gM D cI cT ad) cJ1_charAt_3b067 2 0 .char r σ) (h : mJ1_charAt_3b067 F σ a0 a1 = some r) : WP X (gM D cI cT ad) 2 0 0 σ [(0, .ref (ad (1300 + a0))), (1, .int a1)] [] := by
  unfold mJ1_charAt_3b067 at h
  obtain ⟨ha0, h⟩ := ckS_w h
  refine w_iload_n C dJ1_charAt_3b067_0 rfl 1 rfl ?_
  refine w_aload_n C dJ1_charAt_3b067_1 rfl 0 rfl ?_
  refine w_slen C a0 ha0 dJ1_charAt_3b067_2 rfl ?_
  refine bd1_w h (fun _ hc h => ?_)
  refine w_callSv C (n := 2) (As := [.int a1, .int (slen a0)]) (st := []) (cmJ0_checkIndex_df160 D cI cT ad (l := X.2.1) C.2.2.1 hc) tw3_160 cs_J0_checkIndex_df160 (by decide +kernel) ⟨Nat.le_of_ble_eq_true rfl, Nat.le_of_ble_eq_true rfl⟩ (by decide) rfl rfl (Nat.le_of_ble_eq_true rfl) dJ1_charAt_3b067_3 rfl ?_
  refine w_aload_n C dJ1_charAt_3b067_6 rfl 0 rfl ?_
  refine w_iload_n C dJ1_charAt_3b067_7 rfl 1 rfl ?_
  refine w_sbyt C a0 ha0 h dJ1_charAt_3b067_8 rfl (fun h => ?_)
  refine w_sipush C 255 dJ1_charAt_3b067_9 rfl (by decide) ?_
  refine w_iand C dJ1_charAt_3b067_12 rfl ?_
  refine w_i2c C dJ1_charAt_3b067_13 rfl ?_
  obtain ⟨hz, h⟩ := ckC_w h
  exact w_rn1 hr (by show Value.int _ = _; rw [hz]) h (by decide) dJ1_charAt_3b067_14
theorem cmJ1_charAt_3b067 (D : va_G) (cI cT : ClassId) (ad : Nat → Nat) {l : Launch} (had : gAp (gM D cI cT ad)) {F : Nat} {σ : St} {a0 : Nat} {a1 : Int32} {r : Int32} (h : mJ1_charAt_3b067 F σ a0 a1 = some r) : MI l yJ1_charAt_3b067 (wB yJ1_charAt_3b067 cJ1_charAt_3b067 2 (some .char)) 2 43 (gM D cI cT ad) [.ref (ad (1300 + a0)), .int a1] σ r σ := mk_MN had (by decide +kernel) (Nat.le_of_ble_eq_true rfl) (fun X hX C hr => wmJ1_charAt_3b067 C hr h)

def mJ0_charAt_5068e (F : Nat) (σ : St) (i0 : Nat) (a0 : Int32) : Option Int32 := ckS i0 (bd1 (mJ0_isLatin1_aae02 F σ i0) fun r1 => if r1 = 0 then (none) else bd1 (mJ1_charAt_3b067 F σ i0 a0) fun r2 => ckC (r2) (some r2))
set_option maxRecDepth 20000 in
theorem wmJ0_charAt_5068e {X : XT} {D : va_G} {cI cT : ClassId} {ad : Nat → Nat} {F : Nat} {σ : St} {i0 : Nat} {a0 : Int32} {r : Int32} (C : Cx X (gM D cI cT ad) cJ0_charAt_5068e 2 RJ0 3 64 0) (hr : RetN X (gM D cI cT ad) cJ0_charAt_5068e 2 0 .char r σ) (h : mJ0_charAt_5068e F σ i0 a0 = some r) : WP X (gM D cI cT ad) 2 0 0 σ [(0, .ref (ad (1100 + i0))), (1, .int a0)] [] := by
  unfold mJ0_charAt_5068e at h
  obtain ⟨hi0, h⟩ := ckS_w h
  refine w_aload_n C dJ0_charAt_5068e_0 rfl 0 rfl ?_
  refine bd1_w h (fun r1 hc h => ?_)
  refine w_callWi C (n := 0) (As := []) (st := []) i0 hi0 rfl (cmJ0_isLatin1_aae02 D cI cT ad (l := X.2.1) C.2.2.1 hc) tw3_153 cy_J0_isLatin1_aae02 (by decide +kernel) ⟨Nat.le_of_ble_eq_true rfl, Nat.le_of_ble_eq_true rfl⟩ (by decide) rfl rfl (Nat.le_of_ble_eq_true rfl) dJ0_charAt_5068e_1 rfl ?_
  refine w_if_eq C (qt := 16) dJ0_charAt_5068e_4 (by decide) rfl h (fun _ h => ?_) (fun _ h => ?_)
  · refine w_aload_n C dJ0_charAt_5068e_16 rfl 0 rfl ?_
    refine w_sval C i0 hi0 tw9_84 dJ0_charAt_5068e_17 rfl ?_
    refine w_iload_n C dJ0_charAt_5068e_20 rfl 1 rfl ?_
    cases h
  · refine w_aload_n C dJ0_charAt_5068e_7 rfl 0 rfl ?_
    refine w_sval C i0 hi0 tw9_84 dJ0_charAt_5068e_8 rfl ?_
    refine w_iload_n C dJ0_charAt_5068e_11 rfl 1 rfl ?_
    refine bd1_w h (fun r2 hc h => ?_)
    refine w_callSi C (n := 2) (As := [.ref (ad (1300 + i0)), .int a0]) (st := []) (cmJ1_charAt_3b067 D cI cT ad (l := X.2.1) C.2.2.1 hc) tw3_157 cs_J1_charAt_3b067 (by decide +kernel) ⟨Nat.le_of_ble_eq_true rfl, Nat.le_of_ble_eq_true rfl⟩ (by decide) rfl rfl (Nat.le_of_ble_eq_true rfl) dJ0_charAt_5068e_12 rfl ?_
    obtain ⟨hz, h⟩ := ckC_w h
    exact w_rn1 hr (by show Value.int _ = _; rw [hz]) h (by decide) dJ0_charAt_5068e_15
theorem cmJ0_charAt_5068e (D : va_G) (cI cT : ClassId) (ad : Nat → Nat) {l : Launch} (had : gAp (gM D cI cT ad)) {F : Nat} {σ : St} {i0 : Nat} {a0 : Int32} {r : Int32} (h : mJ0_charAt_5068e F σ i0 a0 = some r) : MI l yJ0_charAt_5068e (wB yJ0_charAt_5068e cJ0_charAt_5068e 2 (some .char)) 3 64 (gM D cI cT ad) [.ref (ad (1100 + i0)), .int a0] σ r σ := mk_MN had (by decide +kernel) (Nat.le_of_ble_eq_true rfl) (fun X hX C hr => wmJ0_charAt_5068e C hr h)

def fX11_is (F : Nat) (σ : St) (a0 : Nat) : Option Int32 := ckS a0 (jn (fun v1 : Int32 => lp (fun (K5 : (Int32 × Int32) → Option Int32) (v4 : Int32 × Int32) => if v4.2 = 0 then (ckB (v4.2) (some v4.2)) else bd1 (mJ0_length_8abf5 F σ a0) fun r7 => if r7 ≤ v4.1 then (ckB (v4.2) (some v4.2)) else bd1 (mJ0_charAt_5068e F σ a0 v4.1) fun r8 => ckI ((σ 0 23) + v4.1) 700 (if r8 = (σ 17 (Int32.toNatClampNeg ((σ 0 23) + v4.1))) then (K5 ((v4.1 + 1, 1))) else K5 ((v4.1 + 1, 0)))) F ((0, v1))) fun J2 => jn (fun v9 : Unit => J2 0) fun J10 => if (σ 0 25) = 0 then (if (σ 0 21) = (1 : Int32) then (bd1 (mJ0_length_8abf5 F σ a0) fun r12 => if r12 = ((σ 0 24) - (σ 0 23)) then (J2 1) else J10 (())) else J10 (())) else J10 (()))
set_option maxRecDepth 20000 in
theorem wfX11_is {X : XT} {D : va_G} {cI cT : ClassId} {ad : Nat → Nat} {F : Nat} {σ : St} {a0 : Nat} {r : Int32} (C : Cx X (gM D cI cT ad) cX11_is 4 RX11 4 85 0) (hr : RetZ X (gM D cI cT ad) cX11_is 4 0 r σ) (h : fX11_is F σ a0 = some r) : WP X (gM D cI cT ad) 4 0 0 σ [(0, .ref (ad 0)), (1, .ref (ad (1100 + a0)))] [] := by
  unfold fX11_is at h
  obtain ⟨ha0, h⟩ := ckS_w h
  refine w_aload_n C dX11_is_0 rfl 0 rfl ?_
  refine w_get C 0 25 (Nat.le_of_ble_eq_true rfl) rfl rfl inB_X11 (by decide) tw6_186 rfl dX11_is_1 rfl ?_
  refine jn_w (fun v1 : Int32 => WP X (gM D cI cT ad) 4 0 36 σ [(0, .ref (ad 0)), (1, .ref (ad (1100 + a0)))] [.int v1]) h (fun v1 h => ?_) (fun J2 hJ3 h => ?_)
  · refine w_istore_n C [(2, .int v1), (0, .ref (ad 0)), (1, .ref (ad (1100 + a0)))] dX11_is_36 rfl (by decide) rfl ?_
    refine w_iconst C 0 dX11_is_37 rfl (by decide) ?_
    refine w_istore_n C [(3, .int 0), (2, .int v1), (0, .ref (ad 0)), (1, .ref (ad (1100 + a0)))] dX11_is_38 rfl (by decide) rfl ?_
    refine w_sub (lv' := [(3, .int 0), (2, .int v1), (0, .ref (ad 0)), (1, .ref (ad (1100 + a0)))]) [0, 1, 2, 3] rfl ?_
    refine lp_w (fun v4 : Int32 × Int32 => WP X (gM D cI cT ad) 4 0 39 σ [(3, .int v4.1), (2, .int v4.2), (0, .ref (ad 0)), (1, .ref (ad (1100 + a0)))] []) (fun K5 hK6 v4 h => ?_) F _ h
    refine w_iload_n C dX11_is_39 rfl 1 rfl ?_
    refine w_if_eq C (qt := 82) dX11_is_40 (by decide) rfl h (fun _ h => ?_) (fun _ h => ?_)
    · refine w_iload_n C dX11_is_82 rfl 1 rfl ?_
      obtain ⟨hz, h⟩ := ckB_w h
      exact w_rz1 hr hz h (by decide) dX11_is_83
    · refine w_iload_n C dX11_is_43 rfl 0 rfl ?_
      refine w_aload_n C dX11_is_44 rfl 3 rfl ?_
      refine bd1_w h (fun r7 hc h => ?_)
      refine w_callWi C (n := 0) (As := []) (st := [.int v4.1]) a0 ha0 rfl (cmJ0_length_8abf5 D cI cT ad (l := X.2.1) C.2.2.1 hc) tw7_149 cy_J0_length_8abf5 (by decide +kernel) ⟨Nat.le_of_ble_eq_true rfl, Nat.le_of_ble_eq_true rfl⟩ (by decide) rfl rfl (Nat.le_of_ble_eq_true rfl) dX11_is_45 rfl ?_
      refine w_icmp_ge C (qt := 82) dX11_is_48 (by decide) rfl h (fun _ h => ?_) (fun _ h => ?_)
      · refine w_iload_n C dX11_is_82 rfl 1 rfl ?_
        obtain ⟨hz, h⟩ := ckB_w h
        exact w_rz1 hr hz h (by decide) dX11_is_83
      · refine w_aload_n C dX11_is_51 rfl 3 rfl ?_
        refine w_iload_n C dX11_is_52 rfl 0 rfl ?_
        refine bd1_w h (fun r8 hc h => ?_)
        refine w_callWi C (n := 1) (As := [.int v4.1]) (st := []) a0 ha0 rfl (cmJ0_charAt_5068e D cI cT ad (l := X.2.1) C.2.2.1 hc) tw7_150 cy_J0_charAt_5068e (by decide +kernel) ⟨Nat.le_of_ble_eq_true rfl, Nat.le_of_ble_eq_true rfl⟩ (by decide) rfl rfl (Nat.le_of_ble_eq_true rfl) dX11_is_53 rfl ?_
        refine w_aload_n C dX11_is_56 rfl 2 rfl ?_
        refine w_get C 0 17 (Nat.le_of_ble_eq_true rfl) rfl rfl inB_X11 (by decide) tw6_178 rfl dX11_is_57 rfl ?_
        refine w_aload_n C dX11_is_60 rfl 2 rfl ?_
        refine w_get C 0 23 (Nat.le_of_ble_eq_true rfl) rfl rfl inB_X11 (by decide) tw6_184 rfl dX11_is_61 rfl ?_
        refine w_iload_n C dX11_is_64 rfl 0 rfl ?_
        refine w_iadd C dX11_is_65 rfl ?_
        refine w_iald C 17 700 0 (Nat.le_of_ble_eq_true rfl) (fun _ => rfl) rfl h dX11_is_66 rfl (fun h => ?_)
        refine w_icmp_ne C (qt := 74) dX11_is_67 (by decide) rfl h (fun _ h => ?_) (fun _ h => ?_)
        · refine w_iconst C 0 dX11_is_74 rfl (by decide) ?_
          refine w_istore_n C [(2, .int 0), (3, .int v4.1), (0, .ref (ad 0)), (1, .ref (ad (1100 + a0)))] dX11_is_75 rfl (by decide) rfl ?_
          refine w_iinc (j := 1) C (v4.1 + 1) [(3, .int (v4.1 + 1)), (2, .int 0), (0, .ref (ad 0)), (1, .ref (ad (1100 + a0)))] dX11_is_76 rfl rfl rfl (by decide) rfl ?_
          refine w_goto (q := 39) C dX11_is_79 (by decide) ?_
          exact w_sub (lv' := [(3, .int (v4.1 + 1)), (2, .int 0), (0, .ref (ad 0)), (1, .ref (ad (1100 + a0)))]) [0, 1, 2, 3] rfl (hK6 ((v4.1 + 1, 0)) h)
        · refine w_iconst C 1 dX11_is_70 rfl (by decide) ?_
          refine w_goto (q := 75) C dX11_is_71 (by decide) ?_
          refine w_istore_n C [(2, .int 1), (3, .int v4.1), (0, .ref (ad 0)), (1, .ref (ad (1100 + a0)))] dX11_is_75 rfl (by decide) rfl ?_
          refine w_iinc (j := 1) C (v4.1 + 1) [(3, .int (v4.1 + 1)), (2, .int 1), (0, .ref (ad 0)), (1, .ref (ad (1100 + a0)))] dX11_is_76 rfl rfl rfl (by decide) rfl ?_
          refine w_goto (q := 39) C dX11_is_79 (by decide) ?_
          exact w_sub (lv' := [(3, .int (v4.1 + 1)), (2, .int 1), (0, .ref (ad 0)), (1, .ref (ad (1100 + a0)))]) [0, 1, 2, 3] rfl (hK6 ((v4.1 + 1, 1)) h)
  · refine jn_w (fun v9 : Unit => WP X (gM D cI cT ad) 4 0 35 σ [(0, .ref (ad 0)), (1, .ref (ad (1100 + a0)))] []) h (fun v9 h => ?_) (fun J10 hJ11 h => ?_)
    · refine w_iconst C 0 dX11_is_35 rfl (by decide) ?_
      exact w_sub (lv' := [(0, .ref (ad 0)), (1, .ref (ad (1100 + a0)))]) [0, 1] rfl (hJ3 0 h)
    · refine w_if_ne C (qt := 35) dX11_is_4 (by decide) rfl h (fun _ h => ?_) (fun _ h => ?_)
      · exact w_sub (lv' := [(0, .ref (ad 0)), (1, .ref (ad (1100 + a0)))]) [0, 1] rfl (hJ11 (()) h)
      · refine w_aload_n C dX11_is_7 rfl 0 rfl ?_
        refine w_get C 0 21 (Nat.le_of_ble_eq_true rfl) rfl rfl inB_X11 (by decide) tw6_182 rfl dX11_is_8 rfl ?_
        refine w_iconst C 1 dX11_is_11 rfl (by decide) ?_
        refine w_icmp_ne C (qt := 35) dX11_is_12 (by decide) rfl h (fun _ h => ?_) (fun _ h => ?_)
        · exact w_sub (lv' := [(0, .ref (ad 0)), (1, .ref (ad (1100 + a0)))]) [0, 1] rfl (hJ11 (()) h)
        · refine w_aload_n C dX11_is_15 rfl 1 rfl ?_
          refine bd1_w h (fun r12 hc h => ?_)
          refine w_callWi C (n := 0) (As := []) (st := []) a0 ha0 rfl (cmJ0_length_8abf5 D cI cT ad (l := X.2.1) C.2.2.1 hc) tw7_149 cy_J0_length_8abf5 (by decide +kernel) ⟨Nat.le_of_ble_eq_true rfl, Nat.le_of_ble_eq_true rfl⟩ (by decide) rfl rfl (Nat.le_of_ble_eq_true rfl) dX11_is_16 rfl ?_
          refine w_aload_n C dX11_is_19 rfl 0 rfl ?_
          refine w_get C 0 24 (Nat.le_of_ble_eq_true rfl) rfl rfl inB_X11 (by decide) tw6_185 rfl dX11_is_20 rfl ?_
          refine w_aload_n C dX11_is_23 rfl 0 rfl ?_
          refine w_get C 0 23 (Nat.le_of_ble_eq_true rfl) rfl rfl inB_X11 (by decide) tw6_184 rfl dX11_is_24 rfl ?_
          refine w_isub C dX11_is_27 rfl ?_
          refine w_icmp_ne C (qt := 35) dX11_is_28 (by decide) rfl h (fun _ h => ?_) (fun _ h => ?_)
          · exact w_sub (lv' := [(0, .ref (ad 0)), (1, .ref (ad (1100 + a0)))]) [0, 1] rfl (hJ11 (()) h)
          · refine w_iconst C 1 dX11_is_31 rfl (by decide) ?_
            refine w_goto (q := 36) C dX11_is_32 (by decide) ?_
            exact w_sub (lv' := [(0, .ref (ad 0)), (1, .ref (ad (1100 + a0)))]) [0, 1] rfl (hJ3 1 h)
theorem cfX11_is (D : va_G) (cI cT : ClassId) (ad : Nat → Nat) {l : Launch} (had : gAp (gM D cI cT ad)) {F : Nat} {σ : St} {a0 : Nat} {r : Int32} (h : fX11_is F σ a0 = some r) : MI l yX11_is (wB yX11_is cX11_is 4 (some .boolean)) 4 85 (gM D cI cT ad) [.ref (ad 0), .ref (ad (1100 + a0))] σ r σ := mk_MZ had (by decide +kernel) (Nat.le_of_ble_eq_true rfl) (fun X hX C hr => wfX11_is C hr h)

def fX11_isMarked (F : Nat) (σ : St) (a0 : Int32) : Option Int32 := if (σ 0 25) = 0 then (if (σ 0 21) = (3 : Int32) then (ckI (σ 0 23) 700 (if (σ 17 (Int32.toNatClampNeg (σ 0 23))) = a0 then (some 1) else some 0)) else some 0) else some 0
set_option maxRecDepth 20000 in
theorem wfX11_isMarked {X : XT} {D : va_G} {cI cT : ClassId} {ad : Nat → Nat} {F : Nat} {σ : St} {a0 : Int32} {r : Int32} (C : Cx X (gM D cI cT ad) cX11_isMarked 2 RX11 0 0 0) (hr : RetZ X (gM D cI cT ad) cX11_isMarked 2 0 r σ) (h : fX11_isMarked F σ a0 = some r) : WP X (gM D cI cT ad) 2 0 0 σ [(0, .ref (ad 0)), (1, .int a0)] [] := by
  unfold fX11_isMarked at h
  refine w_aload_n C dX11_isMarked_0 rfl 0 rfl ?_
  refine w_get C 0 25 (Nat.le_of_ble_eq_true rfl) rfl rfl inB_X11 (by decide) tw6_186 rfl dX11_isMarked_1 rfl ?_
  refine w_if_ne C (qt := 32) dX11_isMarked_4 (by decide) rfl h (fun _ h => ?_) (fun _ h => ?_)
  · refine w_iconst C 0 dX11_isMarked_32 rfl (by decide) ?_
    exact w_rz1 hr (by decide) h (by decide) dX11_isMarked_33
  · refine w_aload_n C dX11_isMarked_7 rfl 0 rfl ?_
    refine w_get C 0 21 (Nat.le_of_ble_eq_true rfl) rfl rfl inB_X11 (by decide) tw6_182 rfl dX11_isMarked_8 rfl ?_
    refine w_iconst C 3 dX11_isMarked_11 rfl (by decide) ?_
    refine w_icmp_ne C (qt := 32) dX11_isMarked_12 (by decide) rfl h (fun _ h => ?_) (fun _ h => ?_)
    · refine w_iconst C 0 dX11_isMarked_32 rfl (by decide) ?_
      exact w_rz1 hr (by decide) h (by decide) dX11_isMarked_33
    · refine w_aload_n C dX11_isMarked_15 rfl 0 rfl ?_
      refine w_get C 0 17 (Nat.le_of_ble_eq_true rfl) rfl rfl inB_X11 (by decide) tw6_178 rfl dX11_isMarked_16 rfl ?_
      refine w_aload_n C dX11_isMarked_19 rfl 0 rfl ?_
      refine w_get C 0 23 (Nat.le_of_ble_eq_true rfl) rfl rfl inB_X11 (by decide) tw6_184 rfl dX11_isMarked_20 rfl ?_
      refine w_iald C 17 700 0 (Nat.le_of_ble_eq_true rfl) (fun _ => rfl) rfl h dX11_isMarked_23 rfl (fun h => ?_)
      refine w_iload_n C dX11_isMarked_24 rfl 1 rfl ?_
      refine w_icmp_ne C (qt := 32) dX11_isMarked_25 (by decide) rfl h (fun _ h => ?_) (fun _ h => ?_)
      · refine w_iconst C 0 dX11_isMarked_32 rfl (by decide) ?_
        exact w_rz1 hr (by decide) h (by decide) dX11_isMarked_33
      · refine w_iconst C 1 dX11_isMarked_28 rfl (by decide) ?_
        refine w_goto (q := 33) C dX11_isMarked_29 (by decide) ?_
        exact w_rz1 hr (by decide) h (by decide) dX11_isMarked_33
theorem cfX11_isMarked (D : va_G) (cI cT : ClassId) (ad : Nat → Nat) {l : Launch} (had : gAp (gM D cI cT ad)) {F : Nat} {σ : St} {a0 : Int32} {r : Int32} (h : fX11_isMarked F σ a0 = some r) : MI l yX11_isMarked (wB yX11_isMarked cX11_isMarked 2 (some .boolean)) 0 0 (gM D cI cT ad) [.ref (ad 0), .int a0] σ r σ := mk_MZ had (by decide +kernel) (Nat.le_of_ble_eq_true rfl) (fun X hX C hr => wfX11_isMarked C hr h)

def fX11_mark (F : Nat) (σ : St) (a0 : Int32) : Option St := jn (fun v1 : St => if (v1 0 25) = 0 then (bd1 (fX11_stepOn F v1) fun u4 => some u4) else some v1) fun J2 => if (σ 0 25) = 0 then (bd1 (fX11_isMarked F σ a0) fun r5 => if r5 = 0 then (bd1 (fX11_wrong F σ 1) fun u6 => J2 u6) else J2 σ) else J2 σ
set_option maxRecDepth 20000 in
theorem wfX11_mark {X : XT} {D : va_G} {cI cT : ClassId} {ad : Nat → Nat} {F : Nat} {σ : St} {a0 : Int32} {σ' : St} (C : Cx X (gM D cI cT ad) cX11_mark 2 RX11 2 42 0) (hr : RetV X (gM D cI cT ad) cX11_mark 2 0 σ') (h : fX11_mark F σ a0 = some σ') : WP X (gM D cI cT ad) 2 0 0 σ [(0, .ref (ad 0)), (1, .int a0)] [] := by
  unfold fX11_mark at h
  refine w_aload_n C dX11_mark_0 rfl 0 rfl ?_
  refine w_get C 0 25 (Nat.le_of_ble_eq_true rfl) rfl rfl inB_X11 (by decide) tw6_186 rfl dX11_mark_1 rfl ?_
  refine jn_w (fun v1 : St => WP X (gM D cI cT ad) 2 0 20 v1 [(0, .ref (ad 0))] []) h (fun v1 h => ?_) (fun J2 hJ3 h => ?_)
  · refine w_aload_n C dX11_mark_20 rfl 0 rfl ?_
    refine w_get C 0 25 (Nat.le_of_ble_eq_true rfl) rfl rfl inB_X11 (by decide) tw6_186 rfl dX11_mark_21 rfl ?_
    refine w_if_ne C (qt := 31) dX11_mark_24 (by decide) rfl h (fun _ h => ?_) (fun _ h => ?_)
    · exact w_rv hr h (by decide) dX11_mark_31
    · refine w_aload_n C dX11_mark_27 rfl 0 rfl ?_
      refine bd1_w h (fun u4 hc h => ?_)
      refine w_callVv C (n := 0) (As := []) (st := []) 0 (Nat.le_of_ble_eq_true rfl) rfl rfl (cfX11_stepOn D cI cT ad (l := X.2.1) C.2.2.1 hc) tw7_121 cy_X11_stepOn (by decide +kernel) ⟨Nat.le_of_ble_eq_true rfl, Nat.le_of_ble_eq_true rfl⟩ (by decide) rfl rfl (Nat.le_of_ble_eq_true rfl) dX11_mark_28 rfl ?_
      exact w_rv hr h (by decide) dX11_mark_31
  · refine w_if_ne C (qt := 20) dX11_mark_4 (by decide) rfl h (fun _ h => ?_) (fun _ h => ?_)
    · exact w_sub (lv' := [(0, .ref (ad 0))]) [0] rfl (hJ3 σ h)
    · refine w_aload_n C dX11_mark_7 rfl 0 rfl ?_
      refine w_iload_n C dX11_mark_8 rfl 1 rfl ?_
      refine bd1_w h (fun r5 hc h => ?_)
      refine w_callVi C (n := 1) (As := [.int a0]) (st := []) 0 (Nat.le_of_ble_eq_true rfl) rfl rfl (cfX11_isMarked D cI cT ad (l := X.2.1) C.2.2.1 hc) tw7_172 cy_X11_isMarked (by decide +kernel) ⟨Nat.le_of_ble_eq_true rfl, Nat.le_of_ble_eq_true rfl⟩ (by decide) rfl rfl (Nat.le_of_ble_eq_true rfl) dX11_mark_9 rfl ?_
      refine w_if_ne C (qt := 20) dX11_mark_12 (by decide) rfl h (fun _ h => ?_) (fun _ h => ?_)
      · exact w_sub (lv' := [(0, .ref (ad 0))]) [0] rfl (hJ3 σ h)
      · refine w_aload_n C dX11_mark_15 rfl 0 rfl ?_
        refine w_iconst C 1 dX11_mark_16 rfl (by decide) ?_
        refine bd1_w h (fun u6 hc h => ?_)
        refine w_callVv C (n := 1) (As := [.int 1]) (st := []) 0 (Nat.le_of_ble_eq_true rfl) rfl rfl (cfX11_wrong D cI cT ad (l := X.2.1) C.2.2.1 hc) tw7_156 cy_X11_wrong (by decide +kernel) ⟨Nat.le_of_ble_eq_true rfl, Nat.le_of_ble_eq_true rfl⟩ (by decide) rfl rfl (Nat.le_of_ble_eq_true rfl) dX11_mark_17 rfl ?_
        exact w_sub (lv' := [(0, .ref (ad 0))]) [0] rfl (hJ3 u6 h)
theorem cfX11_mark (D : va_G) (cI cT : ClassId) (ad : Nat → Nat) {l : Launch} (had : gAp (gM D cI cT ad)) {F : Nat} {σ : St} {a0 : Int32} {σ' : St} (h : fX11_mark F σ a0 = some σ') : MV l yX11_mark (wB yX11_mark cX11_mark 2 none) 2 42 (gM D cI cT ad) [.ref (ad 0), .int a0] σ σ' := mk_MV had (by decide +kernel) (Nat.le_of_ble_eq_true rfl) (fun X hX C hr => wfX11_mark C hr h)

def fX11_numberNow (F : Nat) (σ : St) (a0 : Int32) (a1 : Int32) : Option (Int32 × St) := if (σ 0 25) = 0 then (jn (fun v1 : St => if (v1 0 25) = 0 then (some (v1 0 22, v1)) else some (0, v1)) fun J2 => if (σ 0 21) = (2 : Int32) then (jn (fun v4 : Unit => bd1 (fX11_wrong F σ 2) fun u7 => J2 u7) fun J5 => if (4 : Int32) < ((σ 0 24) - (σ 0 23)) then (J5 (())) else if (σ 0 22) < a0 then (J5 (())) else if (σ 0 22) ≤ a1 then (J2 σ) else J5 (())) else bd1 (fX11_wrong F σ 1) fun u8 => J2 u8) else some (0, σ)
set_option maxRecDepth 20000 in
theorem wfX11_numberNow {X : XT} {D : va_G} {cI cT : ClassId} {ad : Nat → Nat} {F : Nat} {σ : St} {a0 : Int32} {a1 : Int32} {r : Int32} {σ' : St} (C : Cx X (gM D cI cT ad) cX11_numberNow 3 RX11 1 21 0) (hr : RetI X (gM D cI cT ad) cX11_numberNow 3 0 r σ') (h : fX11_numberNow F σ a0 a1 = some (r, σ')) : WP X (gM D cI cT ad) 3 0 0 σ [(0, .ref (ad 0)), (1, .int a0), (2, .int a1)] [] := by
  unfold fX11_numberNow at h
  refine w_aload_n C dX11_numberNow_0 rfl 0 rfl ?_
  refine w_get C 0 25 (Nat.le_of_ble_eq_true rfl) rfl rfl inB_X11 (by decide) tw6_186 rfl dX11_numberNow_1 rfl ?_
  refine w_if_eq C (qt := 9) dX11_numberNow_4 (by decide) rfl h (fun _ h => ?_) (fun _ h => ?_)
  · refine w_aload_n C dX11_numberNow_9 rfl 0 rfl ?_
    refine w_get C 0 21 (Nat.le_of_ble_eq_true rfl) rfl rfl inB_X11 (by decide) tw6_182 rfl dX11_numberNow_10 rfl ?_
    refine w_iconst C 2 dX11_numberNow_13 rfl (by decide) ?_
    refine jn_w (fun v1 : St => WP X (gM D cI cT ad) 3 0 59 v1 [(0, .ref (ad 0))] []) h (fun v1 h => ?_) (fun J2 hJ3 h => ?_)
    · refine w_aload_n C dX11_numberNow_59 rfl 0 rfl ?_
      refine w_get C 0 25 (Nat.le_of_ble_eq_true rfl) rfl rfl inB_X11 (by decide) tw6_186 rfl dX11_numberNow_60 rfl ?_
      refine w_if_ne C (qt := 73) dX11_numberNow_63 (by decide) rfl h (fun _ h => ?_) (fun _ h => ?_)
      · refine w_iconst C 0 dX11_numberNow_73 rfl (by decide) ?_
        exact w_ri2 hr h (by decide) dX11_numberNow_74
      · refine w_aload_n C dX11_numberNow_66 rfl 0 rfl ?_
        refine w_get C 0 22 (Nat.le_of_ble_eq_true rfl) rfl rfl inB_X11 (by decide) tw6_183 rfl dX11_numberNow_67 rfl ?_
        refine w_goto (q := 74) C dX11_numberNow_70 (by decide) ?_
        exact w_ri2 hr h (by decide) dX11_numberNow_74
    · refine w_icmp_eq C (qt := 25) dX11_numberNow_14 (by decide) rfl h (fun _ h => ?_) (fun _ h => ?_)
      · refine w_aload_n C dX11_numberNow_25 rfl 0 rfl ?_
        refine w_get C 0 24 (Nat.le_of_ble_eq_true rfl) rfl rfl inB_X11 (by decide) tw6_185 rfl dX11_numberNow_26 rfl ?_
        refine w_aload_n C dX11_numberNow_29 rfl 0 rfl ?_
        refine w_get C 0 23 (Nat.le_of_ble_eq_true rfl) rfl rfl inB_X11 (by decide) tw6_184 rfl dX11_numberNow_30 rfl ?_
        refine w_isub C dX11_numberNow_33 rfl ?_
        refine w_iconst C 4 dX11_numberNow_34 rfl (by decide) ?_
        refine jn_w (fun v4 : Unit => WP X (gM D cI cT ad) 3 0 54 σ [(0, .ref (ad 0))] []) h (fun v4 h => ?_) (fun J5 hJ6 h => ?_)
        · refine w_aload_n C dX11_numberNow_54 rfl 0 rfl ?_
          refine w_iconst C 2 dX11_numberNow_55 rfl (by decide) ?_
          refine bd1_w h (fun u7 hc h => ?_)
          refine w_callVv C (n := 1) (As := [.int 2]) (st := []) 0 (Nat.le_of_ble_eq_true rfl) rfl rfl (cfX11_wrong D cI cT ad (l := X.2.1) C.2.2.1 hc) tw7_156 cy_X11_wrong (by decide +kernel) ⟨Nat.le_of_ble_eq_true rfl, Nat.le_of_ble_eq_true rfl⟩ (by decide) rfl rfl (Nat.le_of_ble_eq_true rfl) dX11_numberNow_56 rfl ?_
          exact w_sub (lv' := [(0, .ref (ad 0))]) [0] rfl (hJ3 u7 h)
        · refine w_icmp_gt C (qt := 54) dX11_numberNow_35 (by decide) rfl h (fun _ h => ?_) (fun _ h => ?_)
          · exact w_sub (lv' := [(0, .ref (ad 0))]) [0] rfl (hJ6 (()) h)
          · refine w_aload_n C dX11_numberNow_38 rfl 0 rfl ?_
            refine w_get C 0 22 (Nat.le_of_ble_eq_true rfl) rfl rfl inB_X11 (by decide) tw6_183 rfl dX11_numberNow_39 rfl ?_
            refine w_iload_n C dX11_numberNow_42 rfl 1 rfl ?_
            refine w_icmp_lt C (qt := 54) dX11_numberNow_43 (by decide) rfl h (fun _ h => ?_) (fun _ h => ?_)
            · exact w_sub (lv' := [(0, .ref (ad 0))]) [0] rfl (hJ6 (()) h)
            · refine w_aload_n C dX11_numberNow_46 rfl 0 rfl ?_
              refine w_get C 0 22 (Nat.le_of_ble_eq_true rfl) rfl rfl inB_X11 (by decide) tw6_183 rfl dX11_numberNow_47 rfl ?_
              refine w_iload_n C dX11_numberNow_50 rfl 2 rfl ?_
              refine w_icmp_le C (qt := 59) dX11_numberNow_51 (by decide) rfl h (fun _ h => ?_) (fun _ h => ?_)
              · exact w_sub (lv' := [(0, .ref (ad 0))]) [0] rfl (hJ3 σ h)
              · exact w_sub (lv' := [(0, .ref (ad 0))]) [0] rfl (hJ6 (()) h)
      · refine w_aload_n C dX11_numberNow_17 rfl 0 rfl ?_
        refine w_iconst C 1 dX11_numberNow_18 rfl (by decide) ?_
        refine bd1_w h (fun u8 hc h => ?_)
        refine w_callVv C (n := 1) (As := [.int 1]) (st := []) 0 (Nat.le_of_ble_eq_true rfl) rfl rfl (cfX11_wrong D cI cT ad (l := X.2.1) C.2.2.1 hc) tw7_156 cy_X11_wrong (by decide +kernel) ⟨Nat.le_of_ble_eq_true rfl, Nat.le_of_ble_eq_true rfl⟩ (by decide) rfl rfl (Nat.le_of_ble_eq_true rfl) dX11_numberNow_19 rfl ?_
        refine w_goto (q := 59) C dX11_numberNow_22 (by decide) ?_
        exact w_sub (lv' := [(0, .ref (ad 0))]) [0] rfl (hJ3 u8 h)
  · refine w_iconst C 0 dX11_numberNow_7 rfl (by decide) ?_
    exact w_ri2 hr h (by decide) dX11_numberNow_8
theorem cfX11_numberNow (D : va_G) (cI cT : ClassId) (ad : Nat → Nat) {l : Launch} (had : gAp (gM D cI cT ad)) {F : Nat} {σ : St} {a0 : Int32} {a1 : Int32} {r : Int32} {σ' : St} (h : fX11_numberNow F σ a0 a1 = some (r, σ')) : MI l yX11_numberNow (wB yX11_numberNow cX11_numberNow 3 (some .int)) 1 21 (gM D cI cT ad) [.ref (ad 0), .int a0, .int a1] σ r σ' := mk_MI had (by decide +kernel) (Nat.le_of_ble_eq_true rfl) (fun X hX C hr => wfX11_numberNow C hr h)

def fX11_readNumber (F : Nat) (σ : St) (a0 : Int32) (a1 : Int32) : Option (Int32 × St) := bd2 (fX11_numberNow F σ a0 a1) fun r1 u2 => if (u2 0 25) = 0 then (bd1 (fX11_stepOn F u2) fun u3 => some (r1, u3)) else some (r1, u2)
set_option maxRecDepth 20000 in
theorem wfX11_readNumber {X : XT} {D : va_G} {cI cT : ClassId} {ad : Nat → Nat} {F : Nat} {σ : St} {a0 : Int32} {a1 : Int32} {r : Int32} {σ' : St} (C : Cx X (gM D cI cT ad) cX11_readNumber 4 RX11 2 43 0) (hr : RetI X (gM D cI cT ad) cX11_readNumber 4 0 r σ') (h : fX11_readNumber F σ a0 a1 = some (r, σ')) : WP X (gM D cI cT ad) 4 0 0 σ [(0, .ref (ad 0)), (1, .int a0), (2, .int a1)] [] := by
  unfold fX11_readNumber at h
  refine w_aload_n C dX11_readNumber_0 rfl 0 rfl ?_
  refine w_iload_n C dX11_readNumber_1 rfl 1 rfl ?_
  refine w_iload_n C dX11_readNumber_2 rfl 2 rfl ?_
  refine bd2_w h (fun r1 u2 hc h => ?_)
  refine w_callVi C (n := 2) (As := [.int a0, .int a1]) (st := []) 0 (Nat.le_of_ble_eq_true rfl) rfl rfl (cfX11_numberNow D cI cT ad (l := X.2.1) C.2.2.1 hc) tw7_164 cy_X11_numberNow (by decide +kernel) ⟨Nat.le_of_ble_eq_true rfl, Nat.le_of_ble_eq_true rfl⟩ (by decide) rfl rfl (Nat.le_of_ble_eq_true rfl) dX11_readNumber_3 rfl ?_
  refine w_istore_n C [(3, .int r1), (0, .ref (ad 0)), (1, .int a0), (2, .int a1)] dX11_readNumber_6 rfl (by decide) rfl ?_
  refine w_aload_n C dX11_readNumber_7 rfl 1 rfl ?_
  refine w_get C 0 25 (Nat.le_of_ble_eq_true rfl) rfl rfl inB_X11 (by decide) tw6_186 rfl dX11_readNumber_8 rfl ?_
  refine w_if_ne C (qt := 18) dX11_readNumber_11 (by decide) rfl h (fun _ h => ?_) (fun _ h => ?_)
  · refine w_iload_n C dX11_readNumber_18 rfl 0 rfl ?_
    exact w_ri2 hr h (by decide) dX11_readNumber_19
  · refine w_aload_n C dX11_readNumber_14 rfl 1 rfl ?_
    refine bd1_w h (fun u3 hc h => ?_)
    refine w_callVv C (n := 0) (As := []) (st := []) 0 (Nat.le_of_ble_eq_true rfl) rfl rfl (cfX11_stepOn D cI cT ad (l := X.2.1) C.2.2.1 hc) tw7_121 cy_X11_stepOn (by decide +kernel) ⟨Nat.le_of_ble_eq_true rfl, Nat.le_of_ble_eq_true rfl⟩ (by decide) rfl rfl (Nat.le_of_ble_eq_true rfl) dX11_readNumber_15 rfl ?_
    refine w_iload_n C dX11_readNumber_18 rfl 0 rfl ?_
    exact w_ri2 hr h (by decide) dX11_readNumber_19
theorem cfX11_readNumber (D : va_G) (cI cT : ClassId) (ad : Nat → Nat) {l : Launch} (had : gAp (gM D cI cT ad)) {F : Nat} {σ : St} {a0 : Int32} {a1 : Int32} {r : Int32} {σ' : St} (h : fX11_readNumber F σ a0 a1 = some (r, σ')) : MI l yX11_readNumber (wB yX11_readNumber cX11_readNumber 4 (some .int)) 2 43 (gM D cI cT ad) [.ref (ad 0), .int a0, .int a1] σ r σ' := mk_MI had (by decide +kernel) (Nat.le_of_ble_eq_true rfl) (fun X hX C hr => wfX11_readNumber C hr h)

def fX11_valleyNow (F : Nat) (σ : St) : Option (Int32 × St) := bd2 (fX11_numberNow F σ 0 9999) fun r1 u2 => jn (fun v3 : St => if (v3 0 25) = 0 then (some (r1, v3)) else some (0, v3)) fun J4 => if (u2 0 25) = 0 then (if r1 < (u2 5 4) then (J4 u2) else bd1 (fX11_wrong F u2 3) fun u6 => J4 u6) else J4 u2
set_option maxRecDepth 20000 in
theorem wfX11_valleyNow {X : XT} {D : va_G} {cI cT : ClassId} {ad : Nat → Nat} {F : Nat} {σ : St}  {r : Int32} {σ' : St} (C : Cx X (gM D cI cT ad) cX11_valleyNow 2 RX11 2 43 0) (hr : RetI X (gM D cI cT ad) cX11_valleyNow 2 0 r σ') (h : fX11_valleyNow F σ = some (r, σ')) : WP X (gM D cI cT ad) 2 0 0 σ [(0, .ref (ad 0))] [] := by
  unfold fX11_valleyNow at h
  refine w_aload_n C dX11_valleyNow_0 rfl 0 rfl ?_
  refine w_iconst C 0 dX11_valleyNow_1 rfl (by decide) ?_
  refine w_sipush C 9999 dX11_valleyNow_2 rfl (by decide) ?_
  refine bd2_w h (fun r1 u2 hc h => ?_)
  refine w_callVi C (n := 2) (As := [.int 0, .int 9999]) (st := []) 0 (Nat.le_of_ble_eq_true rfl) rfl rfl (cfX11_numberNow D cI cT ad (l := X.2.1) C.2.2.1 hc) tw7_164 cy_X11_numberNow (by decide +kernel) ⟨Nat.le_of_ble_eq_true rfl, Nat.le_of_ble_eq_true rfl⟩ (by decide) rfl rfl (Nat.le_of_ble_eq_true rfl) dX11_valleyNow_5 rfl ?_
  refine w_istore_n C [(1, .int r1), (0, .ref (ad 0))] dX11_valleyNow_8 rfl (by decide) rfl ?_
  refine w_aload_n C dX11_valleyNow_9 rfl 1 rfl ?_
  refine w_get C 0 25 (Nat.le_of_ble_eq_true rfl) rfl rfl inB_X11 (by decide) tw6_186 rfl dX11_valleyNow_10 rfl ?_
  refine jn_w (fun v3 : St => WP X (gM D cI cT ad) 2 0 31 v3 [(1, .int r1), (0, .ref (ad 0))] []) h (fun v3 h => ?_) (fun J4 hJ5 h => ?_)
  · refine w_aload_n C dX11_valleyNow_31 rfl 1 rfl ?_
    refine w_get C 0 25 (Nat.le_of_ble_eq_true rfl) rfl rfl inB_X11 (by decide) tw6_186 rfl dX11_valleyNow_32 rfl ?_
    refine w_if_ne C (qt := 42) dX11_valleyNow_35 (by decide) rfl h (fun _ h => ?_) (fun _ h => ?_)
    · refine w_iconst C 0 dX11_valleyNow_42 rfl (by decide) ?_
      exact w_ri2 hr h (by decide) dX11_valleyNow_43
    · refine w_iload_n C dX11_valleyNow_38 rfl 0 rfl ?_
      refine w_goto (q := 43) C dX11_valleyNow_39 (by decide) ?_
      exact w_ri2 hr h (by decide) dX11_valleyNow_43
  · refine w_if_ne C (qt := 31) dX11_valleyNow_13 (by decide) rfl h (fun _ h => ?_) (fun _ h => ?_)
    · exact w_sub (lv' := [(1, .int r1), (0, .ref (ad 0))]) [0, 1] rfl (hJ5 u2 h)
    · refine w_iload_n C dX11_valleyNow_16 rfl 0 rfl ?_
      refine w_aload_n C dX11_valleyNow_17 rfl 1 rfl ?_
      refine w_get C 0 5 (Nat.le_of_ble_eq_true rfl) rfl rfl inB_X11 (by decide) tw6_166 rfl dX11_valleyNow_18 rfl ?_
      refine w_iconst C 4 dX11_valleyNow_21 rfl (by decide) ?_
      refine w_ialdc C 5 8 0 4 (Nat.le_of_ble_eq_true rfl) (fun _ => rfl) rfl (by decide) (by show ¬ (_ ∨ _); decide) dX11_valleyNow_22 rfl ?_
      refine w_icmp_lt C (qt := 31) dX11_valleyNow_23 (by decide) rfl h (fun _ h => ?_) (fun _ h => ?_)
      · exact w_sub (lv' := [(1, .int r1), (0, .ref (ad 0))]) [0, 1] rfl (hJ5 u2 h)
      · refine w_aload_n C dX11_valleyNow_26 rfl 1 rfl ?_
        refine w_iconst C 3 dX11_valleyNow_27 rfl (by decide) ?_
        refine bd1_w h (fun u6 hc h => ?_)
        refine w_callVv C (n := 1) (As := [.int 3]) (st := []) 0 (Nat.le_of_ble_eq_true rfl) rfl rfl (cfX11_wrong D cI cT ad (l := X.2.1) C.2.2.1 hc) tw7_156 cy_X11_wrong (by decide +kernel) ⟨Nat.le_of_ble_eq_true rfl, Nat.le_of_ble_eq_true rfl⟩ (by decide) rfl rfl (Nat.le_of_ble_eq_true rfl) dX11_valleyNow_28 rfl ?_
        exact w_sub (lv' := [(1, .int r1), (0, .ref (ad 0))]) [0, 1] rfl (hJ5 u6 h)
theorem cfX11_valleyNow (D : va_G) (cI cT : ClassId) (ad : Nat → Nat) {l : Launch} (had : gAp (gM D cI cT ad)) {F : Nat} {σ : St}  {r : Int32} {σ' : St} (h : fX11_valleyNow F σ = some (r, σ')) : MI l yX11_valleyNow (wB yX11_valleyNow cX11_valleyNow 2 (some .int)) 2 43 (gM D cI cT ad) [.ref (ad 0)] σ r σ' := mk_MI had (by decide +kernel) (Nat.le_of_ble_eq_true rfl) (fun X hX C hr => wfX11_valleyNow C hr h)

def fX11_lay (F : Nat) (σ : St) (a0 : Int32) : Option St := if (σ 0 25) = 0 then (ckI (700 + (σ 5 7)) 1400 (nm (up σ 15 (Int32.toNatClampNeg (700 + (σ 5 7))) a0) fun u1 => nm (up u1 5 7 ((u1 5 7) + 1)) fun u2 => some u2)) else some σ
set_option maxRecDepth 20000 in
theorem wfX11_lay {X : XT} {D : va_G} {cI cT : ClassId} {ad : Nat → Nat} {F : Nat} {σ : St} {a0 : Int32} {σ' : St} (C : Cx X (gM D cI cT ad) cX11_lay 2 RX11 0 0 0) (hr : RetV X (gM D cI cT ad) cX11_lay 2 0 σ') (h : fX11_lay F σ a0 = some σ') : WP X (gM D cI cT ad) 2 0 0 σ [(0, .ref (ad 0)), (1, .int a0)] [] := by
  unfold fX11_lay at h
  refine w_aload_n C dX11_lay_0 rfl 0 rfl ?_
  refine w_get C 0 25 (Nat.le_of_ble_eq_true rfl) rfl rfl inB_X11 (by decide) tw6_186 rfl dX11_lay_1 rfl ?_
  refine w_if_eq C (qt := 8) dX11_lay_4 (by decide) rfl h (fun _ h => ?_) (fun _ h => ?_)
  · refine w_aload_n C dX11_lay_8 rfl 0 rfl ?_
    refine w_get C 0 15 (Nat.le_of_ble_eq_true rfl) rfl rfl inB_X11 (by decide) tw6_176 rfl dX11_lay_9 rfl ?_
    refine w_sipush C 700 dX11_lay_12 rfl (by decide) ?_
    refine w_aload_n C dX11_lay_15 rfl 0 rfl ?_
    refine w_get C 0 5 (Nat.le_of_ble_eq_true rfl) rfl rfl inB_X11 (by decide) tw6_166 rfl dX11_lay_16 rfl ?_
    refine w_bipush C 7 dX11_lay_19 rfl (by decide) ?_
    refine w_ialdc C 5 8 0 7 (Nat.le_of_ble_eq_true rfl) (fun _ => rfl) rfl (by decide) (by show ¬ (_ ∨ _); decide) dX11_lay_21 rfl ?_
    refine w_iadd C dX11_lay_22 rfl ?_
    refine w_iload_n C dX11_lay_23 rfl 1 rfl ?_
    refine w_iast C 15 1400 0 (Nat.le_of_ble_eq_true rfl) (fun _ => rfl) rfl h dX11_lay_24 rfl (fun h => ?_)
    refine w_nst h (fun u1 h => ?_)
    refine w_aload_n C dX11_lay_25 rfl 0 rfl ?_
    refine w_get C 0 5 (Nat.le_of_ble_eq_true rfl) rfl rfl inB_X11 (by decide) tw6_166 rfl dX11_lay_26 rfl ?_
    refine w_bipush C 7 dX11_lay_29 rfl (by decide) ?_
    refine w_dup2 C rfl rfl dX11_lay_31 rfl ?_
    refine w_ialdc C 5 8 0 7 (Nat.le_of_ble_eq_true rfl) (fun _ => rfl) rfl (by decide) (by show ¬ (_ ∨ _); decide) dX11_lay_32 rfl ?_
    refine w_iconst C 1 dX11_lay_33 rfl (by decide) ?_
    refine w_iadd C dX11_lay_34 rfl ?_
    refine w_iastc C 5 8 0 7 (Nat.le_of_ble_eq_true rfl) (fun _ => rfl) rfl (by decide) (by show ¬ (_ ∨ _); decide) dX11_lay_35 rfl ?_
    refine w_nst h (fun u2 h => ?_)
    exact w_rv hr h (by decide) dX11_lay_36
  · exact w_rv hr h (by decide) dX11_lay_7
theorem cfX11_lay (D : va_G) (cI cT : ClassId) (ad : Nat → Nat) {l : Launch} (had : gAp (gM D cI cT ad)) {F : Nat} {σ : St} {a0 : Int32} {σ' : St} (h : fX11_lay F σ a0 = some σ') : MV l yX11_lay (wB yX11_lay cX11_lay 2 none) 0 0 (gM D cI cT ad) [.ref (ad 0), .int a0] σ σ' := mk_MV had (by decide +kernel) (Nat.le_of_ble_eq_true rfl) (fun X hX C hr => wfX11_lay C hr h)

def fX11_which (F : Nat) (σ : St) : Option Int32 := lp (fun (K2 : Int32 → Option Int32) (v1 : Int32) => if (6 : Int32) ≤ v1 then (some ((-1))) else ckI (v1) 6 (bd1 (fX11_is F σ (([8, 9, 10, 2, 11, 12] : List Nat).getD (Int32.toNatClampNeg v1) 0)) fun r4 => if r4 = 0 then (K2 (v1 + 1)) else some v1)) F 0
set_option maxRecDepth 20000 in
theorem wfX11_which {X : XT} {D : va_G} {cI cT : ClassId} {ad : Nat → Nat} {F : Nat} {σ : St}  {r : Int32} (C : Cx X (gM D cI cT ad) cX11_which 3 RX11 5 108 0) (hr : RetI X (gM D cI cT ad) cX11_which 3 0 r σ) (h : fX11_which F σ = some r) : WP X (gM D cI cT ad) 3 0 0 σ [(0, .ref (ad 0)), (1, .ref (ad 2))] [] := by
  unfold fX11_which at h
  refine w_iconst C 0 dX11_which_0 rfl (by decide) ?_
  refine w_istore_n C [(2, .int 0), (0, .ref (ad 0)), (1, .ref (ad 2))] dX11_which_1 rfl (by decide) rfl ?_
  refine w_sub (lv' := [(2, .int 0), (0, .ref (ad 0)), (1, .ref (ad 2))]) [0, 1, 2] rfl ?_
  refine lp_w (fun v1 : Int32 => WP X (gM D cI cT ad) 3 0 2 σ [(2, .int v1), (0, .ref (ad 0)), (1, .ref (ad 2))] []) (fun K2 hK3 v1 h => ?_) F _ h
  refine w_iload_n C dX11_which_2 rfl 0 rfl ?_
  refine w_aload_n C dX11_which_3 rfl 2 rfl ?_
  refine w_alenS C 2 6 1 6 (fun j => ([8, 9, 10, 2, 11, 12] : List Nat).getD j 0) (Nat.le_of_ble_eq_true rfl) (fun _ => rfl) rfl (by decide) dX11_which_4 rfl ?_
  refine w_icmp_ge C (qt := 26) dX11_which_5 (by decide) rfl h (fun _ h => ?_) (fun _ h => ?_)
  · refine w_iconst C (-1) dX11_which_26 rfl (by decide) ?_
    exact w_ri1 hr h (by decide) dX11_which_27
  · refine w_aload_n C dX11_which_8 rfl 1 rfl ?_
    refine w_aload_n C dX11_which_9 rfl 2 rfl ?_
    refine w_iload_n C dX11_which_10 rfl 0 rfl ?_
    refine w_aaldS C 2 6 1 (fun j => ([8, 9, 10, 2, 11, 12] : List Nat).getD j 0) (Nat.le_of_ble_eq_true rfl) (fun _ => rfl) rfl h dX11_which_11 rfl (fun h => ?_)
    refine bd1_w h (fun r4 hc h => ?_)
    refine w_callVi C (n := 1) (As := [.ref (ad (1100 + (([8, 9, 10, 2, 11, 12] : List Nat).getD (Int32.toNatClampNeg v1) 0)))]) (st := []) 0 (Nat.le_of_ble_eq_true rfl) rfl rfl (cfX11_is D cI cT ad (l := X.2.1) C.2.2.1 hc) tw7_145 cy_X11_is (by decide +kernel) ⟨Nat.le_of_ble_eq_true rfl, Nat.le_of_ble_eq_true rfl⟩ (by decide) rfl rfl (Nat.le_of_ble_eq_true rfl) dX11_which_12 rfl ?_
    refine w_if_eq C (qt := 20) dX11_which_15 (by decide) rfl h (fun _ h => ?_) (fun _ h => ?_)
    · refine w_iinc (j := 0) C (v1 + 1) [(2, .int (v1 + 1)), (0, .ref (ad 0)), (1, .ref (ad 2))] dX11_which_20 rfl rfl rfl (by decide) rfl ?_
      refine w_goto (q := 2) C dX11_which_23 (by decide) ?_
      exact w_sub (lv' := [(2, .int (v1 + 1)), (0, .ref (ad 0)), (1, .ref (ad 2))]) [0, 1, 2] rfl (hK3 (v1 + 1) h)
    · refine w_iload_n C dX11_which_18 rfl 0 rfl ?_
      exact w_ri1 hr h (by decide) dX11_which_19
theorem cfX11_which (D : va_G) (cI cT : ClassId) (ad : Nat → Nat) {l : Launch} (had : gAp (gM D cI cT ad)) {F : Nat} {σ : St}  {r : Int32} (h : fX11_which F σ = some r) : MI l yX11_which (wB yX11_which cX11_which 3 (some .int)) 5 108 (gM D cI cT ad) [.ref (ad 0), .ref (ad 2)] σ r σ := mk_MI had (by decide +kernel) (Nat.le_of_ble_eq_true rfl) (fun X hX C hr => wfX11_which C hr h)

def fX11_readPart (rx : St → Int32 →  Option St) (F : Nat) (σ : St) (a0 : Int32) : Option St := if (σ 0 25) = 0 then (if (σ 0 21) = (2 : Int32) then (bd2 (fX11_readNumber F σ 0 9999) fun r11 u12 => bd1 (fX11_lay F u12 r11) fun u13 => some u13) else if (σ 0 21) = (1 : Int32) then (bd1 (fX11_which F σ) fun r4 => jn (fun v5 : St => bd1 (fX11_lay F v5 (((-1)) - r4)) fun u8 => if (u8 0 25) = 0 then (bd1 (fX11_stepOn F u8) fun u9 => some u9) else some u8) fun J6 => if r4 = (-1 : Int32) then (bd1 (fX11_wrong F σ 3) fun u10 => J6 u10) else J6 σ) else bd1 (fX11_mark F σ 40) fun u1 => bd1 (rx u1 (a0 + 1)) fun u2 => bd1 (fX11_mark F u2 41) fun u3 => some u3) else some σ
set_option maxRecDepth 20000 in
theorem wfX11_readPart {X : XT} {D : va_G} {cI cT : ClassId} {ad : Nat → Nat} {F : Nat} {σ : St} {a0 : Int32} {σ' : St} {rx : St → Int32 →  Option St} {f0 l0 : Nat} (C : Cx X (gM D cI cT ad) cX11_readPart 3 RX11 (f0 + 6) (l0 + 130) 0) (hrx : ∀ (τ : St) (b0 : Int32) (τ' : St), rx τ b0 = some τ' → MV X.2.1 yX11_readExpression (wB yX11_readExpression cX11_readExpression 3 none) f0 l0 (gM D cI cT ad) [.ref (ad 0), .int b0] τ τ') (hr : RetV X (gM D cI cT ad) cX11_readPart 3 0 σ') (h : fX11_readPart rx F σ a0 = some σ') : WP X (gM D cI cT ad) 3 0 0 σ [(0, .ref (ad 0)), (1, .int a0)] [] := by
  unfold fX11_readPart at h
  refine w_aload_n C dX11_readPart_0 rfl 0 rfl ?_
  refine w_get C 0 25 (Nat.le_of_ble_eq_true rfl) rfl rfl inB_X11 (by decide) tw6_186 rfl dX11_readPart_1 rfl ?_
  refine w_if_eq C (qt := 8) dX11_readPart_4 (by decide) rfl h (fun _ h => ?_) (fun _ h => ?_)
  · refine w_aload_n C dX11_readPart_8 rfl 0 rfl ?_
    refine w_get C 0 21 (Nat.le_of_ble_eq_true rfl) rfl rfl inB_X11 (by decide) tw6_182 rfl dX11_readPart_9 rfl ?_
    refine w_iconst C 2 dX11_readPart_12 rfl (by decide) ?_
    refine w_icmp_ne C (qt := 29) dX11_readPart_13 (by decide) rfl h (fun _ h => ?_) (fun _ h => ?_)
    · refine w_aload_n C dX11_readPart_29 rfl 0 rfl ?_
      refine w_get C 0 21 (Nat.le_of_ble_eq_true rfl) rfl rfl inB_X11 (by decide) tw6_182 rfl dX11_readPart_30 rfl ?_
      refine w_iconst C 1 dX11_readPart_33 rfl (by decide) ?_
      refine w_icmp_ne C (qt := 75) dX11_readPart_34 (by decide) rfl h (fun _ h => ?_) (fun _ h => ?_)
      · refine w_aload_n C dX11_readPart_75 rfl 0 rfl ?_
        refine w_bipush C 40 dX11_readPart_76 rfl (by decide) ?_
        refine bd1_w h (fun u1 hc h => ?_)
        refine w_callVv C (n := 1) (As := [.int 40]) (st := []) 0 (Nat.le_of_ble_eq_true rfl) rfl rfl (cfX11_mark D cI cT ad (l := X.2.1) C.2.2.1 hc) tw7_201 cy_X11_mark (by decide +kernel) ⟨by omega, by omega⟩ (by decide) rfl rfl (Nat.le_of_ble_eq_true rfl) dX11_readPart_78 rfl ?_
        refine w_aload_n C dX11_readPart_81 rfl 0 rfl ?_
        refine w_iload_n C dX11_readPart_82 rfl 1 rfl ?_
        refine w_iconst C 1 dX11_readPart_83 rfl (by decide) ?_
        refine w_iadd C dX11_readPart_84 rfl ?_
        refine bd1_w h (fun u2 hc h => ?_)
        refine w_callVv C (n := 1) (As := [.int (a0 + 1)]) (st := []) 0 (Nat.le_of_ble_eq_true rfl) rfl rfl (hrx _ _ _ hc) tw7_168 cy_X11_readExpression (by decide +kernel) ⟨by omega, by omega⟩ (by decide) rfl rfl (Nat.le_of_ble_eq_true rfl) dX11_readPart_85 rfl ?_
        refine w_aload_n C dX11_readPart_88 rfl 0 rfl ?_
        refine w_bipush C 41 dX11_readPart_89 rfl (by decide) ?_
        refine bd1_w h (fun u3 hc h => ?_)
        refine w_callVv C (n := 1) (As := [.int 41]) (st := []) 0 (Nat.le_of_ble_eq_true rfl) rfl rfl (cfX11_mark D cI cT ad (l := X.2.1) C.2.2.1 hc) tw7_201 cy_X11_mark (by decide +kernel) ⟨by omega, by omega⟩ (by decide) rfl rfl (Nat.le_of_ble_eq_true rfl) dX11_readPart_91 rfl ?_
        exact w_rv hr h (by decide) dX11_readPart_94
      · refine w_aload_n C dX11_readPart_37 rfl 0 rfl ?_
        refine w_aload_n C dX11_readPart_38 rfl 0 rfl ?_
        refine w_get C 0 1 (Nat.le_of_ble_eq_true rfl) rfl rfl inB_X11 (by decide) tw6_162 rfl dX11_readPart_39 rfl ?_
        refine bd1_w h (fun r4 hc h => ?_)
        refine w_callVi C (n := 1) (As := [.ref (ad 2)]) (st := []) 0 (Nat.le_of_ble_eq_true rfl) rfl rfl (cfX11_which D cI cT ad (l := X.2.1) C.2.2.1 hc) tw7_152 cy_X11_which (by decide +kernel) ⟨by omega, by omega⟩ (by decide) rfl rfl (Nat.le_of_ble_eq_true rfl) dX11_readPart_42 rfl ?_
        refine w_istore_n C [(2, .int r4), (0, .ref (ad 0)), (1, .int a0)] dX11_readPart_45 rfl (by decide) rfl ?_
        refine w_iload_n C dX11_readPart_46 rfl 0 rfl ?_
        refine w_iconst C (-1) dX11_readPart_47 rfl (by decide) ?_
        refine jn_w (fun v5 : St => WP X (gM D cI cT ad) 3 0 56 v5 [(2, .int r4), (0, .ref (ad 0))] []) h (fun v5 h => ?_) (fun J6 hJ7 h => ?_)
        · refine w_aload_n C dX11_readPart_56 rfl 1 rfl ?_
          refine w_iconst C (-1) dX11_readPart_57 rfl (by decide) ?_
          refine w_iload_n C dX11_readPart_58 rfl 0 rfl ?_
          refine w_isub C dX11_readPart_59 rfl ?_
          refine bd1_w h (fun u8 hc h => ?_)
          refine w_callVv C (n := 1) (As := [.int (((-1)) - r4)]) (st := []) 0 (Nat.le_of_ble_eq_true rfl) rfl rfl (cfX11_lay D cI cT ad (l := X.2.1) C.2.2.1 hc) tw7_197 cy_X11_lay (by decide +kernel) ⟨by omega, by omega⟩ (by decide) rfl rfl (Nat.le_of_ble_eq_true rfl) dX11_readPart_60 rfl ?_
          refine w_aload_n C dX11_readPart_63 rfl 1 rfl ?_
          refine w_get C 0 25 (Nat.le_of_ble_eq_true rfl) rfl rfl inB_X11 (by decide) tw6_186 rfl dX11_readPart_64 rfl ?_
          refine w_if_ne C (qt := 74) dX11_readPart_67 (by decide) rfl h (fun _ h => ?_) (fun _ h => ?_)
          · exact w_rv hr h (by decide) dX11_readPart_74
          · refine w_aload_n C dX11_readPart_70 rfl 1 rfl ?_
            refine bd1_w h (fun u9 hc h => ?_)
            refine w_callVv C (n := 0) (As := []) (st := []) 0 (Nat.le_of_ble_eq_true rfl) rfl rfl (cfX11_stepOn D cI cT ad (l := X.2.1) C.2.2.1 hc) tw7_121 cy_X11_stepOn (by decide +kernel) ⟨by omega, by omega⟩ (by decide) rfl rfl (Nat.le_of_ble_eq_true rfl) dX11_readPart_71 rfl ?_
            exact w_rv hr h (by decide) dX11_readPart_74
        · refine w_icmp_ne C (qt := 56) dX11_readPart_48 (by decide) rfl h (fun _ h => ?_) (fun _ h => ?_)
          · exact w_sub (lv' := [(2, .int r4), (0, .ref (ad 0))]) [0, 1] rfl (hJ7 σ h)
          · refine w_aload_n C dX11_readPart_51 rfl 1 rfl ?_
            refine w_iconst C 3 dX11_readPart_52 rfl (by decide) ?_
            refine bd1_w h (fun u10 hc h => ?_)
            refine w_callVv C (n := 1) (As := [.int 3]) (st := []) 0 (Nat.le_of_ble_eq_true rfl) rfl rfl (cfX11_wrong D cI cT ad (l := X.2.1) C.2.2.1 hc) tw7_156 cy_X11_wrong (by decide +kernel) ⟨by omega, by omega⟩ (by decide) rfl rfl (Nat.le_of_ble_eq_true rfl) dX11_readPart_53 rfl ?_
            exact w_sub (lv' := [(2, .int r4), (0, .ref (ad 0))]) [0, 1] rfl (hJ7 u10 h)
    · refine w_aload_n C dX11_readPart_16 rfl 0 rfl ?_
      refine w_aload_n C dX11_readPart_17 rfl 0 rfl ?_
      refine w_iconst C 0 dX11_readPart_18 rfl (by decide) ?_
      refine w_sipush C 9999 dX11_readPart_19 rfl (by decide) ?_
      refine bd2_w h (fun r11 u12 hc h => ?_)
      refine w_callVi C (n := 2) (As := [.int 0, .int 9999]) (st := [.ref (ad 0)]) 0 (Nat.le_of_ble_eq_true rfl) rfl rfl (cfX11_readNumber D cI cT ad (l := X.2.1) C.2.2.1 hc) tw7_160 cy_X11_readNumber (by decide +kernel) ⟨by omega, by omega⟩ (by decide) rfl rfl (Nat.le_of_ble_eq_true rfl) dX11_readPart_22 rfl ?_
      refine bd1_w h (fun u13 hc h => ?_)
      refine w_callVv C (n := 1) (As := [.int r11]) (st := []) 0 (Nat.le_of_ble_eq_true rfl) rfl rfl (cfX11_lay D cI cT ad (l := X.2.1) C.2.2.1 hc) tw7_197 cy_X11_lay (by decide +kernel) ⟨by omega, by omega⟩ (by decide) rfl rfl (Nat.le_of_ble_eq_true rfl) dX11_readPart_25 rfl ?_
      exact w_rv hr h (by decide) dX11_readPart_28
  · exact w_rv hr h (by decide) dX11_readPart_7
theorem cfX11_readPart (D : va_G) (cI cT : ClassId) (ad : Nat → Nat) {l : Launch} (had : gAp (gM D cI cT ad)) {rx : St → Int32 →  Option St} {f0 l0 : Nat} (hrx : ∀ (τ : St) (b0 : Int32) (τ' : St), rx τ b0 = some τ' → MV l yX11_readExpression (wB yX11_readExpression cX11_readExpression 3 none) f0 l0 (gM D cI cT ad) [.ref (ad 0), .int b0] τ τ') {F : Nat} {σ : St} {a0 : Int32} {σ' : St} (h : fX11_readPart rx F σ a0 = some σ') : MV l yX11_readPart (wB yX11_readPart cX11_readPart 3 none) (f0 + 6) (l0 + 130) (gM D cI cT ad) [.ref (ad 0), .int a0] σ σ' := mk_MV had (by decide +kernel) (Nat.le_of_ble_eq_true rfl) (fun X hX C hr => wfX11_readPart C (by rw [hX]; exact hrx) hr h)

def fX11_readProduct (rx : St → Int32 →  Option St) (F : Nat) (σ : St) (a0 : Int32) : Option St := bd1 (fX11_readPart rx F σ a0) fun u1 => lp (fun (K3 : St → Option St) (v2 : St) => bd1 (fX11_isMarked F v2 42) fun r5 => jn (fun v6 : Unit => bd1 (fX11_isMarked F v2 42) fun r9 => jn (fun v10 : Int32 => bd1 (fX11_stepOn F v2) fun u13 => bd1 (fX11_readPart rx F u13 a0) fun u14 => bd1 (fX11_lay F u14 v10) fun u15 => K3 u15) fun J11 => if r9 = 0 then (J11 ((-23))) else J11 ((-22))) fun J7 => if r5 = 0 then (bd1 (fX11_isMarked F v2 47) fun r16 => if r16 = 0 then (some v2) else J7 (())) else J7 (())) F u1
set_option maxRecDepth 20000 in
theorem wfX11_readProduct {X : XT} {D : va_G} {cI cT : ClassId} {ad : Nat → Nat} {F : Nat} {σ : St} {a0 : Int32} {σ' : St} {rx : St → Int32 →  Option St} {f0 l0 : Nat} (C : Cx X (gM D cI cT ad) cX11_readProduct 3 RX11 (f0 + 7) (l0 + 152) 0) (hrx : ∀ (τ : St) (b0 : Int32) (τ' : St), rx τ b0 = some τ' → MV X.2.1 yX11_readExpression (wB yX11_readExpression cX11_readExpression 3 none) f0 l0 (gM D cI cT ad) [.ref (ad 0), .int b0] τ τ') (hr : RetV X (gM D cI cT ad) cX11_readProduct 3 0 σ') (h : fX11_readProduct rx F σ a0 = some σ') : WP X (gM D cI cT ad) 3 0 0 σ [(0, .ref (ad 0)), (1, .int a0)] [] := by
  unfold fX11_readProduct at h
  refine w_aload_n C dX11_readProduct_0 rfl 0 rfl ?_
  refine w_iload_n C dX11_readProduct_1 rfl 1 rfl ?_
  refine bd1_w h (fun u1 hc h => ?_)
  refine w_callVv C (n := 1) (As := [.int a0]) (st := []) 0 (Nat.le_of_ble_eq_true rfl) rfl rfl (cfX11_readPart D cI cT ad (l := X.2.1) C.2.2.1 hrx hc) tw7_193 cy_X11_readPart (by decide +kernel) ⟨by omega, by omega⟩ (by decide) rfl rfl (Nat.le_of_ble_eq_true rfl) dX11_readProduct_2 rfl ?_
  refine w_sub (lv' := [(0, .ref (ad 0)), (1, .int a0)]) [0, 1] rfl ?_
  refine lp_w (fun v2 : St => WP X (gM D cI cT ad) 3 0 5 v2 [(0, .ref (ad 0)), (1, .int a0)] []) (fun K3 hK4 v2 h => ?_) F _ h
  refine w_aload_n C dX11_readProduct_5 rfl 0 rfl ?_
  refine w_bipush C 42 dX11_readProduct_6 rfl (by decide) ?_
  refine bd1_w h (fun r5 hc h => ?_)
  refine w_callVi C (n := 1) (As := [.int 42]) (st := []) 0 (Nat.le_of_ble_eq_true rfl) rfl rfl (cfX11_isMarked D cI cT ad (l := X.2.1) C.2.2.1 hc) tw7_172 cy_X11_isMarked (by decide +kernel) ⟨by omega, by omega⟩ (by decide) rfl rfl (Nat.le_of_ble_eq_true rfl) dX11_readProduct_8 rfl ?_
  refine jn_w (fun v6 : Unit => WP X (gM D cI cT ad) 3 0 23 v2 [(0, .ref (ad 0)), (1, .int a0)] []) h (fun v6 h => ?_) (fun J7 hJ8 h => ?_)
  · refine w_aload_n C dX11_readProduct_23 rfl 0 rfl ?_
    refine w_bipush C 42 dX11_readProduct_24 rfl (by decide) ?_
    refine bd1_w h (fun r9 hc h => ?_)
    refine w_callVi C (n := 1) (As := [.int 42]) (st := []) 0 (Nat.le_of_ble_eq_true rfl) rfl rfl (cfX11_isMarked D cI cT ad (l := X.2.1) C.2.2.1 hc) tw7_172 cy_X11_isMarked (by decide +kernel) ⟨by omega, by omega⟩ (by decide) rfl rfl (Nat.le_of_ble_eq_true rfl) dX11_readProduct_26 rfl ?_
    refine jn_w (fun v10 : Int32 => WP X (gM D cI cT ad) 3 0 39 v2 [(0, .ref (ad 0)), (1, .int a0)] [.int v10]) h (fun v10 h => ?_) (fun J11 hJ12 h => ?_)
    · refine w_istore_n C [(2, .int v10), (0, .ref (ad 0)), (1, .int a0)] dX11_readProduct_39 rfl (by decide) rfl ?_
      refine w_aload_n C dX11_readProduct_40 rfl 1 rfl ?_
      refine bd1_w h (fun u13 hc h => ?_)
      refine w_callVv C (n := 0) (As := []) (st := []) 0 (Nat.le_of_ble_eq_true rfl) rfl rfl (cfX11_stepOn D cI cT ad (l := X.2.1) C.2.2.1 hc) tw7_121 cy_X11_stepOn (by decide +kernel) ⟨by omega, by omega⟩ (by decide) rfl rfl (Nat.le_of_ble_eq_true rfl) dX11_readProduct_41 rfl ?_
      refine w_aload_n C dX11_readProduct_44 rfl 1 rfl ?_
      refine w_iload_n C dX11_readProduct_45 rfl 2 rfl ?_
      refine bd1_w h (fun u14 hc h => ?_)
      refine w_callVv C (n := 1) (As := [.int a0]) (st := []) 0 (Nat.le_of_ble_eq_true rfl) rfl rfl (cfX11_readPart D cI cT ad (l := X.2.1) C.2.2.1 hrx hc) tw7_193 cy_X11_readPart (by decide +kernel) ⟨by omega, by omega⟩ (by decide) rfl rfl (Nat.le_of_ble_eq_true rfl) dX11_readProduct_46 rfl ?_
      refine w_aload_n C dX11_readProduct_49 rfl 1 rfl ?_
      refine w_iload_n C dX11_readProduct_50 rfl 0 rfl ?_
      refine bd1_w h (fun u15 hc h => ?_)
      refine w_callVv C (n := 1) (As := [.int v10]) (st := []) 0 (Nat.le_of_ble_eq_true rfl) rfl rfl (cfX11_lay D cI cT ad (l := X.2.1) C.2.2.1 hc) tw7_197 cy_X11_lay (by decide +kernel) ⟨by omega, by omega⟩ (by decide) rfl rfl (Nat.le_of_ble_eq_true rfl) dX11_readProduct_51 rfl ?_
      refine w_goto (q := 5) C dX11_readProduct_54 (by decide) ?_
      exact w_sub (lv' := [(0, .ref (ad 0)), (1, .int a0)]) [1, 2] rfl (hK4 u15 h)
    · refine w_if_eq C (qt := 37) dX11_readProduct_29 (by decide) rfl h (fun _ h => ?_) (fun _ h => ?_)
      · refine w_bipush C (-23) dX11_readProduct_37 rfl (by decide) ?_
        exact w_sub (lv' := [(0, .ref (ad 0)), (1, .int a0)]) [0, 1] rfl (hJ12 ((-23)) h)
      · refine w_bipush C (-22) dX11_readProduct_32 rfl (by decide) ?_
        refine w_goto (q := 39) C dX11_readProduct_34 (by decide) ?_
        exact w_sub (lv' := [(0, .ref (ad 0)), (1, .int a0)]) [0, 1] rfl (hJ12 ((-22)) h)
  · refine w_if_ne C (qt := 23) dX11_readProduct_11 (by decide) rfl h (fun _ h => ?_) (fun _ h => ?_)
    · exact w_sub (lv' := [(0, .ref (ad 0)), (1, .int a0)]) [0, 1] rfl (hJ8 (()) h)
    · refine w_aload_n C dX11_readProduct_14 rfl 0 rfl ?_
      refine w_bipush C 47 dX11_readProduct_15 rfl (by decide) ?_
      refine bd1_w h (fun r16 hc h => ?_)
      refine w_callVi C (n := 1) (As := [.int 47]) (st := []) 0 (Nat.le_of_ble_eq_true rfl) rfl rfl (cfX11_isMarked D cI cT ad (l := X.2.1) C.2.2.1 hc) tw7_172 cy_X11_isMarked (by decide +kernel) ⟨by omega, by omega⟩ (by decide) rfl rfl (Nat.le_of_ble_eq_true rfl) dX11_readProduct_17 rfl ?_
      refine w_if_eq C (qt := 57) dX11_readProduct_20 (by decide) rfl h (fun _ h => ?_) (fun _ h => ?_)
      · exact w_rv hr h (by decide) dX11_readProduct_57
      · exact w_sub (lv' := [(0, .ref (ad 0)), (1, .int a0)]) [0, 1] rfl (hJ8 (()) h)
theorem cfX11_readProduct (D : va_G) (cI cT : ClassId) (ad : Nat → Nat) {l : Launch} (had : gAp (gM D cI cT ad)) {rx : St → Int32 →  Option St} {f0 l0 : Nat} (hrx : ∀ (τ : St) (b0 : Int32) (τ' : St), rx τ b0 = some τ' → MV l yX11_readExpression (wB yX11_readExpression cX11_readExpression 3 none) f0 l0 (gM D cI cT ad) [.ref (ad 0), .int b0] τ τ') {F : Nat} {σ : St} {a0 : Int32} {σ' : St} (h : fX11_readProduct rx F σ a0 = some σ') : MV l yX11_readProduct (wB yX11_readProduct cX11_readProduct 3 none) (f0 + 7) (l0 + 152) (gM D cI cT ad) [.ref (ad 0), .int a0] σ σ' := mk_MV had (by decide +kernel) (Nat.le_of_ble_eq_true rfl) (fun X hX C hr => wfX11_readProduct C (by rw [hX]; exact hrx) hr h)

def fX11_readSum (rx : St → Int32 →  Option St) (F : Nat) (σ : St) (a0 : Int32) : Option St := bd1 (fX11_readProduct rx F σ a0) fun u1 => lp (fun (K3 : St → Option St) (v2 : St) => bd1 (fX11_isMarked F v2 43) fun r5 => jn (fun v6 : Unit => bd1 (fX11_isMarked F v2 43) fun r9 => jn (fun v10 : Int32 => bd1 (fX11_stepOn F v2) fun u13 => bd1 (fX11_readProduct rx F u13 a0) fun u14 => bd1 (fX11_lay F u14 v10) fun u15 => K3 u15) fun J11 => if r9 = 0 then (J11 ((-21))) else J11 ((-20))) fun J7 => if r5 = 0 then (bd1 (fX11_isMarked F v2 45) fun r16 => if r16 = 0 then (some v2) else J7 (())) else J7 (())) F u1
set_option maxRecDepth 20000 in
theorem wfX11_readSum {X : XT} {D : va_G} {cI cT : ClassId} {ad : Nat → Nat} {F : Nat} {σ : St} {a0 : Int32} {σ' : St} {rx : St → Int32 →  Option St} {f0 l0 : Nat} (C : Cx X (gM D cI cT ad) cX11_readSum 3 RX11 (f0 + 8) (l0 + 174) 0) (hrx : ∀ (τ : St) (b0 : Int32) (τ' : St), rx τ b0 = some τ' → MV X.2.1 yX11_readExpression (wB yX11_readExpression cX11_readExpression 3 none) f0 l0 (gM D cI cT ad) [.ref (ad 0), .int b0] τ τ') (hr : RetV X (gM D cI cT ad) cX11_readSum 3 0 σ') (h : fX11_readSum rx F σ a0 = some σ') : WP X (gM D cI cT ad) 3 0 0 σ [(0, .ref (ad 0)), (1, .int a0)] [] := by
  unfold fX11_readSum at h
  refine w_aload_n C dX11_readSum_0 rfl 0 rfl ?_
  refine w_iload_n C dX11_readSum_1 rfl 1 rfl ?_
  refine bd1_w h (fun u1 hc h => ?_)
  refine w_callVv C (n := 1) (As := [.int a0]) (st := []) 0 (Nat.le_of_ble_eq_true rfl) rfl rfl (cfX11_readProduct D cI cT ad (l := X.2.1) C.2.2.1 hrx hc) tw7_189 cy_X11_readProduct (by decide +kernel) ⟨by omega, by omega⟩ (by decide) rfl rfl (Nat.le_of_ble_eq_true rfl) dX11_readSum_2 rfl ?_
  refine w_sub (lv' := [(0, .ref (ad 0)), (1, .int a0)]) [0, 1] rfl ?_
  refine lp_w (fun v2 : St => WP X (gM D cI cT ad) 3 0 5 v2 [(0, .ref (ad 0)), (1, .int a0)] []) (fun K3 hK4 v2 h => ?_) F _ h
  refine w_aload_n C dX11_readSum_5 rfl 0 rfl ?_
  refine w_bipush C 43 dX11_readSum_6 rfl (by decide) ?_
  refine bd1_w h (fun r5 hc h => ?_)
  refine w_callVi C (n := 1) (As := [.int 43]) (st := []) 0 (Nat.le_of_ble_eq_true rfl) rfl rfl (cfX11_isMarked D cI cT ad (l := X.2.1) C.2.2.1 hc) tw7_172 cy_X11_isMarked (by decide +kernel) ⟨by omega, by omega⟩ (by decide) rfl rfl (Nat.le_of_ble_eq_true rfl) dX11_readSum_8 rfl ?_
  refine jn_w (fun v6 : Unit => WP X (gM D cI cT ad) 3 0 23 v2 [(0, .ref (ad 0)), (1, .int a0)] []) h (fun v6 h => ?_) (fun J7 hJ8 h => ?_)
  · refine w_aload_n C dX11_readSum_23 rfl 0 rfl ?_
    refine w_bipush C 43 dX11_readSum_24 rfl (by decide) ?_
    refine bd1_w h (fun r9 hc h => ?_)
    refine w_callVi C (n := 1) (As := [.int 43]) (st := []) 0 (Nat.le_of_ble_eq_true rfl) rfl rfl (cfX11_isMarked D cI cT ad (l := X.2.1) C.2.2.1 hc) tw7_172 cy_X11_isMarked (by decide +kernel) ⟨by omega, by omega⟩ (by decide) rfl rfl (Nat.le_of_ble_eq_true rfl) dX11_readSum_26 rfl ?_
    refine jn_w (fun v10 : Int32 => WP X (gM D cI cT ad) 3 0 39 v2 [(0, .ref (ad 0)), (1, .int a0)] [.int v10]) h (fun v10 h => ?_) (fun J11 hJ12 h => ?_)
    · refine w_istore_n C [(2, .int v10), (0, .ref (ad 0)), (1, .int a0)] dX11_readSum_39 rfl (by decide) rfl ?_
      refine w_aload_n C dX11_readSum_40 rfl 1 rfl ?_
      refine bd1_w h (fun u13 hc h => ?_)
      refine w_callVv C (n := 0) (As := []) (st := []) 0 (Nat.le_of_ble_eq_true rfl) rfl rfl (cfX11_stepOn D cI cT ad (l := X.2.1) C.2.2.1 hc) tw7_121 cy_X11_stepOn (by decide +kernel) ⟨by omega, by omega⟩ (by decide) rfl rfl (Nat.le_of_ble_eq_true rfl) dX11_readSum_41 rfl ?_
      refine w_aload_n C dX11_readSum_44 rfl 1 rfl ?_
      refine w_iload_n C dX11_readSum_45 rfl 2 rfl ?_
      refine bd1_w h (fun u14 hc h => ?_)
      refine w_callVv C (n := 1) (As := [.int a0]) (st := []) 0 (Nat.le_of_ble_eq_true rfl) rfl rfl (cfX11_readProduct D cI cT ad (l := X.2.1) C.2.2.1 hrx hc) tw7_189 cy_X11_readProduct (by decide +kernel) ⟨by omega, by omega⟩ (by decide) rfl rfl (Nat.le_of_ble_eq_true rfl) dX11_readSum_46 rfl ?_
      refine w_aload_n C dX11_readSum_49 rfl 1 rfl ?_
      refine w_iload_n C dX11_readSum_50 rfl 0 rfl ?_
      refine bd1_w h (fun u15 hc h => ?_)
      refine w_callVv C (n := 1) (As := [.int v10]) (st := []) 0 (Nat.le_of_ble_eq_true rfl) rfl rfl (cfX11_lay D cI cT ad (l := X.2.1) C.2.2.1 hc) tw7_197 cy_X11_lay (by decide +kernel) ⟨by omega, by omega⟩ (by decide) rfl rfl (Nat.le_of_ble_eq_true rfl) dX11_readSum_51 rfl ?_
      refine w_goto (q := 5) C dX11_readSum_54 (by decide) ?_
      exact w_sub (lv' := [(0, .ref (ad 0)), (1, .int a0)]) [1, 2] rfl (hK4 u15 h)
    · refine w_if_eq C (qt := 37) dX11_readSum_29 (by decide) rfl h (fun _ h => ?_) (fun _ h => ?_)
      · refine w_bipush C (-21) dX11_readSum_37 rfl (by decide) ?_
        exact w_sub (lv' := [(0, .ref (ad 0)), (1, .int a0)]) [0, 1] rfl (hJ12 ((-21)) h)
      · refine w_bipush C (-20) dX11_readSum_32 rfl (by decide) ?_
        refine w_goto (q := 39) C dX11_readSum_34 (by decide) ?_
        exact w_sub (lv' := [(0, .ref (ad 0)), (1, .int a0)]) [0, 1] rfl (hJ12 ((-20)) h)
  · refine w_if_ne C (qt := 23) dX11_readSum_11 (by decide) rfl h (fun _ h => ?_) (fun _ h => ?_)
    · exact w_sub (lv' := [(0, .ref (ad 0)), (1, .int a0)]) [0, 1] rfl (hJ8 (()) h)
    · refine w_aload_n C dX11_readSum_14 rfl 0 rfl ?_
      refine w_bipush C 45 dX11_readSum_15 rfl (by decide) ?_
      refine bd1_w h (fun r16 hc h => ?_)
      refine w_callVi C (n := 1) (As := [.int 45]) (st := []) 0 (Nat.le_of_ble_eq_true rfl) rfl rfl (cfX11_isMarked D cI cT ad (l := X.2.1) C.2.2.1 hc) tw7_172 cy_X11_isMarked (by decide +kernel) ⟨by omega, by omega⟩ (by decide) rfl rfl (Nat.le_of_ble_eq_true rfl) dX11_readSum_17 rfl ?_
      refine w_if_eq C (qt := 57) dX11_readSum_20 (by decide) rfl h (fun _ h => ?_) (fun _ h => ?_)
      · exact w_rv hr h (by decide) dX11_readSum_57
      · exact w_sub (lv' := [(0, .ref (ad 0)), (1, .int a0)]) [0, 1] rfl (hJ8 (()) h)
theorem cfX11_readSum (D : va_G) (cI cT : ClassId) (ad : Nat → Nat) {l : Launch} (had : gAp (gM D cI cT ad)) {rx : St → Int32 →  Option St} {f0 l0 : Nat} (hrx : ∀ (τ : St) (b0 : Int32) (τ' : St), rx τ b0 = some τ' → MV l yX11_readExpression (wB yX11_readExpression cX11_readExpression 3 none) f0 l0 (gM D cI cT ad) [.ref (ad 0), .int b0] τ τ') {F : Nat} {σ : St} {a0 : Int32} {σ' : St} (h : fX11_readSum rx F σ a0 = some σ') : MV l yX11_readSum (wB yX11_readSum cX11_readSum 3 none) (f0 + 8) (l0 + 174) (gM D cI cT ad) [.ref (ad 0), .int a0] σ σ' := mk_MV had (by decide +kernel) (Nat.le_of_ble_eq_true rfl) (fun X hX C hr => wfX11_readSum C (by rw [hX]; exact hrx) hr h)

def fX11_readNot (rx : St → Int32 →  Option St) (F : Nat) (σ : St) (a0 : Int32) : Option St := lp (fun (K2 : (St × Int32) → Option St) (v1 : St × Int32) => bd1 (fX11_is F v1.1 7) fun r4 => if r4 = 0 then (bd1 (fX11_readSum rx F v1.1 a0) fun u5 => bd1 (fX11_isMarked F u5 60) fun r6 => jn (fun v7 : St => lp (fun (K11 : (St × Int32) → Option St) (v10 : St × Int32) => if v1.2 ≤ v10.2 then (some v10.1) else bd1 (fX11_lay F v10.1 ((-28))) fun u13 => K11 ((u13, v10.2 + 1))) F ((v7, 0))) fun J8 => jn (fun v14 : Unit => bd1 (fX11_isMarked F u5 60) fun r17 => jn (fun v18 : Int32 => bd1 (fX11_stepOn F u5) fun u21 => bd1 (fX11_readSum rx F u21 a0) fun u22 => bd1 (fX11_lay F u22 v18) fun u23 => J8 u23) fun J19 => if r17 = 0 then (J19 ((-25))) else J19 ((-24))) fun J15 => if r6 = 0 then (bd1 (fX11_isMarked F u5 61) fun r24 => if r24 = 0 then (J8 u5) else J15 (())) else J15 (())) else jn (fun v25 : St => if (v25 0 25) = 0 then (bd1 (fX11_stepOn F v25) fun u28 => K2 ((u28, v1.2 + 1))) else K2 ((v25, v1.2 + 1))) fun J26 => if v1.2 = (6 : Int32) then (bd1 (fX11_wrong F v1.1 2) fun u29 => J26 u29) else J26 v1.1) F ((σ, 0))
set_option maxRecDepth 20000 in
theorem wfX11_readNot {X : XT} {D : va_G} {cI cT : ClassId} {ad : Nat → Nat} {F : Nat} {σ : St} {a0 : Int32} {σ' : St} {rx : St → Int32 →  Option St} {f0 l0 : Nat} (C : Cx X (gM D cI cT ad) cX11_readNot 4 RX11 (f0 + 9) (l0 + 196) 0) (hrx : ∀ (τ : St) (b0 : Int32) (τ' : St), rx τ b0 = some τ' → MV X.2.1 yX11_readExpression (wB yX11_readExpression cX11_readExpression 3 none) f0 l0 (gM D cI cT ad) [.ref (ad 0), .int b0] τ τ') (hr : RetV X (gM D cI cT ad) cX11_readNot 4 0 σ') (h : fX11_readNot rx F σ a0 = some σ') : WP X (gM D cI cT ad) 4 0 0 σ [(0, .ref (ad 0)), (1, .int a0)] [] := by
  unfold fX11_readNot at h
  refine w_iconst C 0 dX11_readNot_0 rfl (by decide) ?_
  refine w_istore_n C [(2, .int 0), (0, .ref (ad 0)), (1, .int a0)] dX11_readNot_1 rfl (by decide) rfl ?_
  refine w_sub (lv' := [(2, .int 0), (0, .ref (ad 0)), (1, .int a0)]) [0, 1, 2] rfl ?_
  refine lp_w (fun v1 : St × Int32 => WP X (gM D cI cT ad) 4 0 2 v1.1 [(2, .int v1.2), (0, .ref (ad 0)), (1, .int a0)] []) (fun K2 hK3 v1 h => ?_) F _ h
  refine w_aload_n C dX11_readNot_2 rfl 1 rfl ?_
  refine w_ldcSW C (tx := "not") 7 (by decide) dX11_readNot_3 rfl ?_
  refine bd1_w h (fun r4 hc h => ?_)
  refine w_callVi C (n := 1) (As := [.ref (ad (1100 + 7))]) (st := []) 0 (Nat.le_of_ble_eq_true rfl) rfl rfl (cfX11_is D cI cT ad (l := X.2.1) C.2.2.1 hc) tw7_145 cy_X11_is (by decide +kernel) ⟨by omega, by omega⟩ (by decide) rfl rfl (Nat.le_of_ble_eq_true rfl) dX11_readNot_6 rfl ?_
  refine w_if_eq C (qt := 40) dX11_readNot_9 (by decide) rfl h (fun _ h => ?_) (fun _ h => ?_)
  · refine w_aload_n C dX11_readNot_40 rfl 1 rfl ?_
    refine w_iload_n C dX11_readNot_41 rfl 2 rfl ?_
    refine bd1_w h (fun u5 hc h => ?_)
    refine w_callVv C (n := 1) (As := [.int a0]) (st := []) 0 (Nat.le_of_ble_eq_true rfl) rfl rfl (cfX11_readSum D cI cT ad (l := X.2.1) C.2.2.1 hrx hc) tw7_185 cy_X11_readSum (by decide +kernel) ⟨by omega, by omega⟩ (by decide) rfl rfl (Nat.le_of_ble_eq_true rfl) dX11_readNot_42 rfl ?_
    refine w_aload_n C dX11_readNot_45 rfl 1 rfl ?_
    refine w_bipush C 60 dX11_readNot_46 rfl (by decide) ?_
    refine bd1_w h (fun r6 hc h => ?_)
    refine w_callVi C (n := 1) (As := [.int 60]) (st := []) 0 (Nat.le_of_ble_eq_true rfl) rfl rfl (cfX11_isMarked D cI cT ad (l := X.2.1) C.2.2.1 hc) tw7_172 cy_X11_isMarked (by decide +kernel) ⟨by omega, by omega⟩ (by decide) rfl rfl (Nat.le_of_ble_eq_true rfl) dX11_readNot_48 rfl ?_
    refine jn_w (fun v7 : St => WP X (gM D cI cT ad) 4 0 94 v7 [(2, .int v1.2), (0, .ref (ad 0))] []) h (fun v7 h => ?_) (fun J8 hJ9 h => ?_)
    · refine w_iconst C 0 dX11_readNot_94 rfl (by decide) ?_
      refine w_istore_n C [(3, .int 0), (2, .int v1.2), (0, .ref (ad 0))] dX11_readNot_95 rfl (by decide) rfl ?_
      refine w_sub (lv' := [(3, .int 0), (2, .int v1.2), (0, .ref (ad 0))]) [0, 1, 2] rfl ?_
      refine lp_w (fun v10 : St × Int32 => WP X (gM D cI cT ad) 4 0 96 v10.1 [(3, .int v10.2), (2, .int v1.2), (0, .ref (ad 0))] []) (fun K11 hK12 v10 h => ?_) F _ h
      refine w_iload_n C dX11_readNot_96 rfl 0 rfl ?_
      refine w_iload_n C dX11_readNot_97 rfl 1 rfl ?_
      refine w_icmp_ge C (qt := 113) dX11_readNot_98 (by decide) rfl h (fun _ h => ?_) (fun _ h => ?_)
      · exact w_rv hr h (by decide) dX11_readNot_113
      · refine w_aload_n C dX11_readNot_101 rfl 2 rfl ?_
        refine w_bipush C (-28) dX11_readNot_102 rfl (by decide) ?_
        refine bd1_w h (fun u13 hc h => ?_)
        refine w_callVv C (n := 1) (As := [.int ((-28))]) (st := []) 0 (Nat.le_of_ble_eq_true rfl) rfl rfl (cfX11_lay D cI cT ad (l := X.2.1) C.2.2.1 hc) tw7_197 cy_X11_lay (by decide +kernel) ⟨by omega, by omega⟩ (by decide) rfl rfl (Nat.le_of_ble_eq_true rfl) dX11_readNot_104 rfl ?_
        refine w_iinc (j := 0) C (v10.2 + 1) [(3, .int (v10.2 + 1)), (2, .int v1.2), (0, .ref (ad 0))] dX11_readNot_107 rfl rfl rfl (by decide) rfl ?_
        refine w_goto (q := 96) C dX11_readNot_110 (by decide) ?_
        exact w_sub (lv' := [(3, .int (v10.2 + 1)), (2, .int v1.2), (0, .ref (ad 0))]) [0, 1, 2] rfl (hK12 ((u13, v10.2 + 1)) h)
    · refine jn_w (fun v14 : Unit => WP X (gM D cI cT ad) 4 0 63 u5 [(2, .int v1.2), (0, .ref (ad 0)), (1, .int a0)] []) h (fun v14 h => ?_) (fun J15 hJ16 h => ?_)
      · refine w_aload_n C dX11_readNot_63 rfl 1 rfl ?_
        refine w_bipush C 60 dX11_readNot_64 rfl (by decide) ?_
        refine bd1_w h (fun r17 hc h => ?_)
        refine w_callVi C (n := 1) (As := [.int 60]) (st := []) 0 (Nat.le_of_ble_eq_true rfl) rfl rfl (cfX11_isMarked D cI cT ad (l := X.2.1) C.2.2.1 hc) tw7_172 cy_X11_isMarked (by decide +kernel) ⟨by omega, by omega⟩ (by decide) rfl rfl (Nat.le_of_ble_eq_true rfl) dX11_readNot_66 rfl ?_
        refine jn_w (fun v18 : Int32 => WP X (gM D cI cT ad) 4 0 79 u5 [(2, .int v1.2), (0, .ref (ad 0)), (1, .int a0)] [.int v18]) h (fun v18 h => ?_) (fun J19 hJ20 h => ?_)
        · refine w_istore_n C [(3, .int v18), (2, .int v1.2), (0, .ref (ad 0)), (1, .int a0)] dX11_readNot_79 rfl (by decide) rfl ?_
          refine w_aload_n C dX11_readNot_80 rfl 2 rfl ?_
          refine bd1_w h (fun u21 hc h => ?_)
          refine w_callVv C (n := 0) (As := []) (st := []) 0 (Nat.le_of_ble_eq_true rfl) rfl rfl (cfX11_stepOn D cI cT ad (l := X.2.1) C.2.2.1 hc) tw7_121 cy_X11_stepOn (by decide +kernel) ⟨by omega, by omega⟩ (by decide) rfl rfl (Nat.le_of_ble_eq_true rfl) dX11_readNot_81 rfl ?_
          refine w_aload_n C dX11_readNot_84 rfl 2 rfl ?_
          refine w_iload_n C dX11_readNot_85 rfl 3 rfl ?_
          refine bd1_w h (fun u22 hc h => ?_)
          refine w_callVv C (n := 1) (As := [.int a0]) (st := []) 0 (Nat.le_of_ble_eq_true rfl) rfl rfl (cfX11_readSum D cI cT ad (l := X.2.1) C.2.2.1 hrx hc) tw7_185 cy_X11_readSum (by decide +kernel) ⟨by omega, by omega⟩ (by decide) rfl rfl (Nat.le_of_ble_eq_true rfl) dX11_readNot_86 rfl ?_
          refine w_aload_n C dX11_readNot_89 rfl 2 rfl ?_
          refine w_iload_n C dX11_readNot_90 rfl 0 rfl ?_
          refine bd1_w h (fun u23 hc h => ?_)
          refine w_callVv C (n := 1) (As := [.int v18]) (st := []) 0 (Nat.le_of_ble_eq_true rfl) rfl rfl (cfX11_lay D cI cT ad (l := X.2.1) C.2.2.1 hc) tw7_197 cy_X11_lay (by decide +kernel) ⟨by omega, by omega⟩ (by decide) rfl rfl (Nat.le_of_ble_eq_true rfl) dX11_readNot_91 rfl ?_
          exact w_sub (lv' := [(2, .int v1.2), (0, .ref (ad 0))]) [1, 2] rfl (hJ9 u23 h)
        · refine w_if_eq C (qt := 77) dX11_readNot_69 (by decide) rfl h (fun _ h => ?_) (fun _ h => ?_)
          · refine w_bipush C (-25) dX11_readNot_77 rfl (by decide) ?_
            exact w_sub (lv' := [(2, .int v1.2), (0, .ref (ad 0)), (1, .int a0)]) [0, 1, 2] rfl (hJ20 ((-25)) h)
          · refine w_bipush C (-24) dX11_readNot_72 rfl (by decide) ?_
            refine w_goto (q := 79) C dX11_readNot_74 (by decide) ?_
            exact w_sub (lv' := [(2, .int v1.2), (0, .ref (ad 0)), (1, .int a0)]) [0, 1, 2] rfl (hJ20 ((-24)) h)
      · refine w_if_ne C (qt := 63) dX11_readNot_51 (by decide) rfl h (fun _ h => ?_) (fun _ h => ?_)
        · exact w_sub (lv' := [(2, .int v1.2), (0, .ref (ad 0)), (1, .int a0)]) [0, 1, 2] rfl (hJ16 (()) h)
        · refine w_aload_n C dX11_readNot_54 rfl 1 rfl ?_
          refine w_bipush C 61 dX11_readNot_55 rfl (by decide) ?_
          refine bd1_w h (fun r24 hc h => ?_)
          refine w_callVi C (n := 1) (As := [.int 61]) (st := []) 0 (Nat.le_of_ble_eq_true rfl) rfl rfl (cfX11_isMarked D cI cT ad (l := X.2.1) C.2.2.1 hc) tw7_172 cy_X11_isMarked (by decide +kernel) ⟨by omega, by omega⟩ (by decide) rfl rfl (Nat.le_of_ble_eq_true rfl) dX11_readNot_57 rfl ?_
          refine w_if_eq C (qt := 94) dX11_readNot_60 (by decide) rfl h (fun _ h => ?_) (fun _ h => ?_)
          · exact w_sub (lv' := [(2, .int v1.2), (0, .ref (ad 0))]) [0, 1] rfl (hJ9 u5 h)
          · exact w_sub (lv' := [(2, .int v1.2), (0, .ref (ad 0)), (1, .int a0)]) [0, 1, 2] rfl (hJ16 (()) h)
  · refine w_iload_n C dX11_readNot_12 rfl 0 rfl ?_
    refine w_bipush C 6 dX11_readNot_13 rfl (by decide) ?_
    refine jn_w (fun v25 : St => WP X (gM D cI cT ad) 4 0 23 v25 [(2, .int v1.2), (0, .ref (ad 0)), (1, .int a0)] []) h (fun v25 h => ?_) (fun J26 hJ27 h => ?_)
    · refine w_iinc (j := 0) C (v1.2 + 1) [(2, .int (v1.2 + 1)), (0, .ref (ad 0)), (1, .int a0)] dX11_readNot_23 rfl rfl rfl (by decide) rfl ?_
      refine w_aload_n C dX11_readNot_26 rfl 1 rfl ?_
      refine w_get C 0 25 (Nat.le_of_ble_eq_true rfl) rfl rfl inB_X11 (by decide) tw6_186 rfl dX11_readNot_27 rfl ?_
      refine w_if_ne C (qt := 2) dX11_readNot_30 (by decide) rfl h (fun _ h => ?_) (fun _ h => ?_)
      · exact w_sub (lv' := [(2, .int (v1.2 + 1)), (0, .ref (ad 0)), (1, .int a0)]) [0, 1, 2] rfl (hK3 ((v25, v1.2 + 1)) h)
      · refine w_aload_n C dX11_readNot_33 rfl 1 rfl ?_
        refine bd1_w h (fun u28 hc h => ?_)
        refine w_callVv C (n := 0) (As := []) (st := []) 0 (Nat.le_of_ble_eq_true rfl) rfl rfl (cfX11_stepOn D cI cT ad (l := X.2.1) C.2.2.1 hc) tw7_121 cy_X11_stepOn (by decide +kernel) ⟨by omega, by omega⟩ (by decide) rfl rfl (Nat.le_of_ble_eq_true rfl) dX11_readNot_34 rfl ?_
        refine w_goto (q := 2) C dX11_readNot_37 (by decide) ?_
        exact w_sub (lv' := [(2, .int (v1.2 + 1)), (0, .ref (ad 0)), (1, .int a0)]) [0, 1, 2] rfl (hK3 ((u28, v1.2 + 1)) h)
    · refine w_icmp_ne C (qt := 23) dX11_readNot_15 (by decide) rfl h (fun _ h => ?_) (fun _ h => ?_)
      · exact w_sub (lv' := [(2, .int v1.2), (0, .ref (ad 0)), (1, .int a0)]) [0, 1, 2] rfl (hJ27 v1.1 h)
      · refine w_aload_n C dX11_readNot_18 rfl 1 rfl ?_
        refine w_iconst C 2 dX11_readNot_19 rfl (by decide) ?_
        refine bd1_w h (fun u29 hc h => ?_)
        refine w_callVv C (n := 1) (As := [.int 2]) (st := []) 0 (Nat.le_of_ble_eq_true rfl) rfl rfl (cfX11_wrong D cI cT ad (l := X.2.1) C.2.2.1 hc) tw7_156 cy_X11_wrong (by decide +kernel) ⟨by omega, by omega⟩ (by decide) rfl rfl (Nat.le_of_ble_eq_true rfl) dX11_readNot_20 rfl ?_
        exact w_sub (lv' := [(2, .int v1.2), (0, .ref (ad 0)), (1, .int a0)]) [0, 1, 2] rfl (hJ27 u29 h)
theorem cfX11_readNot (D : va_G) (cI cT : ClassId) (ad : Nat → Nat) {l : Launch} (had : gAp (gM D cI cT ad)) {rx : St → Int32 →  Option St} {f0 l0 : Nat} (hrx : ∀ (τ : St) (b0 : Int32) (τ' : St), rx τ b0 = some τ' → MV l yX11_readExpression (wB yX11_readExpression cX11_readExpression 3 none) f0 l0 (gM D cI cT ad) [.ref (ad 0), .int b0] τ τ') {F : Nat} {σ : St} {a0 : Int32} {σ' : St} (h : fX11_readNot rx F σ a0 = some σ') : MV l yX11_readNot (wB yX11_readNot cX11_readNot 4 none) (f0 + 9) (l0 + 196) (gM D cI cT ad) [.ref (ad 0), .int a0] σ σ' := mk_MV had (by decide +kernel) (Nat.le_of_ble_eq_true rfl) (fun X hX C hr => wfX11_readNot C (by rw [hX]; exact hrx) hr h)

def fX11_readAnd (rx : St → Int32 →  Option St) (F : Nat) (σ : St) (a0 : Int32) : Option St := bd1 (fX11_readNot rx F σ a0) fun u1 => lp (fun (K3 : St → Option St) (v2 : St) => bd1 (fX11_is F v2 6) fun r5 => if r5 = 0 then (some v2) else bd1 (fX11_stepOn F v2) fun u6 => bd1 (fX11_readNot rx F u6 a0) fun u7 => bd1 (fX11_lay F u7 ((-26))) fun u8 => K3 u8) F u1
set_option maxRecDepth 20000 in
theorem wfX11_readAnd {X : XT} {D : va_G} {cI cT : ClassId} {ad : Nat → Nat} {F : Nat} {σ : St} {a0 : Int32} {σ' : St} {rx : St → Int32 →  Option St} {f0 l0 : Nat} (C : Cx X (gM D cI cT ad) cX11_readAnd 2 RX11 (f0 + 10) (l0 + 219) 0) (hrx : ∀ (τ : St) (b0 : Int32) (τ' : St), rx τ b0 = some τ' → MV X.2.1 yX11_readExpression (wB yX11_readExpression cX11_readExpression 3 none) f0 l0 (gM D cI cT ad) [.ref (ad 0), .int b0] τ τ') (hr : RetV X (gM D cI cT ad) cX11_readAnd 2 0 σ') (h : fX11_readAnd rx F σ a0 = some σ') : WP X (gM D cI cT ad) 2 0 0 σ [(0, .ref (ad 0)), (1, .int a0)] [] := by
  unfold fX11_readAnd at h
  refine w_aload_n C dX11_readAnd_0 rfl 0 rfl ?_
  refine w_iload_n C dX11_readAnd_1 rfl 1 rfl ?_
  refine bd1_w h (fun u1 hc h => ?_)
  refine w_callVv C (n := 1) (As := [.int a0]) (st := []) 0 (Nat.le_of_ble_eq_true rfl) rfl rfl (cfX11_readNot D cI cT ad (l := X.2.1) C.2.2.1 hrx hc) tw7_180 cy_X11_readNot (by decide +kernel) ⟨by omega, by omega⟩ (by decide) rfl rfl (Nat.le_of_ble_eq_true rfl) dX11_readAnd_2 rfl ?_
  refine w_sub (lv' := [(0, .ref (ad 0)), (1, .int a0)]) [0, 1] rfl ?_
  refine lp_w (fun v2 : St => WP X (gM D cI cT ad) 2 0 5 v2 [(0, .ref (ad 0)), (1, .int a0)] []) (fun K3 hK4 v2 h => ?_) F _ h
  refine w_aload_n C dX11_readAnd_5 rfl 0 rfl ?_
  refine w_ldcSW C (tx := "and") 6 (by decide) dX11_readAnd_6 rfl ?_
  refine bd1_w h (fun r5 hc h => ?_)
  refine w_callVi C (n := 1) (As := [.ref (ad (1100 + 6))]) (st := []) 0 (Nat.le_of_ble_eq_true rfl) rfl rfl (cfX11_is D cI cT ad (l := X.2.1) C.2.2.1 hc) tw7_145 cy_X11_is (by decide +kernel) ⟨by omega, by omega⟩ (by decide) rfl rfl (Nat.le_of_ble_eq_true rfl) dX11_readAnd_9 rfl ?_
  refine w_if_eq C (qt := 33) dX11_readAnd_12 (by decide) rfl h (fun _ h => ?_) (fun _ h => ?_)
  · exact w_rv hr h (by decide) dX11_readAnd_33
  · refine w_aload_n C dX11_readAnd_15 rfl 0 rfl ?_
    refine bd1_w h (fun u6 hc h => ?_)
    refine w_callVv C (n := 0) (As := []) (st := []) 0 (Nat.le_of_ble_eq_true rfl) rfl rfl (cfX11_stepOn D cI cT ad (l := X.2.1) C.2.2.1 hc) tw7_121 cy_X11_stepOn (by decide +kernel) ⟨by omega, by omega⟩ (by decide) rfl rfl (Nat.le_of_ble_eq_true rfl) dX11_readAnd_16 rfl ?_
    refine w_aload_n C dX11_readAnd_19 rfl 0 rfl ?_
    refine w_iload_n C dX11_readAnd_20 rfl 1 rfl ?_
    refine bd1_w h (fun u7 hc h => ?_)
    refine w_callVv C (n := 1) (As := [.int a0]) (st := []) 0 (Nat.le_of_ble_eq_true rfl) rfl rfl (cfX11_readNot D cI cT ad (l := X.2.1) C.2.2.1 hrx hc) tw7_180 cy_X11_readNot (by decide +kernel) ⟨by omega, by omega⟩ (by decide) rfl rfl (Nat.le_of_ble_eq_true rfl) dX11_readAnd_21 rfl ?_
    refine w_aload_n C dX11_readAnd_24 rfl 0 rfl ?_
    refine w_bipush C (-26) dX11_readAnd_25 rfl (by decide) ?_
    refine bd1_w h (fun u8 hc h => ?_)
    refine w_callVv C (n := 1) (As := [.int ((-26))]) (st := []) 0 (Nat.le_of_ble_eq_true rfl) rfl rfl (cfX11_lay D cI cT ad (l := X.2.1) C.2.2.1 hc) tw7_197 cy_X11_lay (by decide +kernel) ⟨by omega, by omega⟩ (by decide) rfl rfl (Nat.le_of_ble_eq_true rfl) dX11_readAnd_27 rfl ?_
    refine w_goto (q := 5) C dX11_readAnd_30 (by decide) ?_
    exact w_sub (lv' := [(0, .ref (ad 0)), (1, .int a0)]) [0, 1] rfl (hK4 u8 h)
theorem cfX11_readAnd (D : va_G) (cI cT : ClassId) (ad : Nat → Nat) {l : Launch} (had : gAp (gM D cI cT ad)) {rx : St → Int32 →  Option St} {f0 l0 : Nat} (hrx : ∀ (τ : St) (b0 : Int32) (τ' : St), rx τ b0 = some τ' → MV l yX11_readExpression (wB yX11_readExpression cX11_readExpression 3 none) f0 l0 (gM D cI cT ad) [.ref (ad 0), .int b0] τ τ') {F : Nat} {σ : St} {a0 : Int32} {σ' : St} (h : fX11_readAnd rx F σ a0 = some σ') : MV l yX11_readAnd (wB yX11_readAnd cX11_readAnd 2 none) (f0 + 10) (l0 + 219) (gM D cI cT ad) [.ref (ad 0), .int a0] σ σ' := mk_MV had (by decide +kernel) (Nat.le_of_ble_eq_true rfl) (fun X hX C hr => wfX11_readAnd C (by rw [hX]; exact hrx) hr h)

def fX11_readExpression_b (rx : St → Int32 →  Option St) (F : Nat) (σ : St) (a0 : Int32) : Option St := if (σ 0 25) = 0 then (jn (fun v1 : Int32 => jn (fun v4 : St => bd1 (fX11_readAnd rx F v4 a0) fun u7 => lp (fun (K9 : St → Option St) (v8 : St) => bd1 (fX11_is F v8 5) fun r11 => if r11 = 0 then (some v8) else bd1 (fX11_stepOn F v8) fun u12 => bd1 (fX11_readAnd rx F u12 a0) fun u13 => bd1 (fX11_lay F u13 ((-27))) fun u14 => K9 u14) F u7) fun J5 => if v1 = 0 then (bd1 (fX11_wrong F σ 1) fun u16 => J5 u16) else if a0 = (6 : Int32) then (bd1 (fX11_wrong F σ 2) fun u15 => J5 u15) else J5 σ) fun J2 => jn (fun v17 : Unit => J2 1) fun J18 => if (σ 0 21) = (2 : Int32) then (J18 (())) else if (σ 0 21) = (1 : Int32) then (J18 (())) else bd1 (fX11_isMarked F σ 40) fun r20 => if r20 = 0 then (J2 0) else J18 (())) else some σ
set_option maxRecDepth 20000 in
theorem wfX11_readExpression_b {X : XT} {D : va_G} {cI cT : ClassId} {ad : Nat → Nat} {F : Nat} {σ : St} {a0 : Int32} {σ' : St} {rx : St → Int32 →  Option St} {f0 l0 : Nat} (C : Cx X (gM D cI cT ad) cX11_readExpression 3 RX11 (f0 + 11) (l0 + 240) 0) (hrx : ∀ (τ : St) (b0 : Int32) (τ' : St), rx τ b0 = some τ' → MV X.2.1 yX11_readExpression (wB yX11_readExpression cX11_readExpression 3 none) f0 l0 (gM D cI cT ad) [.ref (ad 0), .int b0] τ τ') (hr : RetV X (gM D cI cT ad) cX11_readExpression 3 0 σ') (h : fX11_readExpression_b rx F σ a0 = some σ') : WP X (gM D cI cT ad) 3 0 0 σ [(0, .ref (ad 0)), (1, .int a0)] [] := by
  unfold fX11_readExpression_b at h
  refine w_aload_n C dX11_readExpression_0 rfl 0 rfl ?_
  refine w_get C 0 25 (Nat.le_of_ble_eq_true rfl) rfl rfl inB_X11 (by decide) tw6_186 rfl dX11_readExpression_1 rfl ?_
  refine w_if_eq C (qt := 8) dX11_readExpression_4 (by decide) rfl h (fun _ h => ?_) (fun _ h => ?_)
  · refine w_aload_n C dX11_readExpression_8 rfl 0 rfl ?_
    refine w_get C 0 21 (Nat.le_of_ble_eq_true rfl) rfl rfl inB_X11 (by decide) tw6_182 rfl dX11_readExpression_9 rfl ?_
    refine w_iconst C 2 dX11_readExpression_12 rfl (by decide) ?_
    refine jn_w (fun v1 : Int32 => WP X (gM D cI cT ad) 3 0 38 σ [(0, .ref (ad 0)), (1, .int a0)] [.int v1]) h (fun v1 h => ?_) (fun J2 hJ3 h => ?_)
    · refine w_istore_n C [(2, .int v1), (0, .ref (ad 0)), (1, .int a0)] dX11_readExpression_38 rfl (by decide) rfl ?_
      refine w_iload_n C dX11_readExpression_39 rfl 0 rfl ?_
      refine jn_w (fun v4 : St => WP X (gM D cI cT ad) 3 0 62 v4 [(0, .ref (ad 0)), (1, .int a0)] []) h (fun v4 h => ?_) (fun J5 hJ6 h => ?_)
      · refine w_aload_n C dX11_readExpression_62 rfl 0 rfl ?_
        refine w_iload_n C dX11_readExpression_63 rfl 1 rfl ?_
        refine bd1_w h (fun u7 hc h => ?_)
        refine w_callVv C (n := 1) (As := [.int a0]) (st := []) 0 (Nat.le_of_ble_eq_true rfl) rfl rfl (cfX11_readAnd D cI cT ad (l := X.2.1) C.2.2.1 hrx hc) tw7_176 cy_X11_readAnd (by decide +kernel) ⟨by omega, by omega⟩ (by decide) rfl rfl (Nat.le_of_ble_eq_true rfl) dX11_readExpression_64 rfl ?_
        refine w_sub (lv' := [(0, .ref (ad 0)), (1, .int a0)]) [0, 1] rfl ?_
        refine lp_w (fun v8 : St => WP X (gM D cI cT ad) 3 0 67 v8 [(0, .ref (ad 0)), (1, .int a0)] []) (fun K9 hK10 v8 h => ?_) F _ h
        refine w_aload_n C dX11_readExpression_67 rfl 0 rfl ?_
        refine w_ldcSW C (tx := "or") 5 (by decide) dX11_readExpression_68 rfl ?_
        refine bd1_w h (fun r11 hc h => ?_)
        refine w_callVi C (n := 1) (As := [.ref (ad (1100 + 5))]) (st := []) 0 (Nat.le_of_ble_eq_true rfl) rfl rfl (cfX11_is D cI cT ad (l := X.2.1) C.2.2.1 hc) tw7_145 cy_X11_is (by decide +kernel) ⟨by omega, by omega⟩ (by decide) rfl rfl (Nat.le_of_ble_eq_true rfl) dX11_readExpression_71 rfl ?_
        refine w_if_eq C (qt := 95) dX11_readExpression_74 (by decide) rfl h (fun _ h => ?_) (fun _ h => ?_)
        · exact w_rv hr h (by decide) dX11_readExpression_95
        · refine w_aload_n C dX11_readExpression_77 rfl 0 rfl ?_
          refine bd1_w h (fun u12 hc h => ?_)
          refine w_callVv C (n := 0) (As := []) (st := []) 0 (Nat.le_of_ble_eq_true rfl) rfl rfl (cfX11_stepOn D cI cT ad (l := X.2.1) C.2.2.1 hc) tw7_121 cy_X11_stepOn (by decide +kernel) ⟨by omega, by omega⟩ (by decide) rfl rfl (Nat.le_of_ble_eq_true rfl) dX11_readExpression_78 rfl ?_
          refine w_aload_n C dX11_readExpression_81 rfl 0 rfl ?_
          refine w_iload_n C dX11_readExpression_82 rfl 1 rfl ?_
          refine bd1_w h (fun u13 hc h => ?_)
          refine w_callVv C (n := 1) (As := [.int a0]) (st := []) 0 (Nat.le_of_ble_eq_true rfl) rfl rfl (cfX11_readAnd D cI cT ad (l := X.2.1) C.2.2.1 hrx hc) tw7_176 cy_X11_readAnd (by decide +kernel) ⟨by omega, by omega⟩ (by decide) rfl rfl (Nat.le_of_ble_eq_true rfl) dX11_readExpression_83 rfl ?_
          refine w_aload_n C dX11_readExpression_86 rfl 0 rfl ?_
          refine w_bipush C (-27) dX11_readExpression_87 rfl (by decide) ?_
          refine bd1_w h (fun u14 hc h => ?_)
          refine w_callVv C (n := 1) (As := [.int ((-27))]) (st := []) 0 (Nat.le_of_ble_eq_true rfl) rfl rfl (cfX11_lay D cI cT ad (l := X.2.1) C.2.2.1 hc) tw7_197 cy_X11_lay (by decide +kernel) ⟨by omega, by omega⟩ (by decide) rfl rfl (Nat.le_of_ble_eq_true rfl) dX11_readExpression_89 rfl ?_
          refine w_goto (q := 67) C dX11_readExpression_92 (by decide) ?_
          exact w_sub (lv' := [(0, .ref (ad 0)), (1, .int a0)]) [0, 1] rfl (hK10 u14 h)
      · refine w_if_ne C (qt := 51) dX11_readExpression_40 (by decide) rfl h (fun _ h => ?_) (fun _ h => ?_)
        · refine w_iload_n C dX11_readExpression_51 rfl 2 rfl ?_
          refine w_bipush C 6 dX11_readExpression_52 rfl (by decide) ?_
          refine w_icmp_ne C (qt := 62) dX11_readExpression_54 (by decide) rfl h (fun _ h => ?_) (fun _ h => ?_)
          · exact w_sub (lv' := [(0, .ref (ad 0)), (1, .int a0)]) [1, 2] rfl (hJ6 σ h)
          · refine w_aload_n C dX11_readExpression_57 rfl 1 rfl ?_
            refine w_iconst C 2 dX11_readExpression_58 rfl (by decide) ?_
            refine bd1_w h (fun u15 hc h => ?_)
            refine w_callVv C (n := 1) (As := [.int 2]) (st := []) 0 (Nat.le_of_ble_eq_true rfl) rfl rfl (cfX11_wrong D cI cT ad (l := X.2.1) C.2.2.1 hc) tw7_156 cy_X11_wrong (by decide +kernel) ⟨by omega, by omega⟩ (by decide) rfl rfl (Nat.le_of_ble_eq_true rfl) dX11_readExpression_59 rfl ?_
            exact w_sub (lv' := [(0, .ref (ad 0)), (1, .int a0)]) [1, 2] rfl (hJ6 u15 h)
        · refine w_aload_n C dX11_readExpression_43 rfl 1 rfl ?_
          refine w_iconst C 1 dX11_readExpression_44 rfl (by decide) ?_
          refine bd1_w h (fun u16 hc h => ?_)
          refine w_callVv C (n := 1) (As := [.int 1]) (st := []) 0 (Nat.le_of_ble_eq_true rfl) rfl rfl (cfX11_wrong D cI cT ad (l := X.2.1) C.2.2.1 hc) tw7_156 cy_X11_wrong (by decide +kernel) ⟨by omega, by omega⟩ (by decide) rfl rfl (Nat.le_of_ble_eq_true rfl) dX11_readExpression_45 rfl ?_
          refine w_goto (q := 62) C dX11_readExpression_48 (by decide) ?_
          exact w_sub (lv' := [(0, .ref (ad 0)), (1, .int a0)]) [1, 2] rfl (hJ6 u16 h)
    · refine jn_w (fun v17 : Unit => WP X (gM D cI cT ad) 3 0 33 σ [(0, .ref (ad 0)), (1, .int a0)] []) h (fun v17 h => ?_) (fun J18 hJ19 h => ?_)
      · refine w_iconst C 1 dX11_readExpression_33 rfl (by decide) ?_
        refine w_goto (q := 38) C dX11_readExpression_34 (by decide) ?_
        exact w_sub (lv' := [(0, .ref (ad 0)), (1, .int a0)]) [0, 1] rfl (hJ3 1 h)
      · refine w_icmp_eq C (qt := 33) dX11_readExpression_13 (by decide) rfl h (fun _ h => ?_) (fun _ h => ?_)
        · exact w_sub (lv' := [(0, .ref (ad 0)), (1, .int a0)]) [0, 1] rfl (hJ19 (()) h)
        · refine w_aload_n C dX11_readExpression_16 rfl 0 rfl ?_
          refine w_get C 0 21 (Nat.le_of_ble_eq_true rfl) rfl rfl inB_X11 (by decide) tw6_182 rfl dX11_readExpression_17 rfl ?_
          refine w_iconst C 1 dX11_readExpression_20 rfl (by decide) ?_
          refine w_icmp_eq C (qt := 33) dX11_readExpression_21 (by decide) rfl h (fun _ h => ?_) (fun _ h => ?_)
          · exact w_sub (lv' := [(0, .ref (ad 0)), (1, .int a0)]) [0, 1] rfl (hJ19 (()) h)
          · refine w_aload_n C dX11_readExpression_24 rfl 0 rfl ?_
            refine w_bipush C 40 dX11_readExpression_25 rfl (by decide) ?_
            refine bd1_w h (fun r20 hc h => ?_)
            refine w_callVi C (n := 1) (As := [.int 40]) (st := []) 0 (Nat.le_of_ble_eq_true rfl) rfl rfl (cfX11_isMarked D cI cT ad (l := X.2.1) C.2.2.1 hc) tw7_172 cy_X11_isMarked (by decide +kernel) ⟨by omega, by omega⟩ (by decide) rfl rfl (Nat.le_of_ble_eq_true rfl) dX11_readExpression_27 rfl ?_
            refine w_if_eq C (qt := 37) dX11_readExpression_30 (by decide) rfl h (fun _ h => ?_) (fun _ h => ?_)
            · refine w_iconst C 0 dX11_readExpression_37 rfl (by decide) ?_
              exact w_sub (lv' := [(0, .ref (ad 0)), (1, .int a0)]) [0, 1] rfl (hJ3 0 h)
            · exact w_sub (lv' := [(0, .ref (ad 0)), (1, .int a0)]) [0, 1] rfl (hJ19 (()) h)
  · exact w_rv hr h (by decide) dX11_readExpression_7
theorem cfX11_readExpression_b (D : va_G) (cI cT : ClassId) (ad : Nat → Nat) {l : Launch} (had : gAp (gM D cI cT ad)) {rx : St → Int32 →  Option St} {f0 l0 : Nat} (hrx : ∀ (τ : St) (b0 : Int32) (τ' : St), rx τ b0 = some τ' → MV l yX11_readExpression (wB yX11_readExpression cX11_readExpression 3 none) f0 l0 (gM D cI cT ad) [.ref (ad 0), .int b0] τ τ') {F : Nat} {σ : St} {a0 : Int32} {σ' : St} (h : fX11_readExpression_b rx F σ a0 = some σ') : MV l yX11_readExpression (wB yX11_readExpression cX11_readExpression 3 none) (f0 + 11) (l0 + 240) (gM D cI cT ad) [.ref (ad 0), .int a0] σ σ' := mk_MV had (by decide +kernel) (Nat.le_of_ble_eq_true rfl) (fun X hX C hr => wfX11_readExpression_b C (by rw [hX]; exact hrx) hr h)
def fX11_readExpression (F : Nat) : Nat → St → Int32 →  Option St
  | 0, _, _ => none
  | d + 1, σ, a0 => fX11_readExpression_b (fX11_readExpression F d) F σ a0
theorem cfX11_readExpression (D : va_G) (cI cT : ClassId) (ad : Nat → Nat) {l : Launch} (had : gAp (gM D cI cT ad)) {F : Nat} : ∀ (d : Nat) {σ : St} {a0 : Int32} {σ' : St} (h : fX11_readExpression F d σ a0 = some σ'), MV l yX11_readExpression (wB yX11_readExpression cX11_readExpression 3 none) (11 * d) (240 * d) (gM D cI cT ad) [.ref (ad 0), .int a0] σ σ'
  | 0, _, _, _, h => nomatch h
  | d + 1, _, _, _, h => cfX11_readExpression_b D cI cT ad had (f0 := 11 * d) (l0 := 240 * d) (rx := fX11_readExpression F d) (fun _ _ _ hh => cfX11_readExpression D cI cT ad had d hh) h

def fX11_readValley (F : Nat) (σ : St) : Option St := jn (fun v1 : St => if (v1 0 25) = 0 then (bd1 (fX11_stepOn F v1) fun u4 => bd2 (fX11_readNumber F u4 0 9) fun r5 u6 => ckI (6 + (u4 5 4)) 12 (nm (up u6 6 (Int32.toNatClampNeg (6 + (u4 5 4))) r5) fun u7 => nm (up u7 5 4 ((u7 5 4) + 1)) fun u8 => some u8)) else some v1) fun J2 => if (σ 5 4) = (6 : Int32) then (bd1 (fX11_wrong F σ 2) fun u9 => J2 u9) else J2 σ
set_option maxRecDepth 20000 in
theorem wfX11_readValley {X : XT} {D : va_G} {cI cT : ClassId} {ad : Nat → Nat} {F : Nat} {σ : St}  {σ' : St} (C : Cx X (gM D cI cT ad) cX11_readValley 1 RX11 3 66 0) (hr : RetV X (gM D cI cT ad) cX11_readValley 1 0 σ') (h : fX11_readValley F σ = some σ') : WP X (gM D cI cT ad) 1 0 0 σ [(0, .ref (ad 0))] [] := by
  unfold fX11_readValley at h
  refine w_aload_n C dX11_readValley_0 rfl 0 rfl ?_
  refine w_get C 0 5 (Nat.le_of_ble_eq_true rfl) rfl rfl inB_X11 (by decide) tw6_166 rfl dX11_readValley_1 rfl ?_
  refine w_iconst C 4 dX11_readValley_4 rfl (by decide) ?_
  refine w_ialdc C 5 8 0 4 (Nat.le_of_ble_eq_true rfl) (fun _ => rfl) rfl (by decide) (by show ¬ (_ ∨ _); decide) dX11_readValley_5 rfl ?_
  refine w_bipush C 6 dX11_readValley_6 rfl (by decide) ?_
  refine jn_w (fun v1 : St => WP X (gM D cI cT ad) 1 0 16 v1 [(0, .ref (ad 0))] []) h (fun v1 h => ?_) (fun J2 hJ3 h => ?_)
  · refine w_aload_n C dX11_readValley_16 rfl 0 rfl ?_
    refine w_get C 0 25 (Nat.le_of_ble_eq_true rfl) rfl rfl inB_X11 (by decide) tw6_186 rfl dX11_readValley_17 rfl ?_
    refine w_if_eq C (qt := 24) dX11_readValley_20 (by decide) rfl h (fun _ h => ?_) (fun _ h => ?_)
    · refine w_aload_n C dX11_readValley_24 rfl 0 rfl ?_
      refine bd1_w h (fun u4 hc h => ?_)
      refine w_callVv C (n := 0) (As := []) (st := []) 0 (Nat.le_of_ble_eq_true rfl) rfl rfl (cfX11_stepOn D cI cT ad (l := X.2.1) C.2.2.1 hc) tw7_121 cy_X11_stepOn (by decide +kernel) ⟨Nat.le_of_ble_eq_true rfl, Nat.le_of_ble_eq_true rfl⟩ (by decide) rfl rfl (Nat.le_of_ble_eq_true rfl) dX11_readValley_25 rfl ?_
      refine w_aload_n C dX11_readValley_28 rfl 0 rfl ?_
      refine w_get C 0 6 (Nat.le_of_ble_eq_true rfl) rfl rfl inB_X11 (by decide) tw6_167 rfl dX11_readValley_29 rfl ?_
      refine w_bipush C 6 dX11_readValley_32 rfl (by decide) ?_
      refine w_aload_n C dX11_readValley_34 rfl 0 rfl ?_
      refine w_get C 0 5 (Nat.le_of_ble_eq_true rfl) rfl rfl inB_X11 (by decide) tw6_166 rfl dX11_readValley_35 rfl ?_
      refine w_iconst C 4 dX11_readValley_38 rfl (by decide) ?_
      refine w_ialdc C 5 8 0 4 (Nat.le_of_ble_eq_true rfl) (fun _ => rfl) rfl (by decide) (by show ¬ (_ ∨ _); decide) dX11_readValley_39 rfl ?_
      refine w_iadd C dX11_readValley_40 rfl ?_
      refine w_aload_n C dX11_readValley_41 rfl 0 rfl ?_
      refine w_iconst C 0 dX11_readValley_42 rfl (by decide) ?_
      refine w_bipush C 9 dX11_readValley_43 rfl (by decide) ?_
      refine bd2_w h (fun r5 u6 hc h => ?_)
      refine w_callVi C (n := 2) (As := [.int 0, .int 9]) (st := [.int (6 + (u4 5 4)), .ref (ad 6)]) 0 (Nat.le_of_ble_eq_true rfl) rfl rfl (cfX11_readNumber D cI cT ad (l := X.2.1) C.2.2.1 hc) tw7_160 cy_X11_readNumber (by decide +kernel) ⟨Nat.le_of_ble_eq_true rfl, Nat.le_of_ble_eq_true rfl⟩ (by decide) rfl rfl (Nat.le_of_ble_eq_true rfl) dX11_readValley_45 rfl ?_
      refine w_iast C 6 12 0 (Nat.le_of_ble_eq_true rfl) (fun _ => rfl) rfl h dX11_readValley_48 rfl (fun h => ?_)
      refine w_nst h (fun u7 h => ?_)
      refine w_aload_n C dX11_readValley_49 rfl 0 rfl ?_
      refine w_get C 0 5 (Nat.le_of_ble_eq_true rfl) rfl rfl inB_X11 (by decide) tw6_166 rfl dX11_readValley_50 rfl ?_
      refine w_iconst C 4 dX11_readValley_53 rfl (by decide) ?_
      refine w_dup2 C rfl rfl dX11_readValley_54 rfl ?_
      refine w_ialdc C 5 8 0 4 (Nat.le_of_ble_eq_true rfl) (fun _ => rfl) rfl (by decide) (by show ¬ (_ ∨ _); decide) dX11_readValley_55 rfl ?_
      refine w_iconst C 1 dX11_readValley_56 rfl (by decide) ?_
      refine w_iadd C dX11_readValley_57 rfl ?_
      refine w_iastc C 5 8 0 4 (Nat.le_of_ble_eq_true rfl) (fun _ => rfl) rfl (by decide) (by show ¬ (_ ∨ _); decide) dX11_readValley_58 rfl ?_
      refine w_nst h (fun u8 h => ?_)
      exact w_rv hr h (by decide) dX11_readValley_59
    · exact w_rv hr h (by decide) dX11_readValley_23
  · refine w_icmp_ne C (qt := 16) dX11_readValley_8 (by decide) rfl h (fun _ h => ?_) (fun _ h => ?_)
    · exact w_sub (lv' := [(0, .ref (ad 0))]) [0] rfl (hJ3 σ h)
    · refine w_aload_n C dX11_readValley_11 rfl 0 rfl ?_
      refine w_iconst C 2 dX11_readValley_12 rfl (by decide) ?_
      refine bd1_w h (fun u9 hc h => ?_)
      refine w_callVv C (n := 1) (As := [.int 2]) (st := []) 0 (Nat.le_of_ble_eq_true rfl) rfl rfl (cfX11_wrong D cI cT ad (l := X.2.1) C.2.2.1 hc) tw7_156 cy_X11_wrong (by decide +kernel) ⟨Nat.le_of_ble_eq_true rfl, Nat.le_of_ble_eq_true rfl⟩ (by decide) rfl rfl (Nat.le_of_ble_eq_true rfl) dX11_readValley_13 rfl ?_
      exact w_sub (lv' := [(0, .ref (ad 0))]) [0] rfl (hJ3 u9 h)
theorem cfX11_readValley (D : va_G) (cI cT : ClassId) (ad : Nat → Nat) {l : Launch} (had : gAp (gM D cI cT ad)) {F : Nat} {σ : St}  {σ' : St} (h : fX11_readValley F σ = some σ') : MV l yX11_readValley (wB yX11_readValley cX11_readValley 1 none) 3 66 (gM D cI cT ad) [.ref (ad 0)] σ σ' := mk_MV had (by decide +kernel) (Nat.le_of_ble_eq_true rfl) (fun X hX C hr => wfX11_readValley C hr h)

def fX11_readDance (F : Nat) (σ : St) : Option St := jn (fun v1 : St => if (v1 0 25) = 0 then (bd1 (fX11_stepOn F v1) fun u4 => bd2 (fX11_valleyNow F u4) fun r5 u6 => jn (fun v7 : St => bd2 (fX11_valleyNow F v7) fun r10 u11 => jn (fun v12 : Int32 => lp (fun (K16 : (Int32 × Int32) → Option St) (v15 : Int32 × Int32) => if (8 + (u11 5 5)) ≤ v15.1 then (jn (fun v18 : St => jn (fun v21 : St => nm (8 + (v21 5 5)) fun x24 => ckI (x24) 16 (nm (up v21 7 (Int32.toNatClampNeg x24) r5) fun u25 => ckI (x24) 16 (nm (up u25 8 (Int32.toNatClampNeg x24) r10) fun u26 => bd2 (fX11_readNumber F u26 1 4) fun r27 u28 => ckI (x24) 16 (nm (up u28 9 (Int32.toNatClampNeg x24) r27) fun u29 => ckI (x24) 16 (nm (up u29 10 (Int32.toNatClampNeg x24) 0) fun u30 => nm (up u30 5 5 ((u30 5 5) + 1)) fun u31 => some u31))))) fun J22 => if (v18 0 25) = 0 then (bd1 (fX11_stepOn F v18) fun u32 => J22 u32) else J22 v18) fun J19 => if (u11 0 25) = 0 then (if v15.2 = 0 then (J19 u11) else bd1 (fX11_wrong F u11 4) fun u33 => J19 u33) else J19 u11) else if v15.2 = 0 then (ckI (v15.1) 16 (jn (fun v34 : Unit => ckI (v15.1) 16 (if (u11 7 (Int32.toNatClampNeg v15.1)) = r10 then (ckI (v15.1) 16 (if (u11 8 (Int32.toNatClampNeg v15.1)) = r5 then (K16 ((v15.1 + 1, 1))) else K16 ((v15.1 + 1, 0)))) else K16 ((v15.1 + 1, 0)))) fun J35 => if (u11 7 (Int32.toNatClampNeg v15.1)) = r5 then (ckI (v15.1) 16 (if (u11 8 (Int32.toNatClampNeg v15.1)) = r10 then (K16 ((v15.1 + 1, 1))) else J35 (()))) else J35 (()))) else K16 ((v15.1 + 1, 1))) F ((8, v12))) fun J13 => if r5 = r10 then (J13 1) else J13 0) fun J8 => if (u6 0 25) = 0 then (bd1 (fX11_stepOn F u6) fun u37 => J8 u37) else J8 u6) else some v1) fun J2 => if (σ 5 5) = (8 : Int32) then (bd1 (fX11_wrong F σ 2) fun u38 => J2 u38) else J2 σ
set_option maxRecDepth 20000 in
theorem wfX11_readDance {X : XT} {D : va_G} {cI cT : ClassId} {ad : Nat → Nat} {F : Nat} {σ : St}  {σ' : St} (C : Cx X (gM D cI cT ad) cX11_readDance 5 RX11 3 66 0) (hr : RetV X (gM D cI cT ad) cX11_readDance 5 0 σ') (h : fX11_readDance F σ = some σ') : WP X (gM D cI cT ad) 5 0 0 σ [(0, .ref (ad 0))] [] := by
  unfold fX11_readDance at h
  refine w_aload_n C dX11_readDance_0 rfl 0 rfl ?_
  refine w_get C 0 5 (Nat.le_of_ble_eq_true rfl) rfl rfl inB_X11 (by decide) tw6_166 rfl dX11_readDance_1 rfl ?_
  refine w_iconst C 5 dX11_readDance_4 rfl (by decide) ?_
  refine w_ialdc C 5 8 0 5 (Nat.le_of_ble_eq_true rfl) (fun _ => rfl) rfl (by decide) (by show ¬ (_ ∨ _); decide) dX11_readDance_5 rfl ?_
  refine w_bipush C 8 dX11_readDance_6 rfl (by decide) ?_
  refine jn_w (fun v1 : St => WP X (gM D cI cT ad) 5 0 16 v1 [(0, .ref (ad 0))] []) h (fun v1 h => ?_) (fun J2 hJ3 h => ?_)
  · refine w_aload_n C dX11_readDance_16 rfl 0 rfl ?_
    refine w_get C 0 25 (Nat.le_of_ble_eq_true rfl) rfl rfl inB_X11 (by decide) tw6_186 rfl dX11_readDance_17 rfl ?_
    refine w_if_eq C (qt := 24) dX11_readDance_20 (by decide) rfl h (fun _ h => ?_) (fun _ h => ?_)
    · refine w_aload_n C dX11_readDance_24 rfl 0 rfl ?_
      refine bd1_w h (fun u4 hc h => ?_)
      refine w_callVv C (n := 0) (As := []) (st := []) 0 (Nat.le_of_ble_eq_true rfl) rfl rfl (cfX11_stepOn D cI cT ad (l := X.2.1) C.2.2.1 hc) tw7_121 cy_X11_stepOn (by decide +kernel) ⟨Nat.le_of_ble_eq_true rfl, Nat.le_of_ble_eq_true rfl⟩ (by decide) rfl rfl (Nat.le_of_ble_eq_true rfl) dX11_readDance_25 rfl ?_
      refine w_aload_n C dX11_readDance_28 rfl 0 rfl ?_
      refine bd2_w h (fun r5 u6 hc h => ?_)
      refine w_callVi C (n := 0) (As := []) (st := []) 0 (Nat.le_of_ble_eq_true rfl) rfl rfl (cfX11_valleyNow D cI cT ad (l := X.2.1) C.2.2.1 hc) tw7_222 cy_X11_valleyNow (by decide +kernel) ⟨Nat.le_of_ble_eq_true rfl, Nat.le_of_ble_eq_true rfl⟩ (by decide) rfl rfl (Nat.le_of_ble_eq_true rfl) dX11_readDance_29 rfl ?_
      refine w_istore_n C [(1, .int r5), (0, .ref (ad 0))] dX11_readDance_32 rfl (by decide) rfl ?_
      refine w_aload_n C dX11_readDance_33 rfl 1 rfl ?_
      refine w_get C 0 25 (Nat.le_of_ble_eq_true rfl) rfl rfl inB_X11 (by decide) tw6_186 rfl dX11_readDance_34 rfl ?_
      refine jn_w (fun v7 : St => WP X (gM D cI cT ad) 5 0 44 v7 [(1, .int r5), (0, .ref (ad 0))] []) h (fun v7 h => ?_) (fun J8 hJ9 h => ?_)
      · refine w_aload_n C dX11_readDance_44 rfl 1 rfl ?_
        refine bd2_w h (fun r10 u11 hc h => ?_)
        refine w_callVi C (n := 0) (As := []) (st := []) 0 (Nat.le_of_ble_eq_true rfl) rfl rfl (cfX11_valleyNow D cI cT ad (l := X.2.1) C.2.2.1 hc) tw7_222 cy_X11_valleyNow (by decide +kernel) ⟨Nat.le_of_ble_eq_true rfl, Nat.le_of_ble_eq_true rfl⟩ (by decide) rfl rfl (Nat.le_of_ble_eq_true rfl) dX11_readDance_45 rfl ?_
        refine w_istore_n C [(2, .int r10), (1, .int r5), (0, .ref (ad 0))] dX11_readDance_48 rfl (by decide) rfl ?_
        refine w_iload_n C dX11_readDance_49 rfl 1 rfl ?_
        refine w_iload_n C dX11_readDance_50 rfl 0 rfl ?_
        refine jn_w (fun v12 : Int32 => WP X (gM D cI cT ad) 5 0 59 u11 [(2, .int r10), (1, .int r5), (0, .ref (ad 0))] [.int v12]) h (fun v12 h => ?_) (fun J13 hJ14 h => ?_)
        · refine w_istore_n C [(3, .int v12), (2, .int r10), (1, .int r5), (0, .ref (ad 0))] dX11_readDance_59 rfl (by decide) rfl ?_
          refine w_bipush C 8 dX11_readDance_60 rfl (by decide) ?_
          refine w_istore C [(4, .int 8), (3, .int v12), (2, .int r10), (1, .int r5), (0, .ref (ad 0))] dX11_readDance_62 rfl (by decide) rfl ?_
          refine w_sub (lv' := [(4, .int 8), (3, .int v12), (2, .int r10), (1, .int r5), (0, .ref (ad 0))]) [0, 1, 2, 3, 4] rfl ?_
          refine lp_w (fun v15 : Int32 × Int32 => WP X (gM D cI cT ad) 5 0 64 u11 [(4, .int v15.1), (3, .int v15.2), (2, .int r10), (1, .int r5), (0, .ref (ad 0))] []) (fun K16 hK17 v15 h => ?_) F _ h
          refine w_iload C dX11_readDance_64 rfl 0 rfl ?_
          refine w_bipush C 8 dX11_readDance_66 rfl (by decide) ?_
          refine w_aload_n C dX11_readDance_68 rfl 4 rfl ?_
          refine w_get C 0 5 (Nat.le_of_ble_eq_true rfl) rfl rfl inB_X11 (by decide) tw6_166 rfl dX11_readDance_69 rfl ?_
          refine w_iconst C 5 dX11_readDance_72 rfl (by decide) ?_
          refine w_ialdc C 5 8 0 5 (Nat.le_of_ble_eq_true rfl) (fun _ => rfl) rfl (by decide) (by show ¬ (_ ∨ _); decide) dX11_readDance_73 rfl ?_
          refine w_iadd C dX11_readDance_74 rfl ?_
          refine w_icmp_ge C (qt := 138) dX11_readDance_75 (by decide) rfl h (fun _ h => ?_) (fun _ h => ?_)
          · refine w_aload_n C dX11_readDance_138 rfl 4 rfl ?_
            refine w_get C 0 25 (Nat.le_of_ble_eq_true rfl) rfl rfl inB_X11 (by decide) tw6_186 rfl dX11_readDance_139 rfl ?_
            refine jn_w (fun v18 : St => WP X (gM D cI cT ad) 5 0 154 v18 [(2, .int r10), (1, .int r5), (0, .ref (ad 0))] []) h (fun v18 h => ?_) (fun J19 hJ20 h => ?_)
            · refine w_aload_n C dX11_readDance_154 rfl 2 rfl ?_
              refine w_get C 0 25 (Nat.le_of_ble_eq_true rfl) rfl rfl inB_X11 (by decide) tw6_186 rfl dX11_readDance_155 rfl ?_
              refine jn_w (fun v21 : St => WP X (gM D cI cT ad) 5 0 165 v21 [(2, .int r10), (1, .int r5), (0, .ref (ad 0))] []) h (fun v21 h => ?_) (fun J22 hJ23 h => ?_)
              · refine w_bipush C 8 dX11_readDance_165 rfl (by decide) ?_
                refine w_aload_n C dX11_readDance_167 rfl 2 rfl ?_
                refine w_get C 0 5 (Nat.le_of_ble_eq_true rfl) rfl rfl inB_X11 (by decide) tw6_166 rfl dX11_readDance_168 rfl ?_
                refine w_iconst C 5 dX11_readDance_171 rfl (by decide) ?_
                refine w_ialdc C 5 8 0 5 (Nat.le_of_ble_eq_true rfl) (fun _ => rfl) rfl (by decide) (by show ¬ (_ ∨ _); decide) dX11_readDance_172 rfl ?_
                refine w_iadd C dX11_readDance_173 rfl ?_
                refine w_nm h (fun x24 h => ?_)
                refine w_istore C [(4, .int x24), (2, .int r10), (1, .int r5), (0, .ref (ad 0))] dX11_readDance_174 rfl (by decide) rfl ?_
                refine w_aload_n C dX11_readDance_176 rfl 3 rfl ?_
                refine w_get C 0 7 (Nat.le_of_ble_eq_true rfl) rfl rfl inB_X11 (by decide) tw6_168 rfl dX11_readDance_177 rfl ?_
                refine w_iload C dX11_readDance_180 rfl 0 rfl ?_
                refine w_iload_n C dX11_readDance_182 rfl 2 rfl ?_
                refine w_iast C 7 16 0 (Nat.le_of_ble_eq_true rfl) (fun _ => rfl) rfl h dX11_readDance_183 rfl (fun h => ?_)
                refine w_nst h (fun u25 h => ?_)
                refine w_aload_n C dX11_readDance_184 rfl 3 rfl ?_
                refine w_get C 0 8 (Nat.le_of_ble_eq_true rfl) rfl rfl inB_X11 (by decide) tw6_169 rfl dX11_readDance_185 rfl ?_
                refine w_iload C dX11_readDance_188 rfl 0 rfl ?_
                refine w_iload_n C dX11_readDance_190 rfl 1 rfl ?_
                refine w_iast C 8 16 0 (Nat.le_of_ble_eq_true rfl) (fun _ => rfl) rfl h dX11_readDance_191 rfl (fun h => ?_)
                refine w_nst h (fun u26 h => ?_)
                refine w_aload_n C dX11_readDance_192 rfl 3 rfl ?_
                refine w_get C 0 9 (Nat.le_of_ble_eq_true rfl) rfl rfl inB_X11 (by decide) tw6_170 rfl dX11_readDance_193 rfl ?_
                refine w_iload C dX11_readDance_196 rfl 0 rfl ?_
                refine w_aload_n C dX11_readDance_198 rfl 3 rfl ?_
                refine w_iconst C 1 dX11_readDance_199 rfl (by decide) ?_
                refine w_iconst C 4 dX11_readDance_200 rfl (by decide) ?_
                refine bd2_w h (fun r27 u28 hc h => ?_)
                refine w_callVi C (n := 2) (As := [.int 1, .int 4]) (st := [.int x24, .ref (ad 9)]) 0 (Nat.le_of_ble_eq_true rfl) rfl rfl (cfX11_readNumber D cI cT ad (l := X.2.1) C.2.2.1 hc) tw7_160 cy_X11_readNumber (by decide +kernel) ⟨Nat.le_of_ble_eq_true rfl, Nat.le_of_ble_eq_true rfl⟩ (by decide) rfl rfl (Nat.le_of_ble_eq_true rfl) dX11_readDance_201 rfl ?_
                refine w_iast C 9 16 0 (Nat.le_of_ble_eq_true rfl) (fun _ => rfl) rfl h dX11_readDance_204 rfl (fun h => ?_)
                refine w_nst h (fun u29 h => ?_)
                refine w_aload_n C dX11_readDance_205 rfl 3 rfl ?_
                refine w_get C 0 10 (Nat.le_of_ble_eq_true rfl) rfl rfl inB_X11 (by decide) tw6_171 rfl dX11_readDance_206 rfl ?_
                refine w_iload C dX11_readDance_209 rfl 0 rfl ?_
                refine w_iconst C 0 dX11_readDance_211 rfl (by decide) ?_
                refine w_iast C 10 16 0 (Nat.le_of_ble_eq_true rfl) (fun _ => rfl) rfl h dX11_readDance_212 rfl (fun h => ?_)
                refine w_nst h (fun u30 h => ?_)
                refine w_aload_n C dX11_readDance_213 rfl 3 rfl ?_
                refine w_get C 0 5 (Nat.le_of_ble_eq_true rfl) rfl rfl inB_X11 (by decide) tw6_166 rfl dX11_readDance_214 rfl ?_
                refine w_iconst C 5 dX11_readDance_217 rfl (by decide) ?_
                refine w_dup2 C rfl rfl dX11_readDance_218 rfl ?_
                refine w_ialdc C 5 8 0 5 (Nat.le_of_ble_eq_true rfl) (fun _ => rfl) rfl (by decide) (by show ¬ (_ ∨ _); decide) dX11_readDance_219 rfl ?_
                refine w_iconst C 1 dX11_readDance_220 rfl (by decide) ?_
                refine w_iadd C dX11_readDance_221 rfl ?_
                refine w_iastc C 5 8 0 5 (Nat.le_of_ble_eq_true rfl) (fun _ => rfl) rfl (by decide) (by show ¬ (_ ∨ _); decide) dX11_readDance_222 rfl ?_
                refine w_nst h (fun u31 h => ?_)
                exact w_rv hr h (by decide) dX11_readDance_223
              · refine w_if_ne C (qt := 165) dX11_readDance_158 (by decide) rfl h (fun _ h => ?_) (fun _ h => ?_)
                · exact w_sub (lv' := [(2, .int r10), (1, .int r5), (0, .ref (ad 0))]) [0, 1, 2] rfl (hJ23 v18 h)
                · refine w_aload_n C dX11_readDance_161 rfl 2 rfl ?_
                  refine bd1_w h (fun u32 hc h => ?_)
                  refine w_callVv C (n := 0) (As := []) (st := []) 0 (Nat.le_of_ble_eq_true rfl) rfl rfl (cfX11_stepOn D cI cT ad (l := X.2.1) C.2.2.1 hc) tw7_121 cy_X11_stepOn (by decide +kernel) ⟨Nat.le_of_ble_eq_true rfl, Nat.le_of_ble_eq_true rfl⟩ (by decide) rfl rfl (Nat.le_of_ble_eq_true rfl) dX11_readDance_162 rfl ?_
                  exact w_sub (lv' := [(2, .int r10), (1, .int r5), (0, .ref (ad 0))]) [0, 1, 2] rfl (hJ23 u32 h)
            · refine w_if_ne C (qt := 154) dX11_readDance_142 (by decide) rfl h (fun _ h => ?_) (fun _ h => ?_)
              · exact w_sub (lv' := [(2, .int r10), (1, .int r5), (0, .ref (ad 0))]) [2, 3, 4] rfl (hJ20 u11 h)
              · refine w_iload_n C dX11_readDance_145 rfl 1 rfl ?_
                refine w_if_eq C (qt := 154) dX11_readDance_146 (by decide) rfl h (fun _ h => ?_) (fun _ h => ?_)
                · exact w_sub (lv' := [(2, .int r10), (1, .int r5), (0, .ref (ad 0))]) [2, 3, 4] rfl (hJ20 u11 h)
                · refine w_aload_n C dX11_readDance_149 rfl 4 rfl ?_
                  refine w_iconst C 4 dX11_readDance_150 rfl (by decide) ?_
                  refine bd1_w h (fun u33 hc h => ?_)
                  refine w_callVv C (n := 1) (As := [.int 4]) (st := []) 0 (Nat.le_of_ble_eq_true rfl) rfl rfl (cfX11_wrong D cI cT ad (l := X.2.1) C.2.2.1 hc) tw7_156 cy_X11_wrong (by decide +kernel) ⟨Nat.le_of_ble_eq_true rfl, Nat.le_of_ble_eq_true rfl⟩ (by decide) rfl rfl (Nat.le_of_ble_eq_true rfl) dX11_readDance_151 rfl ?_
                  exact w_sub (lv' := [(2, .int r10), (1, .int r5), (0, .ref (ad 0))]) [2, 3, 4] rfl (hJ20 u33 h)
          · refine w_iload_n C dX11_readDance_78 rfl 1 rfl ?_
            refine w_if_ne C (qt := 126) dX11_readDance_79 (by decide) rfl h (fun _ h => ?_) (fun _ h => ?_)
            · refine w_iconst C 1 dX11_readDance_126 rfl (by decide) ?_
              refine w_goto (q := 131) C dX11_readDance_127 (by decide) ?_
              refine w_istore_n C [(3, .int 1), (4, .int v15.1), (2, .int r10), (1, .int r5), (0, .ref (ad 0))] dX11_readDance_131 rfl (by decide) rfl ?_
              refine w_iinc (j := 1) C (v15.1 + 1) [(4, .int (v15.1 + 1)), (3, .int 1), (2, .int r10), (1, .int r5), (0, .ref (ad 0))] dX11_readDance_132 rfl rfl rfl (by decide) rfl ?_
              refine w_goto (q := 64) C dX11_readDance_135 (by decide) ?_
              exact w_sub (lv' := [(4, .int (v15.1 + 1)), (3, .int 1), (2, .int r10), (1, .int r5), (0, .ref (ad 0))]) [0, 1, 2, 3, 4] rfl (hK17 ((v15.1 + 1, 1)) h)
            · refine w_aload_n C dX11_readDance_82 rfl 4 rfl ?_
              refine w_get C 0 7 (Nat.le_of_ble_eq_true rfl) rfl rfl inB_X11 (by decide) tw6_168 rfl dX11_readDance_83 rfl ?_
              refine w_iload C dX11_readDance_86 rfl 0 rfl ?_
              refine w_iald C 7 16 0 (Nat.le_of_ble_eq_true rfl) (fun _ => rfl) rfl h dX11_readDance_88 rfl (fun h => ?_)
              refine w_iload_n C dX11_readDance_89 rfl 3 rfl ?_
              refine jn_w (fun v34 : Unit => WP X (gM D cI cT ad) 5 0 104 u11 [(4, .int v15.1), (2, .int r10), (1, .int r5), (0, .ref (ad 0))] []) h (fun v34 h => ?_) (fun J35 hJ36 h => ?_)
              · refine w_aload_n C dX11_readDance_104 rfl 3 rfl ?_
                refine w_get C 0 7 (Nat.le_of_ble_eq_true rfl) rfl rfl inB_X11 (by decide) tw6_168 rfl dX11_readDance_105 rfl ?_
                refine w_iload C dX11_readDance_108 rfl 0 rfl ?_
                refine w_iald C 7 16 0 (Nat.le_of_ble_eq_true rfl) (fun _ => rfl) rfl h dX11_readDance_110 rfl (fun h => ?_)
                refine w_iload_n C dX11_readDance_111 rfl 1 rfl ?_
                refine w_icmp_ne C (qt := 130) dX11_readDance_112 (by decide) rfl h (fun _ h => ?_) (fun _ h => ?_)
                · refine w_iconst C 0 dX11_readDance_130 rfl (by decide) ?_
                  refine w_istore_n C [(3, .int 0), (4, .int v15.1), (2, .int r10), (1, .int r5), (0, .ref (ad 0))] dX11_readDance_131 rfl (by decide) rfl ?_
                  refine w_iinc (j := 1) C (v15.1 + 1) [(4, .int (v15.1 + 1)), (3, .int 0), (2, .int r10), (1, .int r5), (0, .ref (ad 0))] dX11_readDance_132 rfl rfl rfl (by decide) rfl ?_
                  refine w_goto (q := 64) C dX11_readDance_135 (by decide) ?_
                  exact w_sub (lv' := [(4, .int (v15.1 + 1)), (3, .int 0), (2, .int r10), (1, .int r5), (0, .ref (ad 0))]) [0, 1, 2, 3, 4] rfl (hK17 ((v15.1 + 1, 0)) h)
                · refine w_aload_n C dX11_readDance_115 rfl 3 rfl ?_
                  refine w_get C 0 8 (Nat.le_of_ble_eq_true rfl) rfl rfl inB_X11 (by decide) tw6_169 rfl dX11_readDance_116 rfl ?_
                  refine w_iload C dX11_readDance_119 rfl 0 rfl ?_
                  refine w_iald C 8 16 0 (Nat.le_of_ble_eq_true rfl) (fun _ => rfl) rfl h dX11_readDance_121 rfl (fun h => ?_)
                  refine w_iload_n C dX11_readDance_122 rfl 2 rfl ?_
                  refine w_icmp_ne C (qt := 130) dX11_readDance_123 (by decide) rfl h (fun _ h => ?_) (fun _ h => ?_)
                  · refine w_iconst C 0 dX11_readDance_130 rfl (by decide) ?_
                    refine w_istore_n C [(3, .int 0), (4, .int v15.1), (2, .int r10), (1, .int r5), (0, .ref (ad 0))] dX11_readDance_131 rfl (by decide) rfl ?_
                    refine w_iinc (j := 1) C (v15.1 + 1) [(4, .int (v15.1 + 1)), (3, .int 0), (2, .int r10), (1, .int r5), (0, .ref (ad 0))] dX11_readDance_132 rfl rfl rfl (by decide) rfl ?_
                    refine w_goto (q := 64) C dX11_readDance_135 (by decide) ?_
                    exact w_sub (lv' := [(4, .int (v15.1 + 1)), (3, .int 0), (2, .int r10), (1, .int r5), (0, .ref (ad 0))]) [0, 1, 2, 3, 4] rfl (hK17 ((v15.1 + 1, 0)) h)
                  · refine w_iconst C 1 dX11_readDance_126 rfl (by decide) ?_
                    refine w_goto (q := 131) C dX11_readDance_127 (by decide) ?_
                    refine w_istore_n C [(3, .int 1), (4, .int v15.1), (2, .int r10), (1, .int r5), (0, .ref (ad 0))] dX11_readDance_131 rfl (by decide) rfl ?_
                    refine w_iinc (j := 1) C (v15.1 + 1) [(4, .int (v15.1 + 1)), (3, .int 1), (2, .int r10), (1, .int r5), (0, .ref (ad 0))] dX11_readDance_132 rfl rfl rfl (by decide) rfl ?_
                    refine w_goto (q := 64) C dX11_readDance_135 (by decide) ?_
                    exact w_sub (lv' := [(4, .int (v15.1 + 1)), (3, .int 1), (2, .int r10), (1, .int r5), (0, .ref (ad 0))]) [0, 1, 2, 3, 4] rfl (hK17 ((v15.1 + 1, 1)) h)
              · refine w_icmp_ne C (qt := 104) dX11_readDance_90 (by decide) rfl h (fun _ h => ?_) (fun _ h => ?_)
                · exact w_sub (lv' := [(4, .int v15.1), (2, .int r10), (1, .int r5), (0, .ref (ad 0))]) [0, 2, 3, 4] rfl (hJ36 (()) h)
                · refine w_aload_n C dX11_readDance_93 rfl 4 rfl ?_
                  refine w_get C 0 8 (Nat.le_of_ble_eq_true rfl) rfl rfl inB_X11 (by decide) tw6_169 rfl dX11_readDance_94 rfl ?_
                  refine w_iload C dX11_readDance_97 rfl 0 rfl ?_
                  refine w_iald C 8 16 0 (Nat.le_of_ble_eq_true rfl) (fun _ => rfl) rfl h dX11_readDance_99 rfl (fun h => ?_)
                  refine w_iload_n C dX11_readDance_100 rfl 2 rfl ?_
                  refine w_icmp_eq C (qt := 126) dX11_readDance_101 (by decide) rfl h (fun _ h => ?_) (fun _ h => ?_)
                  · refine w_iconst C 1 dX11_readDance_126 rfl (by decide) ?_
                    refine w_goto (q := 131) C dX11_readDance_127 (by decide) ?_
                    refine w_istore_n C [(3, .int 1), (4, .int v15.1), (2, .int r10), (1, .int r5), (0, .ref (ad 0))] dX11_readDance_131 rfl (by decide) rfl ?_
                    refine w_iinc (j := 1) C (v15.1 + 1) [(4, .int (v15.1 + 1)), (3, .int 1), (2, .int r10), (1, .int r5), (0, .ref (ad 0))] dX11_readDance_132 rfl rfl rfl (by decide) rfl ?_
                    refine w_goto (q := 64) C dX11_readDance_135 (by decide) ?_
                    exact w_sub (lv' := [(4, .int (v15.1 + 1)), (3, .int 1), (2, .int r10), (1, .int r5), (0, .ref (ad 0))]) [0, 1, 2, 3, 4] rfl (hK17 ((v15.1 + 1, 1)) h)
                  · exact w_sub (lv' := [(4, .int v15.1), (2, .int r10), (1, .int r5), (0, .ref (ad 0))]) [0, 2, 3, 4] rfl (hJ36 (()) h)
        · refine w_icmp_ne C (qt := 58) dX11_readDance_51 (by decide) rfl h (fun _ h => ?_) (fun _ h => ?_)
          · refine w_iconst C 0 dX11_readDance_58 rfl (by decide) ?_
            exact w_sub (lv' := [(2, .int r10), (1, .int r5), (0, .ref (ad 0))]) [0, 1, 2] rfl (hJ14 0 h)
          · refine w_iconst C 1 dX11_readDance_54 rfl (by decide) ?_
            refine w_goto (q := 59) C dX11_readDance_55 (by decide) ?_
            exact w_sub (lv' := [(2, .int r10), (1, .int r5), (0, .ref (ad 0))]) [0, 1, 2] rfl (hJ14 1 h)
      · refine w_if_ne C (qt := 44) dX11_readDance_37 (by decide) rfl h (fun _ h => ?_) (fun _ h => ?_)
        · exact w_sub (lv' := [(1, .int r5), (0, .ref (ad 0))]) [0, 1] rfl (hJ9 u6 h)
        · refine w_aload_n C dX11_readDance_40 rfl 1 rfl ?_
          refine bd1_w h (fun u37 hc h => ?_)
          refine w_callVv C (n := 0) (As := []) (st := []) 0 (Nat.le_of_ble_eq_true rfl) rfl rfl (cfX11_stepOn D cI cT ad (l := X.2.1) C.2.2.1 hc) tw7_121 cy_X11_stepOn (by decide +kernel) ⟨Nat.le_of_ble_eq_true rfl, Nat.le_of_ble_eq_true rfl⟩ (by decide) rfl rfl (Nat.le_of_ble_eq_true rfl) dX11_readDance_41 rfl ?_
          exact w_sub (lv' := [(1, .int r5), (0, .ref (ad 0))]) [0, 1] rfl (hJ9 u37 h)
    · exact w_rv hr h (by decide) dX11_readDance_23
  · refine w_icmp_ne C (qt := 16) dX11_readDance_8 (by decide) rfl h (fun _ h => ?_) (fun _ h => ?_)
    · exact w_sub (lv' := [(0, .ref (ad 0))]) [0] rfl (hJ3 σ h)
    · refine w_aload_n C dX11_readDance_11 rfl 0 rfl ?_
      refine w_iconst C 2 dX11_readDance_12 rfl (by decide) ?_
      refine bd1_w h (fun u38 hc h => ?_)
      refine w_callVv C (n := 1) (As := [.int 2]) (st := []) 0 (Nat.le_of_ble_eq_true rfl) rfl rfl (cfX11_wrong D cI cT ad (l := X.2.1) C.2.2.1 hc) tw7_156 cy_X11_wrong (by decide +kernel) ⟨Nat.le_of_ble_eq_true rfl, Nat.le_of_ble_eq_true rfl⟩ (by decide) rfl rfl (Nat.le_of_ble_eq_true rfl) dX11_readDance_13 rfl ?_
      exact w_sub (lv' := [(0, .ref (ad 0))]) [0] rfl (hJ3 u38 h)
theorem cfX11_readDance (D : va_G) (cI cT : ClassId) (ad : Nat → Nat) {l : Launch} (had : gAp (gM D cI cT ad)) {F : Nat} {σ : St}  {σ' : St} (h : fX11_readDance F σ = some σ') : MV l yX11_readDance (wB yX11_readDance cX11_readDance 5 none) 3 66 (gM D cI cT ad) [.ref (ad 0)] σ σ' := mk_MV had (by decide +kernel) (Nat.le_of_ble_eq_true rfl) (fun X hX C hr => wfX11_readDance C hr h)

def fX11_readStep (F : Nat) (σ : St) (a0 : Int32) : Option St := jn (fun v1 : St => nm ((8 + (if 1 < (v1 5 5) then (v1 5 5) else 1)) - 1) fun x4 => jn (fun v5 : St => if (v5 0 25) = 0 then (bd1 (fX11_stepOn F v5) fun u8 => ckI (x4) 16 (nm ((10 * x4) + (u8 10 (Int32.toNatClampNeg x4))) fun x9 => ckI (x9) 160 (nm (up u8 11 (Int32.toNatClampNeg x9) a0) fun u10 => jn (fun v11 : St × Int32 => ckI (x9) 160 (nm (up v11.1 12 (Int32.toNatClampNeg x9) v11.2) fun u14 => jn (fun v15 : St × Int32 => ckI (x9) 160 (nm (up v15.1 13 (Int32.toNatClampNeg x9) v15.2) fun u18 => jn (fun v19 : St × Int32 => ckI (x9) 160 (nm (up v19.1 14 (Int32.toNatClampNeg x9) v19.2) fun u22 => ckI (x4) 16 (ckI (x4) 16 (nm (up u22 10 (Int32.toNatClampNeg x4) ((u22 10 (Int32.toNatClampNeg x4)) + 1)) fun u23 => some u23)))) fun J20 => jn (fun v24 : Unit => J20 ((u18, 0))) fun J25 => if a0 = (1 : Int32) then (J25 (())) else if a0 = (4 : Int32) then (J25 (())) else bd2 (fX11_readNumber F u18 0 7) fun r27 u28 => J20 ((u28, r27)))) fun J16 => jn (fun v29 : Unit => J16 ((u14, 0))) fun J30 => if a0 = (3 : Int32) then (J30 (())) else if a0 = (4 : Int32) then (J30 (())) else bd2 (fX11_readNumber F u14 0 9) fun r32 u33 => J16 ((u33, r32)))) fun J12 => if a0 = (4 : Int32) then (J12 ((u10, 2))) else bd2 (fX11_readNumber F u10 0 2) fun r34 u35 => J12 ((u35, r34))))) else some v5) fun J6 => if (v1 0 25) = 0 then (ckI (x4) 16 (if (v1 10 (Int32.toNatClampNeg x4)) = (10 : Int32) then (bd1 (fX11_wrong F v1 2) fun u36 => J6 u36) else J6 v1)) else J6 v1) fun J2 => if (σ 5 5) = 0 then (bd1 (fX11_wrong F σ 1) fun u37 => J2 u37) else J2 σ
set_option maxRecDepth 20000 in
theorem wfX11_readStep {X : XT} {D : va_G} {cI cT : ClassId} {ad : Nat → Nat} {F : Nat} {σ : St} {a0 : Int32} {σ' : St} (C : Cx X (gM D cI cT ad) cX11_readStep 4 RX11 3 66 0) (hr : RetV X (gM D cI cT ad) cX11_readStep 4 0 σ') (h : fX11_readStep F σ a0 = some σ') : WP X (gM D cI cT ad) 4 0 0 σ [(0, .ref (ad 0)), (1, .int a0)] [] := by
  unfold fX11_readStep at h
  refine w_aload_n C dX11_readStep_0 rfl 0 rfl ?_
  refine w_get C 0 5 (Nat.le_of_ble_eq_true rfl) rfl rfl inB_X11 (by decide) tw6_166 rfl dX11_readStep_1 rfl ?_
  refine w_iconst C 5 dX11_readStep_4 rfl (by decide) ?_
  refine w_ialdc C 5 8 0 5 (Nat.le_of_ble_eq_true rfl) (fun _ => rfl) rfl (by decide) (by show ¬ (_ ∨ _); decide) dX11_readStep_5 rfl ?_
  refine jn_w (fun v1 : St => WP X (gM D cI cT ad) 4 0 14 v1 [(0, .ref (ad 0)), (1, .int a0)] []) h (fun v1 h => ?_) (fun J2 hJ3 h => ?_)
  · refine w_bipush C 8 dX11_readStep_14 rfl (by decide) ?_
    refine w_iconst C 1 dX11_readStep_16 rfl (by decide) ?_
    refine w_aload_n C dX11_readStep_17 rfl 0 rfl ?_
    refine w_get C 0 5 (Nat.le_of_ble_eq_true rfl) rfl rfl inB_X11 (by decide) tw6_166 rfl dX11_readStep_18 rfl ?_
    refine w_iconst C 5 dX11_readStep_21 rfl (by decide) ?_
    refine w_ialdc C 5 8 0 5 (Nat.le_of_ble_eq_true rfl) (fun _ => rfl) rfl (by decide) (by show ¬ (_ ∨ _); decide) dX11_readStep_22 rfl ?_
    refine w_mmax C (all4 tw7_211 tw4_199 tw1_17 tw4_200) ⟨Nat.le_of_ble_eq_true rfl, Nat.le_of_ble_eq_true rfl⟩ (by decide) dX11_readStep_23 rfl ?_
    refine w_iadd C dX11_readStep_26 rfl ?_
    refine w_iconst C 1 dX11_readStep_27 rfl (by decide) ?_
    refine w_isub C dX11_readStep_28 rfl ?_
    refine w_nm h (fun x4 h => ?_)
    refine w_istore_n C [(2, .int x4), (0, .ref (ad 0)), (1, .int a0)] dX11_readStep_29 rfl (by decide) rfl ?_
    refine w_aload_n C dX11_readStep_30 rfl 1 rfl ?_
    refine w_get C 0 25 (Nat.le_of_ble_eq_true rfl) rfl rfl inB_X11 (by decide) tw6_186 rfl dX11_readStep_31 rfl ?_
    refine jn_w (fun v5 : St => WP X (gM D cI cT ad) 4 0 53 v5 [(2, .int x4), (0, .ref (ad 0)), (1, .int a0)] []) h (fun v5 h => ?_) (fun J6 hJ7 h => ?_)
    · refine w_aload_n C dX11_readStep_53 rfl 1 rfl ?_
      refine w_get C 0 25 (Nat.le_of_ble_eq_true rfl) rfl rfl inB_X11 (by decide) tw6_186 rfl dX11_readStep_54 rfl ?_
      refine w_if_eq C (qt := 61) dX11_readStep_57 (by decide) rfl h (fun _ h => ?_) (fun _ h => ?_)
      · refine w_aload_n C dX11_readStep_61 rfl 1 rfl ?_
        refine bd1_w h (fun u8 hc h => ?_)
        refine w_callVv C (n := 0) (As := []) (st := []) 0 (Nat.le_of_ble_eq_true rfl) rfl rfl (cfX11_stepOn D cI cT ad (l := X.2.1) C.2.2.1 hc) tw7_121 cy_X11_stepOn (by decide +kernel) ⟨Nat.le_of_ble_eq_true rfl, Nat.le_of_ble_eq_true rfl⟩ (by decide) rfl rfl (Nat.le_of_ble_eq_true rfl) dX11_readStep_62 rfl ?_
        refine w_bipush C 10 dX11_readStep_65 rfl (by decide) ?_
        refine w_iload_n C dX11_readStep_67 rfl 0 rfl ?_
        refine w_imul C dX11_readStep_68 rfl ?_
        refine w_aload_n C dX11_readStep_69 rfl 1 rfl ?_
        refine w_get C 0 10 (Nat.le_of_ble_eq_true rfl) rfl rfl inB_X11 (by decide) tw6_171 rfl dX11_readStep_70 rfl ?_
        refine w_iload_n C dX11_readStep_73 rfl 0 rfl ?_
        refine w_iald C 10 16 0 (Nat.le_of_ble_eq_true rfl) (fun _ => rfl) rfl h dX11_readStep_74 rfl (fun h => ?_)
        refine w_iadd C dX11_readStep_75 rfl ?_
        refine w_nm h (fun x9 h => ?_)
        refine w_istore_n C [(3, .int x9), (2, .int x4), (0, .ref (ad 0)), (1, .int a0)] dX11_readStep_76 rfl (by decide) rfl ?_
        refine w_aload_n C dX11_readStep_77 rfl 2 rfl ?_
        refine w_get C 0 11 (Nat.le_of_ble_eq_true rfl) rfl rfl inB_X11 (by decide) tw6_172 rfl dX11_readStep_78 rfl ?_
        refine w_iload_n C dX11_readStep_81 rfl 0 rfl ?_
        refine w_iload_n C dX11_readStep_82 rfl 3 rfl ?_
        refine w_iast C 11 160 0 (Nat.le_of_ble_eq_true rfl) (fun _ => rfl) rfl h dX11_readStep_83 rfl (fun h => ?_)
        refine w_nst h (fun u10 h => ?_)
        refine w_aload_n C dX11_readStep_84 rfl 2 rfl ?_
        refine w_get C 0 12 (Nat.le_of_ble_eq_true rfl) rfl rfl inB_X11 (by decide) tw6_173 rfl dX11_readStep_85 rfl ?_
        refine w_iload_n C dX11_readStep_88 rfl 0 rfl ?_
        refine w_iload_n C dX11_readStep_89 rfl 3 rfl ?_
        refine w_iconst C 4 dX11_readStep_90 rfl (by decide) ?_
        refine jn_w (fun v11 : St × Int32 => WP X (gM D cI cT ad) 4 0 104 v11.1 [(3, .int x9), (2, .int x4), (0, .ref (ad 0)), (1, .int a0)] [.int v11.2, .int x9, .ref (ad 12)]) h (fun v11 h => ?_) (fun J12 hJ13 h => ?_)
        · refine w_iast C 12 160 0 (Nat.le_of_ble_eq_true rfl) (fun _ => rfl) rfl h dX11_readStep_104 rfl (fun h => ?_)
          refine w_nst h (fun u14 h => ?_)
          refine w_aload_n C dX11_readStep_105 rfl 2 rfl ?_
          refine w_get C 0 13 (Nat.le_of_ble_eq_true rfl) rfl rfl inB_X11 (by decide) tw6_174 rfl dX11_readStep_106 rfl ?_
          refine w_iload_n C dX11_readStep_109 rfl 0 rfl ?_
          refine w_iload_n C dX11_readStep_110 rfl 3 rfl ?_
          refine w_iconst C 3 dX11_readStep_111 rfl (by decide) ?_
          refine jn_w (fun v15 : St × Int32 => WP X (gM D cI cT ad) 4 0 131 v15.1 [(3, .int x9), (2, .int x4), (0, .ref (ad 0)), (1, .int a0)] [.int v15.2, .int x9, .ref (ad 13)]) h (fun v15 h => ?_) (fun J16 hJ17 h => ?_)
          · refine w_iast C 13 160 0 (Nat.le_of_ble_eq_true rfl) (fun _ => rfl) rfl h dX11_readStep_131 rfl (fun h => ?_)
            refine w_nst h (fun u18 h => ?_)
            refine w_aload_n C dX11_readStep_132 rfl 2 rfl ?_
            refine w_get C 0 14 (Nat.le_of_ble_eq_true rfl) rfl rfl inB_X11 (by decide) tw6_175 rfl dX11_readStep_133 rfl ?_
            refine w_iload_n C dX11_readStep_136 rfl 0 rfl ?_
            refine w_iload_n C dX11_readStep_137 rfl 3 rfl ?_
            refine w_iconst C 1 dX11_readStep_138 rfl (by decide) ?_
            refine jn_w (fun v19 : St × Int32 => WP X (gM D cI cT ad) 4 0 158 v19.1 [(2, .int x4), (0, .ref (ad 0))] [.int v19.2, .int x9, .ref (ad 14)]) h (fun v19 h => ?_) (fun J20 hJ21 h => ?_)
            · refine w_iast C 14 160 0 (Nat.le_of_ble_eq_true rfl) (fun _ => rfl) rfl h dX11_readStep_158 rfl (fun h => ?_)
              refine w_nst h (fun u22 h => ?_)
              refine w_aload_n C dX11_readStep_159 rfl 1 rfl ?_
              refine w_get C 0 10 (Nat.le_of_ble_eq_true rfl) rfl rfl inB_X11 (by decide) tw6_171 rfl dX11_readStep_160 rfl ?_
              refine w_iload_n C dX11_readStep_163 rfl 0 rfl ?_
              refine w_dup2 C rfl rfl dX11_readStep_164 rfl ?_
              refine w_iald C 10 16 0 (Nat.le_of_ble_eq_true rfl) (fun _ => rfl) rfl h dX11_readStep_165 rfl (fun h => ?_)
              refine w_iconst C 1 dX11_readStep_166 rfl (by decide) ?_
              refine w_iadd C dX11_readStep_167 rfl ?_
              refine w_iast C 10 16 0 (Nat.le_of_ble_eq_true rfl) (fun _ => rfl) rfl h dX11_readStep_168 rfl (fun h => ?_)
              refine w_nst h (fun u23 h => ?_)
              exact w_rv hr h (by decide) dX11_readStep_169
            · refine jn_w (fun v24 : Unit => WP X (gM D cI cT ad) 4 0 147 u18 [(2, .int x4), (0, .ref (ad 0))] [.int x9, .ref (ad 14)]) h (fun v24 h => ?_) (fun J25 hJ26 h => ?_)
              · refine w_iconst C 0 dX11_readStep_147 rfl (by decide) ?_
                refine w_goto (q := 158) C dX11_readStep_148 (by decide) ?_
                exact w_sub (lv' := [(2, .int x4), (0, .ref (ad 0))]) [0, 1] rfl (hJ21 ((u18, 0)) h)
              · refine w_icmp_eq C (qt := 147) dX11_readStep_139 (by decide) rfl h (fun _ h => ?_) (fun _ h => ?_)
                · exact w_sub (lv' := [(2, .int x4), (0, .ref (ad 0))]) [1, 2] rfl (hJ26 (()) h)
                · refine w_iload_n C dX11_readStep_142 rfl 3 rfl ?_
                  refine w_iconst C 4 dX11_readStep_143 rfl (by decide) ?_
                  refine w_icmp_ne C (qt := 151) dX11_readStep_144 (by decide) rfl h (fun _ h => ?_) (fun _ h => ?_)
                  · refine w_aload_n C dX11_readStep_151 rfl 2 rfl ?_
                    refine w_iconst C 0 dX11_readStep_152 rfl (by decide) ?_
                    refine w_bipush C 7 dX11_readStep_153 rfl (by decide) ?_
                    refine bd2_w h (fun r27 u28 hc h => ?_)
                    refine w_callVi C (n := 2) (As := [.int 0, .int 7]) (st := [.int x9, .ref (ad 14)]) 0 (Nat.le_of_ble_eq_true rfl) rfl rfl (cfX11_readNumber D cI cT ad (l := X.2.1) C.2.2.1 hc) tw7_160 cy_X11_readNumber (by decide +kernel) ⟨Nat.le_of_ble_eq_true rfl, Nat.le_of_ble_eq_true rfl⟩ (by decide) rfl rfl (Nat.le_of_ble_eq_true rfl) dX11_readStep_155 rfl ?_
                    exact w_sub (lv' := [(2, .int x4), (0, .ref (ad 0))]) [1, 2] rfl (hJ21 ((u28, r27)) h)
                  · exact w_sub (lv' := [(2, .int x4), (0, .ref (ad 0))]) [1, 2] rfl (hJ26 (()) h)
          · refine jn_w (fun v29 : Unit => WP X (gM D cI cT ad) 4 0 120 u14 [(3, .int x9), (2, .int x4), (0, .ref (ad 0)), (1, .int a0)] [.int x9, .ref (ad 13)]) h (fun v29 h => ?_) (fun J30 hJ31 h => ?_)
            · refine w_iconst C 0 dX11_readStep_120 rfl (by decide) ?_
              refine w_goto (q := 131) C dX11_readStep_121 (by decide) ?_
              exact w_sub (lv' := [(3, .int x9), (2, .int x4), (0, .ref (ad 0)), (1, .int a0)]) [0, 1, 2, 3] rfl (hJ17 ((u14, 0)) h)
            · refine w_icmp_eq C (qt := 120) dX11_readStep_112 (by decide) rfl h (fun _ h => ?_) (fun _ h => ?_)
              · exact w_sub (lv' := [(3, .int x9), (2, .int x4), (0, .ref (ad 0)), (1, .int a0)]) [0, 1, 2, 3] rfl (hJ31 (()) h)
              · refine w_iload_n C dX11_readStep_115 rfl 3 rfl ?_
                refine w_iconst C 4 dX11_readStep_116 rfl (by decide) ?_
                refine w_icmp_ne C (qt := 124) dX11_readStep_117 (by decide) rfl h (fun _ h => ?_) (fun _ h => ?_)
                · refine w_aload_n C dX11_readStep_124 rfl 2 rfl ?_
                  refine w_iconst C 0 dX11_readStep_125 rfl (by decide) ?_
                  refine w_bipush C 9 dX11_readStep_126 rfl (by decide) ?_
                  refine bd2_w h (fun r32 u33 hc h => ?_)
                  refine w_callVi C (n := 2) (As := [.int 0, .int 9]) (st := [.int x9, .ref (ad 13)]) 0 (Nat.le_of_ble_eq_true rfl) rfl rfl (cfX11_readNumber D cI cT ad (l := X.2.1) C.2.2.1 hc) tw7_160 cy_X11_readNumber (by decide +kernel) ⟨Nat.le_of_ble_eq_true rfl, Nat.le_of_ble_eq_true rfl⟩ (by decide) rfl rfl (Nat.le_of_ble_eq_true rfl) dX11_readStep_128 rfl ?_
                  exact w_sub (lv' := [(3, .int x9), (2, .int x4), (0, .ref (ad 0)), (1, .int a0)]) [0, 1, 2, 3] rfl (hJ17 ((u33, r32)) h)
                · exact w_sub (lv' := [(3, .int x9), (2, .int x4), (0, .ref (ad 0)), (1, .int a0)]) [0, 1, 2, 3] rfl (hJ31 (()) h)
        · refine w_icmp_ne C (qt := 98) dX11_readStep_91 (by decide) rfl h (fun _ h => ?_) (fun _ h => ?_)
          · refine w_aload_n C dX11_readStep_98 rfl 2 rfl ?_
            refine w_iconst C 0 dX11_readStep_99 rfl (by decide) ?_
            refine w_iconst C 2 dX11_readStep_100 rfl (by decide) ?_
            refine bd2_w h (fun r34 u35 hc h => ?_)
            refine w_callVi C (n := 2) (As := [.int 0, .int 2]) (st := [.int x9, .ref (ad 12)]) 0 (Nat.le_of_ble_eq_true rfl) rfl rfl (cfX11_readNumber D cI cT ad (l := X.2.1) C.2.2.1 hc) tw7_160 cy_X11_readNumber (by decide +kernel) ⟨Nat.le_of_ble_eq_true rfl, Nat.le_of_ble_eq_true rfl⟩ (by decide) rfl rfl (Nat.le_of_ble_eq_true rfl) dX11_readStep_101 rfl ?_
            exact w_sub (lv' := [(3, .int x9), (2, .int x4), (0, .ref (ad 0)), (1, .int a0)]) [0, 1, 2, 3] rfl (hJ13 ((u35, r34)) h)
          · refine w_iconst C 2 dX11_readStep_94 rfl (by decide) ?_
            refine w_goto (q := 104) C dX11_readStep_95 (by decide) ?_
            exact w_sub (lv' := [(3, .int x9), (2, .int x4), (0, .ref (ad 0)), (1, .int a0)]) [0, 1, 2, 3] rfl (hJ13 ((u10, 2)) h)
      · exact w_rv hr h (by decide) dX11_readStep_60
    · refine w_if_ne C (qt := 53) dX11_readStep_34 (by decide) rfl h (fun _ h => ?_) (fun _ h => ?_)
      · exact w_sub (lv' := [(2, .int x4), (0, .ref (ad 0)), (1, .int a0)]) [0, 1, 2] rfl (hJ7 v1 h)
      · refine w_aload_n C dX11_readStep_37 rfl 1 rfl ?_
        refine w_get C 0 10 (Nat.le_of_ble_eq_true rfl) rfl rfl inB_X11 (by decide) tw6_171 rfl dX11_readStep_38 rfl ?_
        refine w_iload_n C dX11_readStep_41 rfl 0 rfl ?_
        refine w_iald C 10 16 0 (Nat.le_of_ble_eq_true rfl) (fun _ => rfl) rfl h dX11_readStep_42 rfl (fun h => ?_)
        refine w_bipush C 10 dX11_readStep_43 rfl (by decide) ?_
        refine w_icmp_ne C (qt := 53) dX11_readStep_45 (by decide) rfl h (fun _ h => ?_) (fun _ h => ?_)
        · exact w_sub (lv' := [(2, .int x4), (0, .ref (ad 0)), (1, .int a0)]) [0, 1, 2] rfl (hJ7 v1 h)
        · refine w_aload_n C dX11_readStep_48 rfl 1 rfl ?_
          refine w_iconst C 2 dX11_readStep_49 rfl (by decide) ?_
          refine bd1_w h (fun u36 hc h => ?_)
          refine w_callVv C (n := 1) (As := [.int 2]) (st := []) 0 (Nat.le_of_ble_eq_true rfl) rfl rfl (cfX11_wrong D cI cT ad (l := X.2.1) C.2.2.1 hc) tw7_156 cy_X11_wrong (by decide +kernel) ⟨Nat.le_of_ble_eq_true rfl, Nat.le_of_ble_eq_true rfl⟩ (by decide) rfl rfl (Nat.le_of_ble_eq_true rfl) dX11_readStep_50 rfl ?_
          exact w_sub (lv' := [(2, .int x4), (0, .ref (ad 0)), (1, .int a0)]) [0, 1, 2] rfl (hJ7 u36 h)
  · refine w_if_ne C (qt := 14) dX11_readStep_6 (by decide) rfl h (fun _ h => ?_) (fun _ h => ?_)
    · exact w_sub (lv' := [(0, .ref (ad 0)), (1, .int a0)]) [0, 1] rfl (hJ3 σ h)
    · refine w_aload_n C dX11_readStep_9 rfl 0 rfl ?_
      refine w_iconst C 1 dX11_readStep_10 rfl (by decide) ?_
      refine bd1_w h (fun u37 hc h => ?_)
      refine w_callVv C (n := 1) (As := [.int 1]) (st := []) 0 (Nat.le_of_ble_eq_true rfl) rfl rfl (cfX11_wrong D cI cT ad (l := X.2.1) C.2.2.1 hc) tw7_156 cy_X11_wrong (by decide +kernel) ⟨Nat.le_of_ble_eq_true rfl, Nat.le_of_ble_eq_true rfl⟩ (by decide) rfl rfl (Nat.le_of_ble_eq_true rfl) dX11_readStep_11 rfl ?_
      exact w_sub (lv' := [(0, .ref (ad 0)), (1, .int a0)]) [0, 1] rfl (hJ3 u37 h)
theorem cfX11_readStep (D : va_G) (cI cT : ClassId) (ad : Nat → Nat) {l : Launch} (had : gAp (gM D cI cT ad)) {F : Nat} {σ : St} {a0 : Int32} {σ' : St} (h : fX11_readStep F σ a0 = some σ') : MV l yX11_readStep (wB yX11_readStep cX11_readStep 4 none) 3 66 (gM D cI cT ad) [.ref (ad 0), .int a0] σ σ' := mk_MV had (by decide +kernel) (Nat.le_of_ble_eq_true rfl) (fun X hX C hr => wfX11_readStep C hr h)

def fX11_which_2 (F : Nat) (σ : St) : Option Int32 := lp (fun (K2 : Int32 → Option Int32) (v1 : Int32) => if (5 : Int32) ≤ v1 then (some ((-1))) else ckI (v1) 5 (bd1 (fX11_is F σ (([0, 1, 2, 3, 4] : List Nat).getD (Int32.toNatClampNeg v1) 0)) fun r4 => if r4 = 0 then (K2 (v1 + 1)) else some v1)) F 0
set_option maxRecDepth 20000 in
theorem wfX11_which_2 {X : XT} {D : va_G} {cI cT : ClassId} {ad : Nat → Nat} {F : Nat} {σ : St}  {r : Int32} (C : Cx X (gM D cI cT ad) cX11_which 3 RX11 5 108 0) (hr : RetI X (gM D cI cT ad) cX11_which 3 0 r σ) (h : fX11_which_2 F σ = some r) : WP X (gM D cI cT ad) 3 0 0 σ [(0, .ref (ad 0)), (1, .ref (ad 1))] [] := by
  unfold fX11_which_2 at h
  refine w_iconst C 0 dX11_which_0 rfl (by decide) ?_
  refine w_istore_n C [(2, .int 0), (0, .ref (ad 0)), (1, .ref (ad 1))] dX11_which_1 rfl (by decide) rfl ?_
  refine w_sub (lv' := [(2, .int 0), (0, .ref (ad 0)), (1, .ref (ad 1))]) [0, 1, 2] rfl ?_
  refine lp_w (fun v1 : Int32 => WP X (gM D cI cT ad) 3 0 2 σ [(2, .int v1), (0, .ref (ad 0)), (1, .ref (ad 1))] []) (fun K2 hK3 v1 h => ?_) F _ h
  refine w_iload_n C dX11_which_2 rfl 0 rfl ?_
  refine w_aload_n C dX11_which_3 rfl 2 rfl ?_
  refine w_alenS C 1 5 1 5 (fun j => ([0, 1, 2, 3, 4] : List Nat).getD j 0) (Nat.le_of_ble_eq_true rfl) (fun _ => rfl) rfl (by decide) dX11_which_4 rfl ?_
  refine w_icmp_ge C (qt := 26) dX11_which_5 (by decide) rfl h (fun _ h => ?_) (fun _ h => ?_)
  · refine w_iconst C (-1) dX11_which_26 rfl (by decide) ?_
    exact w_ri1 hr h (by decide) dX11_which_27
  · refine w_aload_n C dX11_which_8 rfl 1 rfl ?_
    refine w_aload_n C dX11_which_9 rfl 2 rfl ?_
    refine w_iload_n C dX11_which_10 rfl 0 rfl ?_
    refine w_aaldS C 1 5 1 (fun j => ([0, 1, 2, 3, 4] : List Nat).getD j 0) (Nat.le_of_ble_eq_true rfl) (fun _ => rfl) rfl h dX11_which_11 rfl (fun h => ?_)
    refine bd1_w h (fun r4 hc h => ?_)
    refine w_callVi C (n := 1) (As := [.ref (ad (1100 + (([0, 1, 2, 3, 4] : List Nat).getD (Int32.toNatClampNeg v1) 0)))]) (st := []) 0 (Nat.le_of_ble_eq_true rfl) rfl rfl (cfX11_is D cI cT ad (l := X.2.1) C.2.2.1 hc) tw7_145 cy_X11_is (by decide +kernel) ⟨Nat.le_of_ble_eq_true rfl, Nat.le_of_ble_eq_true rfl⟩ (by decide) rfl rfl (Nat.le_of_ble_eq_true rfl) dX11_which_12 rfl ?_
    refine w_if_eq C (qt := 20) dX11_which_15 (by decide) rfl h (fun _ h => ?_) (fun _ h => ?_)
    · refine w_iinc (j := 0) C (v1 + 1) [(2, .int (v1 + 1)), (0, .ref (ad 0)), (1, .ref (ad 1))] dX11_which_20 rfl rfl rfl (by decide) rfl ?_
      refine w_goto (q := 2) C dX11_which_23 (by decide) ?_
      exact w_sub (lv' := [(2, .int (v1 + 1)), (0, .ref (ad 0)), (1, .ref (ad 1))]) [0, 1, 2] rfl (hK3 (v1 + 1) h)
    · refine w_iload_n C dX11_which_18 rfl 0 rfl ?_
      exact w_ri1 hr h (by decide) dX11_which_19
theorem cfX11_which_2 (D : va_G) (cI cT : ClassId) (ad : Nat → Nat) {l : Launch} (had : gAp (gM D cI cT ad)) {F : Nat} {σ : St}  {r : Int32} (h : fX11_which_2 F σ = some r) : MI l yX11_which (wB yX11_which cX11_which 3 (some .int)) 5 108 (gM D cI cT ad) [.ref (ad 0), .ref (ad 1)] σ r σ := mk_MI had (by decide +kernel) (Nat.le_of_ble_eq_true rfl) (fun X hX C hr => wfX11_which_2 C hr h)

def fX11_readLine (F : Nat) (σ : St) (a0 : Int32) : Option (Int32 × St) := bd1 (fX11_is F σ 15) fun r1 => jn (fun v2 : Int32 => bd1 (fX11_which_2 F σ) fun r5 => jn (fun v6 : St => jn (fun v9 : St => bd1 (fX11_mark F v9 59) fun u12 => some (a0 ||| v2, u12)) fun J10 => if v2 ≤ 0 then (if r5 = (-1 : Int32) then (bd1 (fX11_is F v6 13) fun r13 => if r13 = 0 then (bd1 (fX11_is F v6 14) fun r14 => if r14 = 0 then (bd1 (fX11_wrong F v6 1) fun u15 => J10 u15) else bd1 (fX11_readDance F v6) fun u16 => J10 u16) else bd1 (fX11_readValley F v6) fun u17 => J10 u17) else bd1 (fX11_readStep F v6 r5) fun u18 => J10 u18) else jn (fun v19 : St => if v2 = (1 : Int32) then (bd2 (fX11_readNumber F v19 4 20) fun r23 u24 => nm (up u24 5 6 r23) fun u25 => J10 u25) else bd1 (fX11_readExpression F 10 v19 0) fun u22 => J10 u22) fun J20 => if (v6 0 25) = 0 then (bd1 (fX11_stepOn F v6) fun u26 => J20 u26) else J20 v6) fun J7 => if (v2 &&& a0) = 0 then (J7 σ) else bd1 (fX11_wrong F σ 5) fun u27 => J7 u27) fun J3 => if r1 = 0 then (bd1 (fX11_is F σ 16) fun r28 => if r28 = 0 then (J3 0) else J3 2) else J3 1
set_option maxRecDepth 20000 in
theorem wfX11_readLine {X : XT} {D : va_G} {cI cT : ClassId} {ad : Nat → Nat} {F : Nat} {σ : St} {a0 : Int32} {r : Int32} {σ' : St} (C : Cx X (gM D cI cT ad) cX11_readLine 4 RX11 111 2422 0) (hr : RetI X (gM D cI cT ad) cX11_readLine 4 0 r σ') (h : fX11_readLine F σ a0 = some (r, σ')) : WP X (gM D cI cT ad) 4 0 0 σ [(0, .ref (ad 0)), (1, .int a0)] [] := by
  unfold fX11_readLine at h
  refine w_aload_n C dX11_readLine_0 rfl 0 rfl ?_
  refine w_ldcSW C (tx := "floor") 15 (by decide) dX11_readLine_1 rfl ?_
  refine bd1_w h (fun r1 hc h => ?_)
  refine w_callVi C (n := 1) (As := [.ref (ad (1100 + 15))]) (st := []) 0 (Nat.le_of_ble_eq_true rfl) rfl rfl (cfX11_is D cI cT ad (l := X.2.1) C.2.2.1 hc) tw7_145 cy_X11_is (by decide +kernel) ⟨Nat.le_of_ble_eq_true rfl, Nat.le_of_ble_eq_true rfl⟩ (by decide) rfl rfl (Nat.le_of_ble_eq_true rfl) dX11_readLine_4 rfl ?_
  refine jn_w (fun v2 : Int32 => WP X (gM D cI cT ad) 4 0 29 σ [(0, .ref (ad 0)), (1, .int a0)] [.int v2]) h (fun v2 h => ?_) (fun J3 hJ4 h => ?_)
  · refine w_istore_n C [(2, .int v2), (0, .ref (ad 0)), (1, .int a0)] dX11_readLine_29 rfl (by decide) rfl ?_
    refine w_aload_n C dX11_readLine_30 rfl 1 rfl ?_
    refine w_aload_n C dX11_readLine_31 rfl 1 rfl ?_
    refine w_get C 0 0 (Nat.le_of_ble_eq_true rfl) rfl rfl inB_X11 (by decide) tw6_161 rfl dX11_readLine_32 rfl ?_
    refine bd1_w h (fun r5 hc h => ?_)
    refine w_callVi C (n := 1) (As := [.ref (ad 1)]) (st := []) 0 (Nat.le_of_ble_eq_true rfl) rfl rfl (cfX11_which_2 D cI cT ad (l := X.2.1) C.2.2.1 hc) tw7_152 cy_X11_which (by decide +kernel) ⟨Nat.le_of_ble_eq_true rfl, Nat.le_of_ble_eq_true rfl⟩ (by decide) rfl rfl (Nat.le_of_ble_eq_true rfl) dX11_readLine_35 rfl ?_
    refine w_istore_n C [(3, .int r5), (2, .int v2), (0, .ref (ad 0)), (1, .int a0)] dX11_readLine_38 rfl (by decide) rfl ?_
    refine w_iload_n C dX11_readLine_39 rfl 1 rfl ?_
    refine w_iload_n C dX11_readLine_40 rfl 3 rfl ?_
    refine w_iand C dX11_readLine_41 rfl ?_
    refine jn_w (fun v6 : St => WP X (gM D cI cT ad) 4 0 50 v6 [(3, .int r5), (2, .int v2), (0, .ref (ad 0)), (1, .int a0)] []) h (fun v6 h => ?_) (fun J7 hJ8 h => ?_)
    · refine w_iload_n C dX11_readLine_50 rfl 1 rfl ?_
      refine jn_w (fun v9 : St => WP X (gM D cI cT ad) 4 0 147 v9 [(2, .int v2), (0, .ref (ad 0)), (1, .int a0)] []) h (fun v9 h => ?_) (fun J10 hJ11 h => ?_)
      · refine w_aload_n C dX11_readLine_147 rfl 1 rfl ?_
        refine w_bipush C 59 dX11_readLine_148 rfl (by decide) ?_
        refine bd1_w h (fun u12 hc h => ?_)
        refine w_callVv C (n := 1) (As := [.int 59]) (st := []) 0 (Nat.le_of_ble_eq_true rfl) rfl rfl (cfX11_mark D cI cT ad (l := X.2.1) C.2.2.1 hc) tw7_201 cy_X11_mark (by decide +kernel) ⟨Nat.le_of_ble_eq_true rfl, Nat.le_of_ble_eq_true rfl⟩ (by decide) rfl rfl (Nat.le_of_ble_eq_true rfl) dX11_readLine_150 rfl ?_
        refine w_iload_n C dX11_readLine_153 rfl 2 rfl ?_
        refine w_iload_n C dX11_readLine_154 rfl 0 rfl ?_
        refine w_ior C dX11_readLine_155 rfl ?_
        exact w_ri2 hr h (by decide) dX11_readLine_156
      · refine w_if_le C (qt := 95) dX11_readLine_51 (by decide) rfl h (fun _ h => ?_) (fun _ h => ?_)
        · refine w_iload_n C dX11_readLine_95 rfl 0 rfl ?_
          refine w_iconst C (-1) dX11_readLine_96 rfl (by decide) ?_
          refine w_icmp_eq C (qt := 108) dX11_readLine_97 (by decide) rfl h (fun _ h => ?_) (fun _ h => ?_)
          · refine w_aload_n C dX11_readLine_108 rfl 2 rfl ?_
            refine w_ldcSW C (tx := "valley") 13 (by decide) dX11_readLine_109 rfl ?_
            refine bd1_w h (fun r13 hc h => ?_)
            refine w_callVi C (n := 1) (As := [.ref (ad (1100 + 13))]) (st := []) 0 (Nat.le_of_ble_eq_true rfl) rfl rfl (cfX11_is D cI cT ad (l := X.2.1) C.2.2.1 hc) tw7_145 cy_X11_is (by decide +kernel) ⟨Nat.le_of_ble_eq_true rfl, Nat.le_of_ble_eq_true rfl⟩ (by decide) rfl rfl (Nat.le_of_ble_eq_true rfl) dX11_readLine_112 rfl ?_
            refine w_if_eq C (qt := 125) dX11_readLine_115 (by decide) rfl h (fun _ h => ?_) (fun _ h => ?_)
            · refine w_aload_n C dX11_readLine_125 rfl 2 rfl ?_
              refine w_ldcSW C (tx := "dance") 14 (by decide) dX11_readLine_126 rfl ?_
              refine bd1_w h (fun r14 hc h => ?_)
              refine w_callVi C (n := 1) (As := [.ref (ad (1100 + 14))]) (st := []) 0 (Nat.le_of_ble_eq_true rfl) rfl rfl (cfX11_is D cI cT ad (l := X.2.1) C.2.2.1 hc) tw7_145 cy_X11_is (by decide +kernel) ⟨Nat.le_of_ble_eq_true rfl, Nat.le_of_ble_eq_true rfl⟩ (by decide) rfl rfl (Nat.le_of_ble_eq_true rfl) dX11_readLine_129 rfl ?_
              refine w_if_eq C (qt := 142) dX11_readLine_132 (by decide) rfl h (fun _ h => ?_) (fun _ h => ?_)
              · refine w_aload_n C dX11_readLine_142 rfl 2 rfl ?_
                refine w_iconst C 1 dX11_readLine_143 rfl (by decide) ?_
                refine bd1_w h (fun u15 hc h => ?_)
                refine w_callVv C (n := 1) (As := [.int 1]) (st := []) 0 (Nat.le_of_ble_eq_true rfl) rfl rfl (cfX11_wrong D cI cT ad (l := X.2.1) C.2.2.1 hc) tw7_156 cy_X11_wrong (by decide +kernel) ⟨Nat.le_of_ble_eq_true rfl, Nat.le_of_ble_eq_true rfl⟩ (by decide) rfl rfl (Nat.le_of_ble_eq_true rfl) dX11_readLine_144 rfl ?_
                exact w_sub (lv' := [(2, .int v2), (0, .ref (ad 0)), (1, .int a0)]) [1, 2, 3] rfl (hJ11 u15 h)
              · refine w_aload_n C dX11_readLine_135 rfl 2 rfl ?_
                refine bd1_w h (fun u16 hc h => ?_)
                refine w_callVv C (n := 0) (As := []) (st := []) 0 (Nat.le_of_ble_eq_true rfl) rfl rfl (cfX11_readDance D cI cT ad (l := X.2.1) C.2.2.1 hc) tw7_218 cy_X11_readDance (by decide +kernel) ⟨Nat.le_of_ble_eq_true rfl, Nat.le_of_ble_eq_true rfl⟩ (by decide) rfl rfl (Nat.le_of_ble_eq_true rfl) dX11_readLine_136 rfl ?_
                refine w_goto (q := 147) C dX11_readLine_139 (by decide) ?_
                exact w_sub (lv' := [(2, .int v2), (0, .ref (ad 0)), (1, .int a0)]) [1, 2, 3] rfl (hJ11 u16 h)
            · refine w_aload_n C dX11_readLine_118 rfl 2 rfl ?_
              refine bd1_w h (fun u17 hc h => ?_)
              refine w_callVv C (n := 0) (As := []) (st := []) 0 (Nat.le_of_ble_eq_true rfl) rfl rfl (cfX11_readValley D cI cT ad (l := X.2.1) C.2.2.1 hc) tw7_213 cy_X11_readValley (by decide +kernel) ⟨Nat.le_of_ble_eq_true rfl, Nat.le_of_ble_eq_true rfl⟩ (by decide) rfl rfl (Nat.le_of_ble_eq_true rfl) dX11_readLine_119 rfl ?_
              refine w_goto (q := 147) C dX11_readLine_122 (by decide) ?_
              exact w_sub (lv' := [(2, .int v2), (0, .ref (ad 0)), (1, .int a0)]) [1, 2, 3] rfl (hJ11 u17 h)
          · refine w_aload_n C dX11_readLine_100 rfl 2 rfl ?_
            refine w_iload_n C dX11_readLine_101 rfl 0 rfl ?_
            refine bd1_w h (fun u18 hc h => ?_)
            refine w_callVv C (n := 1) (As := [.int r5]) (st := []) 0 (Nat.le_of_ble_eq_true rfl) rfl rfl (cfX11_readStep D cI cT ad (l := X.2.1) C.2.2.1 hc) tw7_207 cy_X11_readStep (by decide +kernel) ⟨Nat.le_of_ble_eq_true rfl, Nat.le_of_ble_eq_true rfl⟩ (by decide) rfl rfl (Nat.le_of_ble_eq_true rfl) dX11_readLine_102 rfl ?_
            refine w_goto (q := 147) C dX11_readLine_105 (by decide) ?_
            exact w_sub (lv' := [(2, .int v2), (0, .ref (ad 0)), (1, .int a0)]) [1, 2, 3] rfl (hJ11 u18 h)
        · refine w_aload_n C dX11_readLine_54 rfl 2 rfl ?_
          refine w_get C 0 25 (Nat.le_of_ble_eq_true rfl) rfl rfl inB_X11 (by decide) tw6_186 rfl dX11_readLine_55 rfl ?_
          refine jn_w (fun v19 : St => WP X (gM D cI cT ad) 4 0 65 v19 [(2, .int v2), (0, .ref (ad 0)), (1, .int a0)] []) h (fun v19 h => ?_) (fun J20 hJ21 h => ?_)
          · refine w_iload_n C dX11_readLine_65 rfl 0 rfl ?_
            refine w_iconst C 1 dX11_readLine_66 rfl (by decide) ?_
            refine w_icmp_ne C (qt := 87) dX11_readLine_67 (by decide) rfl h (fun _ h => ?_) (fun _ h => ?_)
            · refine w_aload_n C dX11_readLine_87 rfl 1 rfl ?_
              refine w_iconst C 0 dX11_readLine_88 rfl (by decide) ?_
              refine bd1_w h (fun u22 hc h => ?_)
              refine w_callVv C (n := 1) (As := [.int 0]) (st := []) 0 (Nat.le_of_ble_eq_true rfl) rfl rfl (cfX11_readExpression D cI cT ad (l := X.2.1) C.2.2.1 10 hc) tw7_168 cy_X11_readExpression (by decide +kernel) ⟨Nat.le_of_ble_eq_true rfl, Nat.le_of_ble_eq_true rfl⟩ (by decide) rfl rfl (Nat.le_of_ble_eq_true rfl) dX11_readLine_89 rfl ?_
              refine w_goto (q := 147) C dX11_readLine_92 (by decide) ?_
              exact w_sub (lv' := [(2, .int v2), (0, .ref (ad 0)), (1, .int a0)]) [0, 1, 2] rfl (hJ11 u22 h)
            · refine w_aload_n C dX11_readLine_70 rfl 1 rfl ?_
              refine w_get C 0 5 (Nat.le_of_ble_eq_true rfl) rfl rfl inB_X11 (by decide) tw6_166 rfl dX11_readLine_71 rfl ?_
              refine w_bipush C 6 dX11_readLine_74 rfl (by decide) ?_
              refine w_aload_n C dX11_readLine_76 rfl 1 rfl ?_
              refine w_iconst C 4 dX11_readLine_77 rfl (by decide) ?_
              refine w_bipush C 20 dX11_readLine_78 rfl (by decide) ?_
              refine bd2_w h (fun r23 u24 hc h => ?_)
              refine w_callVi C (n := 2) (As := [.int 4, .int 20]) (st := [.int 6, .ref (ad 5)]) 0 (Nat.le_of_ble_eq_true rfl) rfl rfl (cfX11_readNumber D cI cT ad (l := X.2.1) C.2.2.1 hc) tw7_160 cy_X11_readNumber (by decide +kernel) ⟨Nat.le_of_ble_eq_true rfl, Nat.le_of_ble_eq_true rfl⟩ (by decide) rfl rfl (Nat.le_of_ble_eq_true rfl) dX11_readLine_80 rfl ?_
              refine w_iastc C 5 8 0 6 (Nat.le_of_ble_eq_true rfl) (fun _ => rfl) rfl (by decide) (by show ¬ (_ ∨ _); decide) dX11_readLine_83 rfl ?_
              refine w_nst h (fun u25 h => ?_)
              refine w_goto (q := 147) C dX11_readLine_84 (by decide) ?_
              exact w_sub (lv' := [(2, .int v2), (0, .ref (ad 0)), (1, .int a0)]) [0, 1, 2] rfl (hJ11 u25 h)
          · refine w_if_ne C (qt := 65) dX11_readLine_58 (by decide) rfl h (fun _ h => ?_) (fun _ h => ?_)
            · exact w_sub (lv' := [(2, .int v2), (0, .ref (ad 0)), (1, .int a0)]) [1, 2, 3] rfl (hJ21 v6 h)
            · refine w_aload_n C dX11_readLine_61 rfl 2 rfl ?_
              refine bd1_w h (fun u26 hc h => ?_)
              refine w_callVv C (n := 0) (As := []) (st := []) 0 (Nat.le_of_ble_eq_true rfl) rfl rfl (cfX11_stepOn D cI cT ad (l := X.2.1) C.2.2.1 hc) tw7_121 cy_X11_stepOn (by decide +kernel) ⟨Nat.le_of_ble_eq_true rfl, Nat.le_of_ble_eq_true rfl⟩ (by decide) rfl rfl (Nat.le_of_ble_eq_true rfl) dX11_readLine_62 rfl ?_
              exact w_sub (lv' := [(2, .int v2), (0, .ref (ad 0)), (1, .int a0)]) [1, 2, 3] rfl (hJ21 u26 h)
    · refine w_if_eq C (qt := 50) dX11_readLine_42 (by decide) rfl h (fun _ h => ?_) (fun _ h => ?_)
      · exact w_sub (lv' := [(3, .int r5), (2, .int v2), (0, .ref (ad 0)), (1, .int a0)]) [0, 1, 2, 3] rfl (hJ8 σ h)
      · refine w_aload_n C dX11_readLine_45 rfl 2 rfl ?_
        refine w_iconst C 5 dX11_readLine_46 rfl (by decide) ?_
        refine bd1_w h (fun u27 hc h => ?_)
        refine w_callVv C (n := 1) (As := [.int 5]) (st := []) 0 (Nat.le_of_ble_eq_true rfl) rfl rfl (cfX11_wrong D cI cT ad (l := X.2.1) C.2.2.1 hc) tw7_156 cy_X11_wrong (by decide +kernel) ⟨Nat.le_of_ble_eq_true rfl, Nat.le_of_ble_eq_true rfl⟩ (by decide) rfl rfl (Nat.le_of_ble_eq_true rfl) dX11_readLine_47 rfl ?_
        exact w_sub (lv' := [(3, .int r5), (2, .int v2), (0, .ref (ad 0)), (1, .int a0)]) [0, 1, 2, 3] rfl (hJ8 u27 h)
  · refine w_if_eq C (qt := 14) dX11_readLine_7 (by decide) rfl h (fun _ h => ?_) (fun _ h => ?_)
    · refine w_aload_n C dX11_readLine_14 rfl 0 rfl ?_
      refine w_ldcSW C (tx := "limit") 16 (by decide) dX11_readLine_15 rfl ?_
      refine bd1_w h (fun r28 hc h => ?_)
      refine w_callVi C (n := 1) (As := [.ref (ad (1100 + 16))]) (st := []) 0 (Nat.le_of_ble_eq_true rfl) rfl rfl (cfX11_is D cI cT ad (l := X.2.1) C.2.2.1 hc) tw7_145 cy_X11_is (by decide +kernel) ⟨Nat.le_of_ble_eq_true rfl, Nat.le_of_ble_eq_true rfl⟩ (by decide) rfl rfl (Nat.le_of_ble_eq_true rfl) dX11_readLine_18 rfl ?_
      refine w_if_eq C (qt := 28) dX11_readLine_21 (by decide) rfl h (fun _ h => ?_) (fun _ h => ?_)
      · refine w_iconst C 0 dX11_readLine_28 rfl (by decide) ?_
        exact w_sub (lv' := [(0, .ref (ad 0)), (1, .int a0)]) [0, 1] rfl (hJ4 0 h)
      · refine w_iconst C 2 dX11_readLine_24 rfl (by decide) ?_
        refine w_goto (q := 29) C dX11_readLine_25 (by decide) ?_
        exact w_sub (lv' := [(0, .ref (ad 0)), (1, .int a0)]) [0, 1] rfl (hJ4 2 h)
    · refine w_iconst C 1 dX11_readLine_10 rfl (by decide) ?_
      refine w_goto (q := 29) C dX11_readLine_11 (by decide) ?_
      exact w_sub (lv' := [(0, .ref (ad 0)), (1, .int a0)]) [0, 1] rfl (hJ4 1 h)
theorem cfX11_readLine (D : va_G) (cI cT : ClassId) (ad : Nat → Nat) {l : Launch} (had : gAp (gM D cI cT ad)) {F : Nat} {σ : St} {a0 : Int32} {r : Int32} {σ' : St} (h : fX11_readLine F σ a0 = some (r, σ')) : MI l yX11_readLine (wB yX11_readLine cX11_readLine 4 (some .int)) 111 2422 (gM D cI cT ad) [.ref (ad 0), .int a0] σ r σ' := mk_MI had (by decide +kernel) (Nat.le_of_ble_eq_true rfl) (fun X hX C hr => wfX11_readLine C hr h)

def fX11_takeHalf (F : Nat) (σ : St) : Option St := lp (fun (K2 : (St × Int32) → Option St) (v1 : St × Int32) => if (8 / 2) ≤ v1.2 then (some v1.1) else ckI ((8 / 2) + v1.2) 8 (ckI (v1.2) 8 (nm (up v1.1 5 (Int32.toNatClampNeg v1.2) (v1.1 5 (Int32.toNatClampNeg ((8 / 2) + v1.2)))) fun u4 => K2 ((u4, v1.2 + 1))))) F ((σ, 0))
set_option maxRecDepth 20000 in
theorem wfX11_takeHalf {X : XT} {D : va_G} {cI cT : ClassId} {ad : Nat → Nat} {F : Nat} {σ : St}  {σ' : St} (C : Cx X (gM D cI cT ad) cX11_takeHalf 2 RX11 0 0 0) (hr : RetV X (gM D cI cT ad) cX11_takeHalf 2 0 σ') (h : fX11_takeHalf F σ = some σ') : WP X (gM D cI cT ad) 2 0 0 σ [(0, .ref (ad 5))] [] := by
  unfold fX11_takeHalf at h
  refine w_iconst C 0 dX11_takeHalf_0 rfl (by decide) ?_
  refine w_istore_n C [(1, .int 0), (0, .ref (ad 5))] dX11_takeHalf_1 rfl (by decide) rfl ?_
  refine w_sub (lv' := [(1, .int 0), (0, .ref (ad 5))]) [0, 1] rfl ?_
  refine lp_w (fun v1 : St × Int32 => WP X (gM D cI cT ad) 2 0 2 v1.1 [(1, .int v1.2), (0, .ref (ad 5))] []) (fun K2 hK3 v1 h => ?_) F _ h
  refine w_iload_n C dX11_takeHalf_2 rfl 0 rfl ?_
  refine w_aload_n C dX11_takeHalf_3 rfl 1 rfl ?_
  refine w_alen C 5 8 0 8 (Nat.le_of_ble_eq_true rfl) (fun _ => rfl) rfl (by decide) dX11_takeHalf_4 rfl ?_
  refine w_iconst C 2 dX11_takeHalf_5 rfl (by decide) ?_
  refine w_idiv C (by decide) dX11_takeHalf_6 rfl ?_
  refine w_icmp_ge C (qt := 27) dX11_takeHalf_7 (by decide) rfl h (fun _ h => ?_) (fun _ h => ?_)
  · exact w_rv hr h (by decide) dX11_takeHalf_27
  · refine w_aload_n C dX11_takeHalf_10 rfl 1 rfl ?_
    refine w_iload_n C dX11_takeHalf_11 rfl 0 rfl ?_
    refine w_aload_n C dX11_takeHalf_12 rfl 1 rfl ?_
    refine w_aload_n C dX11_takeHalf_13 rfl 1 rfl ?_
    refine w_alen C 5 8 0 8 (Nat.le_of_ble_eq_true rfl) (fun _ => rfl) rfl (by decide) dX11_takeHalf_14 rfl ?_
    refine w_iconst C 2 dX11_takeHalf_15 rfl (by decide) ?_
    refine w_idiv C (by decide) dX11_takeHalf_16 rfl ?_
    refine w_iload_n C dX11_takeHalf_17 rfl 0 rfl ?_
    refine w_iadd C dX11_takeHalf_18 rfl ?_
    refine w_iald C 5 8 0 (Nat.le_of_ble_eq_true rfl) (fun _ => rfl) rfl h dX11_takeHalf_19 rfl (fun h => ?_)
    refine w_iast C 5 8 0 (Nat.le_of_ble_eq_true rfl) (fun _ => rfl) rfl h dX11_takeHalf_20 rfl (fun h => ?_)
    refine w_nst h (fun u4 h => ?_)
    refine w_iinc (j := 0) C (v1.2 + 1) [(1, .int (v1.2 + 1)), (0, .ref (ad 5))] dX11_takeHalf_21 rfl rfl rfl (by decide) rfl ?_
    refine w_goto (q := 2) C dX11_takeHalf_24 (by decide) ?_
    exact w_sub (lv' := [(1, .int (v1.2 + 1)), (0, .ref (ad 5))]) [0, 1] rfl (hK3 ((u4, v1.2 + 1)) h)
theorem cfX11_takeHalf (D : va_G) (cI cT : ClassId) (ad : Nat → Nat) {l : Launch} (had : gAp (gM D cI cT ad)) {F : Nat} {σ : St}  {σ' : St} (h : fX11_takeHalf F σ = some σ') : MV l yX11_takeHalf (wB yX11_takeHalf cX11_takeHalf 2 none) 0 0 (gM D cI cT ad) [.ref (ad 5)] σ σ' := mk_MV had (by decide +kernel) (Nat.le_of_ble_eq_true rfl) (fun X hX C hr => wfX11_takeHalf C hr h)

def fX11_takeHalf_2 (F : Nat) (σ : St) : Option St := lp (fun (K2 : (St × Int32) → Option St) (v1 : St × Int32) => if (12 / 2) ≤ v1.2 then (some v1.1) else ckI ((12 / 2) + v1.2) 12 (ckI (v1.2) 12 (nm (up v1.1 6 (Int32.toNatClampNeg v1.2) (v1.1 6 (Int32.toNatClampNeg ((12 / 2) + v1.2)))) fun u4 => K2 ((u4, v1.2 + 1))))) F ((σ, 0))
set_option maxRecDepth 20000 in
theorem wfX11_takeHalf_2 {X : XT} {D : va_G} {cI cT : ClassId} {ad : Nat → Nat} {F : Nat} {σ : St}  {σ' : St} (C : Cx X (gM D cI cT ad) cX11_takeHalf 2 RX11 0 0 0) (hr : RetV X (gM D cI cT ad) cX11_takeHalf 2 0 σ') (h : fX11_takeHalf_2 F σ = some σ') : WP X (gM D cI cT ad) 2 0 0 σ [(0, .ref (ad 6))] [] := by
  unfold fX11_takeHalf_2 at h
  refine w_iconst C 0 dX11_takeHalf_0 rfl (by decide) ?_
  refine w_istore_n C [(1, .int 0), (0, .ref (ad 6))] dX11_takeHalf_1 rfl (by decide) rfl ?_
  refine w_sub (lv' := [(1, .int 0), (0, .ref (ad 6))]) [0, 1] rfl ?_
  refine lp_w (fun v1 : St × Int32 => WP X (gM D cI cT ad) 2 0 2 v1.1 [(1, .int v1.2), (0, .ref (ad 6))] []) (fun K2 hK3 v1 h => ?_) F _ h
  refine w_iload_n C dX11_takeHalf_2 rfl 0 rfl ?_
  refine w_aload_n C dX11_takeHalf_3 rfl 1 rfl ?_
  refine w_alen C 6 12 0 12 (Nat.le_of_ble_eq_true rfl) (fun _ => rfl) rfl (by decide) dX11_takeHalf_4 rfl ?_
  refine w_iconst C 2 dX11_takeHalf_5 rfl (by decide) ?_
  refine w_idiv C (by decide) dX11_takeHalf_6 rfl ?_
  refine w_icmp_ge C (qt := 27) dX11_takeHalf_7 (by decide) rfl h (fun _ h => ?_) (fun _ h => ?_)
  · exact w_rv hr h (by decide) dX11_takeHalf_27
  · refine w_aload_n C dX11_takeHalf_10 rfl 1 rfl ?_
    refine w_iload_n C dX11_takeHalf_11 rfl 0 rfl ?_
    refine w_aload_n C dX11_takeHalf_12 rfl 1 rfl ?_
    refine w_aload_n C dX11_takeHalf_13 rfl 1 rfl ?_
    refine w_alen C 6 12 0 12 (Nat.le_of_ble_eq_true rfl) (fun _ => rfl) rfl (by decide) dX11_takeHalf_14 rfl ?_
    refine w_iconst C 2 dX11_takeHalf_15 rfl (by decide) ?_
    refine w_idiv C (by decide) dX11_takeHalf_16 rfl ?_
    refine w_iload_n C dX11_takeHalf_17 rfl 0 rfl ?_
    refine w_iadd C dX11_takeHalf_18 rfl ?_
    refine w_iald C 6 12 0 (Nat.le_of_ble_eq_true rfl) (fun _ => rfl) rfl h dX11_takeHalf_19 rfl (fun h => ?_)
    refine w_iast C 6 12 0 (Nat.le_of_ble_eq_true rfl) (fun _ => rfl) rfl h dX11_takeHalf_20 rfl (fun h => ?_)
    refine w_nst h (fun u4 h => ?_)
    refine w_iinc (j := 0) C (v1.2 + 1) [(1, .int (v1.2 + 1)), (0, .ref (ad 6))] dX11_takeHalf_21 rfl rfl rfl (by decide) rfl ?_
    refine w_goto (q := 2) C dX11_takeHalf_24 (by decide) ?_
    exact w_sub (lv' := [(1, .int (v1.2 + 1)), (0, .ref (ad 6))]) [0, 1] rfl (hK3 ((u4, v1.2 + 1)) h)
theorem cfX11_takeHalf_2 (D : va_G) (cI cT : ClassId) (ad : Nat → Nat) {l : Launch} (had : gAp (gM D cI cT ad)) {F : Nat} {σ : St}  {σ' : St} (h : fX11_takeHalf_2 F σ = some σ') : MV l yX11_takeHalf (wB yX11_takeHalf cX11_takeHalf 2 none) 0 0 (gM D cI cT ad) [.ref (ad 6)] σ σ' := mk_MV had (by decide +kernel) (Nat.le_of_ble_eq_true rfl) (fun X hX C hr => wfX11_takeHalf_2 C hr h)

def fX11_takeHalf_3 (F : Nat) (σ : St) : Option St := lp (fun (K2 : (St × Int32) → Option St) (v1 : St × Int32) => if (16 / 2) ≤ v1.2 then (some v1.1) else ckI ((16 / 2) + v1.2) 16 (ckI (v1.2) 16 (nm (up v1.1 7 (Int32.toNatClampNeg v1.2) (v1.1 7 (Int32.toNatClampNeg ((16 / 2) + v1.2)))) fun u4 => K2 ((u4, v1.2 + 1))))) F ((σ, 0))
set_option maxRecDepth 20000 in
theorem wfX11_takeHalf_3 {X : XT} {D : va_G} {cI cT : ClassId} {ad : Nat → Nat} {F : Nat} {σ : St}  {σ' : St} (C : Cx X (gM D cI cT ad) cX11_takeHalf 2 RX11 0 0 0) (hr : RetV X (gM D cI cT ad) cX11_takeHalf 2 0 σ') (h : fX11_takeHalf_3 F σ = some σ') : WP X (gM D cI cT ad) 2 0 0 σ [(0, .ref (ad 7))] [] := by
  unfold fX11_takeHalf_3 at h
  refine w_iconst C 0 dX11_takeHalf_0 rfl (by decide) ?_
  refine w_istore_n C [(1, .int 0), (0, .ref (ad 7))] dX11_takeHalf_1 rfl (by decide) rfl ?_
  refine w_sub (lv' := [(1, .int 0), (0, .ref (ad 7))]) [0, 1] rfl ?_
  refine lp_w (fun v1 : St × Int32 => WP X (gM D cI cT ad) 2 0 2 v1.1 [(1, .int v1.2), (0, .ref (ad 7))] []) (fun K2 hK3 v1 h => ?_) F _ h
  refine w_iload_n C dX11_takeHalf_2 rfl 0 rfl ?_
  refine w_aload_n C dX11_takeHalf_3 rfl 1 rfl ?_
  refine w_alen C 7 16 0 16 (Nat.le_of_ble_eq_true rfl) (fun _ => rfl) rfl (by decide) dX11_takeHalf_4 rfl ?_
  refine w_iconst C 2 dX11_takeHalf_5 rfl (by decide) ?_
  refine w_idiv C (by decide) dX11_takeHalf_6 rfl ?_
  refine w_icmp_ge C (qt := 27) dX11_takeHalf_7 (by decide) rfl h (fun _ h => ?_) (fun _ h => ?_)
  · exact w_rv hr h (by decide) dX11_takeHalf_27
  · refine w_aload_n C dX11_takeHalf_10 rfl 1 rfl ?_
    refine w_iload_n C dX11_takeHalf_11 rfl 0 rfl ?_
    refine w_aload_n C dX11_takeHalf_12 rfl 1 rfl ?_
    refine w_aload_n C dX11_takeHalf_13 rfl 1 rfl ?_
    refine w_alen C 7 16 0 16 (Nat.le_of_ble_eq_true rfl) (fun _ => rfl) rfl (by decide) dX11_takeHalf_14 rfl ?_
    refine w_iconst C 2 dX11_takeHalf_15 rfl (by decide) ?_
    refine w_idiv C (by decide) dX11_takeHalf_16 rfl ?_
    refine w_iload_n C dX11_takeHalf_17 rfl 0 rfl ?_
    refine w_iadd C dX11_takeHalf_18 rfl ?_
    refine w_iald C 7 16 0 (Nat.le_of_ble_eq_true rfl) (fun _ => rfl) rfl h dX11_takeHalf_19 rfl (fun h => ?_)
    refine w_iast C 7 16 0 (Nat.le_of_ble_eq_true rfl) (fun _ => rfl) rfl h dX11_takeHalf_20 rfl (fun h => ?_)
    refine w_nst h (fun u4 h => ?_)
    refine w_iinc (j := 0) C (v1.2 + 1) [(1, .int (v1.2 + 1)), (0, .ref (ad 7))] dX11_takeHalf_21 rfl rfl rfl (by decide) rfl ?_
    refine w_goto (q := 2) C dX11_takeHalf_24 (by decide) ?_
    exact w_sub (lv' := [(1, .int (v1.2 + 1)), (0, .ref (ad 7))]) [0, 1] rfl (hK3 ((u4, v1.2 + 1)) h)
theorem cfX11_takeHalf_3 (D : va_G) (cI cT : ClassId) (ad : Nat → Nat) {l : Launch} (had : gAp (gM D cI cT ad)) {F : Nat} {σ : St}  {σ' : St} (h : fX11_takeHalf_3 F σ = some σ') : MV l yX11_takeHalf (wB yX11_takeHalf cX11_takeHalf 2 none) 0 0 (gM D cI cT ad) [.ref (ad 7)] σ σ' := mk_MV had (by decide +kernel) (Nat.le_of_ble_eq_true rfl) (fun X hX C hr => wfX11_takeHalf_3 C hr h)

def fX11_takeHalf_4 (F : Nat) (σ : St) : Option St := lp (fun (K2 : (St × Int32) → Option St) (v1 : St × Int32) => if (16 / 2) ≤ v1.2 then (some v1.1) else ckI ((16 / 2) + v1.2) 16 (ckI (v1.2) 16 (nm (up v1.1 8 (Int32.toNatClampNeg v1.2) (v1.1 8 (Int32.toNatClampNeg ((16 / 2) + v1.2)))) fun u4 => K2 ((u4, v1.2 + 1))))) F ((σ, 0))
set_option maxRecDepth 20000 in
theorem wfX11_takeHalf_4 {X : XT} {D : va_G} {cI cT : ClassId} {ad : Nat → Nat} {F : Nat} {σ : St}  {σ' : St} (C : Cx X (gM D cI cT ad) cX11_takeHalf 2 RX11 0 0 0) (hr : RetV X (gM D cI cT ad) cX11_takeHalf 2 0 σ') (h : fX11_takeHalf_4 F σ = some σ') : WP X (gM D cI cT ad) 2 0 0 σ [(0, .ref (ad 8))] [] := by
  unfold fX11_takeHalf_4 at h
  refine w_iconst C 0 dX11_takeHalf_0 rfl (by decide) ?_
  refine w_istore_n C [(1, .int 0), (0, .ref (ad 8))] dX11_takeHalf_1 rfl (by decide) rfl ?_
  refine w_sub (lv' := [(1, .int 0), (0, .ref (ad 8))]) [0, 1] rfl ?_
  refine lp_w (fun v1 : St × Int32 => WP X (gM D cI cT ad) 2 0 2 v1.1 [(1, .int v1.2), (0, .ref (ad 8))] []) (fun K2 hK3 v1 h => ?_) F _ h
  refine w_iload_n C dX11_takeHalf_2 rfl 0 rfl ?_
  refine w_aload_n C dX11_takeHalf_3 rfl 1 rfl ?_
  refine w_alen C 8 16 0 16 (Nat.le_of_ble_eq_true rfl) (fun _ => rfl) rfl (by decide) dX11_takeHalf_4 rfl ?_
  refine w_iconst C 2 dX11_takeHalf_5 rfl (by decide) ?_
  refine w_idiv C (by decide) dX11_takeHalf_6 rfl ?_
  refine w_icmp_ge C (qt := 27) dX11_takeHalf_7 (by decide) rfl h (fun _ h => ?_) (fun _ h => ?_)
  · exact w_rv hr h (by decide) dX11_takeHalf_27
  · refine w_aload_n C dX11_takeHalf_10 rfl 1 rfl ?_
    refine w_iload_n C dX11_takeHalf_11 rfl 0 rfl ?_
    refine w_aload_n C dX11_takeHalf_12 rfl 1 rfl ?_
    refine w_aload_n C dX11_takeHalf_13 rfl 1 rfl ?_
    refine w_alen C 8 16 0 16 (Nat.le_of_ble_eq_true rfl) (fun _ => rfl) rfl (by decide) dX11_takeHalf_14 rfl ?_
    refine w_iconst C 2 dX11_takeHalf_15 rfl (by decide) ?_
    refine w_idiv C (by decide) dX11_takeHalf_16 rfl ?_
    refine w_iload_n C dX11_takeHalf_17 rfl 0 rfl ?_
    refine w_iadd C dX11_takeHalf_18 rfl ?_
    refine w_iald C 8 16 0 (Nat.le_of_ble_eq_true rfl) (fun _ => rfl) rfl h dX11_takeHalf_19 rfl (fun h => ?_)
    refine w_iast C 8 16 0 (Nat.le_of_ble_eq_true rfl) (fun _ => rfl) rfl h dX11_takeHalf_20 rfl (fun h => ?_)
    refine w_nst h (fun u4 h => ?_)
    refine w_iinc (j := 0) C (v1.2 + 1) [(1, .int (v1.2 + 1)), (0, .ref (ad 8))] dX11_takeHalf_21 rfl rfl rfl (by decide) rfl ?_
    refine w_goto (q := 2) C dX11_takeHalf_24 (by decide) ?_
    exact w_sub (lv' := [(1, .int (v1.2 + 1)), (0, .ref (ad 8))]) [0, 1] rfl (hK3 ((u4, v1.2 + 1)) h)
theorem cfX11_takeHalf_4 (D : va_G) (cI cT : ClassId) (ad : Nat → Nat) {l : Launch} (had : gAp (gM D cI cT ad)) {F : Nat} {σ : St}  {σ' : St} (h : fX11_takeHalf_4 F σ = some σ') : MV l yX11_takeHalf (wB yX11_takeHalf cX11_takeHalf 2 none) 0 0 (gM D cI cT ad) [.ref (ad 8)] σ σ' := mk_MV had (by decide +kernel) (Nat.le_of_ble_eq_true rfl) (fun X hX C hr => wfX11_takeHalf_4 C hr h)

def fX11_takeHalf_5 (F : Nat) (σ : St) : Option St := lp (fun (K2 : (St × Int32) → Option St) (v1 : St × Int32) => if (16 / 2) ≤ v1.2 then (some v1.1) else ckI ((16 / 2) + v1.2) 16 (ckI (v1.2) 16 (nm (up v1.1 9 (Int32.toNatClampNeg v1.2) (v1.1 9 (Int32.toNatClampNeg ((16 / 2) + v1.2)))) fun u4 => K2 ((u4, v1.2 + 1))))) F ((σ, 0))
set_option maxRecDepth 20000 in
theorem wfX11_takeHalf_5 {X : XT} {D : va_G} {cI cT : ClassId} {ad : Nat → Nat} {F : Nat} {σ : St}  {σ' : St} (C : Cx X (gM D cI cT ad) cX11_takeHalf 2 RX11 0 0 0) (hr : RetV X (gM D cI cT ad) cX11_takeHalf 2 0 σ') (h : fX11_takeHalf_5 F σ = some σ') : WP X (gM D cI cT ad) 2 0 0 σ [(0, .ref (ad 9))] [] := by
  unfold fX11_takeHalf_5 at h
  refine w_iconst C 0 dX11_takeHalf_0 rfl (by decide) ?_
  refine w_istore_n C [(1, .int 0), (0, .ref (ad 9))] dX11_takeHalf_1 rfl (by decide) rfl ?_
  refine w_sub (lv' := [(1, .int 0), (0, .ref (ad 9))]) [0, 1] rfl ?_
  refine lp_w (fun v1 : St × Int32 => WP X (gM D cI cT ad) 2 0 2 v1.1 [(1, .int v1.2), (0, .ref (ad 9))] []) (fun K2 hK3 v1 h => ?_) F _ h
  refine w_iload_n C dX11_takeHalf_2 rfl 0 rfl ?_
  refine w_aload_n C dX11_takeHalf_3 rfl 1 rfl ?_
  refine w_alen C 9 16 0 16 (Nat.le_of_ble_eq_true rfl) (fun _ => rfl) rfl (by decide) dX11_takeHalf_4 rfl ?_
  refine w_iconst C 2 dX11_takeHalf_5 rfl (by decide) ?_
  refine w_idiv C (by decide) dX11_takeHalf_6 rfl ?_
  refine w_icmp_ge C (qt := 27) dX11_takeHalf_7 (by decide) rfl h (fun _ h => ?_) (fun _ h => ?_)
  · exact w_rv hr h (by decide) dX11_takeHalf_27
  · refine w_aload_n C dX11_takeHalf_10 rfl 1 rfl ?_
    refine w_iload_n C dX11_takeHalf_11 rfl 0 rfl ?_
    refine w_aload_n C dX11_takeHalf_12 rfl 1 rfl ?_
    refine w_aload_n C dX11_takeHalf_13 rfl 1 rfl ?_
    refine w_alen C 9 16 0 16 (Nat.le_of_ble_eq_true rfl) (fun _ => rfl) rfl (by decide) dX11_takeHalf_14 rfl ?_
    refine w_iconst C 2 dX11_takeHalf_15 rfl (by decide) ?_
    refine w_idiv C (by decide) dX11_takeHalf_16 rfl ?_
    refine w_iload_n C dX11_takeHalf_17 rfl 0 rfl ?_
    refine w_iadd C dX11_takeHalf_18 rfl ?_
    refine w_iald C 9 16 0 (Nat.le_of_ble_eq_true rfl) (fun _ => rfl) rfl h dX11_takeHalf_19 rfl (fun h => ?_)
    refine w_iast C 9 16 0 (Nat.le_of_ble_eq_true rfl) (fun _ => rfl) rfl h dX11_takeHalf_20 rfl (fun h => ?_)
    refine w_nst h (fun u4 h => ?_)
    refine w_iinc (j := 0) C (v1.2 + 1) [(1, .int (v1.2 + 1)), (0, .ref (ad 9))] dX11_takeHalf_21 rfl rfl rfl (by decide) rfl ?_
    refine w_goto (q := 2) C dX11_takeHalf_24 (by decide) ?_
    exact w_sub (lv' := [(1, .int (v1.2 + 1)), (0, .ref (ad 9))]) [0, 1] rfl (hK3 ((u4, v1.2 + 1)) h)
theorem cfX11_takeHalf_5 (D : va_G) (cI cT : ClassId) (ad : Nat → Nat) {l : Launch} (had : gAp (gM D cI cT ad)) {F : Nat} {σ : St}  {σ' : St} (h : fX11_takeHalf_5 F σ = some σ') : MV l yX11_takeHalf (wB yX11_takeHalf cX11_takeHalf 2 none) 0 0 (gM D cI cT ad) [.ref (ad 9)] σ σ' := mk_MV had (by decide +kernel) (Nat.le_of_ble_eq_true rfl) (fun X hX C hr => wfX11_takeHalf_5 C hr h)

def fX11_takeHalf_6 (F : Nat) (σ : St) : Option St := lp (fun (K2 : (St × Int32) → Option St) (v1 : St × Int32) => if (16 / 2) ≤ v1.2 then (some v1.1) else ckI ((16 / 2) + v1.2) 16 (ckI (v1.2) 16 (nm (up v1.1 10 (Int32.toNatClampNeg v1.2) (v1.1 10 (Int32.toNatClampNeg ((16 / 2) + v1.2)))) fun u4 => K2 ((u4, v1.2 + 1))))) F ((σ, 0))
set_option maxRecDepth 20000 in
theorem wfX11_takeHalf_6 {X : XT} {D : va_G} {cI cT : ClassId} {ad : Nat → Nat} {F : Nat} {σ : St}  {σ' : St} (C : Cx X (gM D cI cT ad) cX11_takeHalf 2 RX11 0 0 0) (hr : RetV X (gM D cI cT ad) cX11_takeHalf 2 0 σ') (h : fX11_takeHalf_6 F σ = some σ') : WP X (gM D cI cT ad) 2 0 0 σ [(0, .ref (ad 10))] [] := by
  unfold fX11_takeHalf_6 at h
  refine w_iconst C 0 dX11_takeHalf_0 rfl (by decide) ?_
  refine w_istore_n C [(1, .int 0), (0, .ref (ad 10))] dX11_takeHalf_1 rfl (by decide) rfl ?_
  refine w_sub (lv' := [(1, .int 0), (0, .ref (ad 10))]) [0, 1] rfl ?_
  refine lp_w (fun v1 : St × Int32 => WP X (gM D cI cT ad) 2 0 2 v1.1 [(1, .int v1.2), (0, .ref (ad 10))] []) (fun K2 hK3 v1 h => ?_) F _ h
  refine w_iload_n C dX11_takeHalf_2 rfl 0 rfl ?_
  refine w_aload_n C dX11_takeHalf_3 rfl 1 rfl ?_
  refine w_alen C 10 16 0 16 (Nat.le_of_ble_eq_true rfl) (fun _ => rfl) rfl (by decide) dX11_takeHalf_4 rfl ?_
  refine w_iconst C 2 dX11_takeHalf_5 rfl (by decide) ?_
  refine w_idiv C (by decide) dX11_takeHalf_6 rfl ?_
  refine w_icmp_ge C (qt := 27) dX11_takeHalf_7 (by decide) rfl h (fun _ h => ?_) (fun _ h => ?_)
  · exact w_rv hr h (by decide) dX11_takeHalf_27
  · refine w_aload_n C dX11_takeHalf_10 rfl 1 rfl ?_
    refine w_iload_n C dX11_takeHalf_11 rfl 0 rfl ?_
    refine w_aload_n C dX11_takeHalf_12 rfl 1 rfl ?_
    refine w_aload_n C dX11_takeHalf_13 rfl 1 rfl ?_
    refine w_alen C 10 16 0 16 (Nat.le_of_ble_eq_true rfl) (fun _ => rfl) rfl (by decide) dX11_takeHalf_14 rfl ?_
    refine w_iconst C 2 dX11_takeHalf_15 rfl (by decide) ?_
    refine w_idiv C (by decide) dX11_takeHalf_16 rfl ?_
    refine w_iload_n C dX11_takeHalf_17 rfl 0 rfl ?_
    refine w_iadd C dX11_takeHalf_18 rfl ?_
    refine w_iald C 10 16 0 (Nat.le_of_ble_eq_true rfl) (fun _ => rfl) rfl h dX11_takeHalf_19 rfl (fun h => ?_)
    refine w_iast C 10 16 0 (Nat.le_of_ble_eq_true rfl) (fun _ => rfl) rfl h dX11_takeHalf_20 rfl (fun h => ?_)
    refine w_nst h (fun u4 h => ?_)
    refine w_iinc (j := 0) C (v1.2 + 1) [(1, .int (v1.2 + 1)), (0, .ref (ad 10))] dX11_takeHalf_21 rfl rfl rfl (by decide) rfl ?_
    refine w_goto (q := 2) C dX11_takeHalf_24 (by decide) ?_
    exact w_sub (lv' := [(1, .int (v1.2 + 1)), (0, .ref (ad 10))]) [0, 1] rfl (hK3 ((u4, v1.2 + 1)) h)
theorem cfX11_takeHalf_6 (D : va_G) (cI cT : ClassId) (ad : Nat → Nat) {l : Launch} (had : gAp (gM D cI cT ad)) {F : Nat} {σ : St}  {σ' : St} (h : fX11_takeHalf_6 F σ = some σ') : MV l yX11_takeHalf (wB yX11_takeHalf cX11_takeHalf 2 none) 0 0 (gM D cI cT ad) [.ref (ad 10)] σ σ' := mk_MV had (by decide +kernel) (Nat.le_of_ble_eq_true rfl) (fun X hX C hr => wfX11_takeHalf_6 C hr h)

def fX11_takeHalf_7 (F : Nat) (σ : St) : Option St := lp (fun (K2 : (St × Int32) → Option St) (v1 : St × Int32) => if (160 / 2) ≤ v1.2 then (some v1.1) else ckI ((160 / 2) + v1.2) 160 (ckI (v1.2) 160 (nm (up v1.1 11 (Int32.toNatClampNeg v1.2) (v1.1 11 (Int32.toNatClampNeg ((160 / 2) + v1.2)))) fun u4 => K2 ((u4, v1.2 + 1))))) F ((σ, 0))
set_option maxRecDepth 20000 in
theorem wfX11_takeHalf_7 {X : XT} {D : va_G} {cI cT : ClassId} {ad : Nat → Nat} {F : Nat} {σ : St}  {σ' : St} (C : Cx X (gM D cI cT ad) cX11_takeHalf 2 RX11 0 0 0) (hr : RetV X (gM D cI cT ad) cX11_takeHalf 2 0 σ') (h : fX11_takeHalf_7 F σ = some σ') : WP X (gM D cI cT ad) 2 0 0 σ [(0, .ref (ad 11))] [] := by
  unfold fX11_takeHalf_7 at h
  refine w_iconst C 0 dX11_takeHalf_0 rfl (by decide) ?_
  refine w_istore_n C [(1, .int 0), (0, .ref (ad 11))] dX11_takeHalf_1 rfl (by decide) rfl ?_
  refine w_sub (lv' := [(1, .int 0), (0, .ref (ad 11))]) [0, 1] rfl ?_
  refine lp_w (fun v1 : St × Int32 => WP X (gM D cI cT ad) 2 0 2 v1.1 [(1, .int v1.2), (0, .ref (ad 11))] []) (fun K2 hK3 v1 h => ?_) F _ h
  refine w_iload_n C dX11_takeHalf_2 rfl 0 rfl ?_
  refine w_aload_n C dX11_takeHalf_3 rfl 1 rfl ?_
  refine w_alen C 11 160 0 160 (Nat.le_of_ble_eq_true rfl) (fun _ => rfl) rfl (by decide) dX11_takeHalf_4 rfl ?_
  refine w_iconst C 2 dX11_takeHalf_5 rfl (by decide) ?_
  refine w_idiv C (by decide) dX11_takeHalf_6 rfl ?_
  refine w_icmp_ge C (qt := 27) dX11_takeHalf_7 (by decide) rfl h (fun _ h => ?_) (fun _ h => ?_)
  · exact w_rv hr h (by decide) dX11_takeHalf_27
  · refine w_aload_n C dX11_takeHalf_10 rfl 1 rfl ?_
    refine w_iload_n C dX11_takeHalf_11 rfl 0 rfl ?_
    refine w_aload_n C dX11_takeHalf_12 rfl 1 rfl ?_
    refine w_aload_n C dX11_takeHalf_13 rfl 1 rfl ?_
    refine w_alen C 11 160 0 160 (Nat.le_of_ble_eq_true rfl) (fun _ => rfl) rfl (by decide) dX11_takeHalf_14 rfl ?_
    refine w_iconst C 2 dX11_takeHalf_15 rfl (by decide) ?_
    refine w_idiv C (by decide) dX11_takeHalf_16 rfl ?_
    refine w_iload_n C dX11_takeHalf_17 rfl 0 rfl ?_
    refine w_iadd C dX11_takeHalf_18 rfl ?_
    refine w_iald C 11 160 0 (Nat.le_of_ble_eq_true rfl) (fun _ => rfl) rfl h dX11_takeHalf_19 rfl (fun h => ?_)
    refine w_iast C 11 160 0 (Nat.le_of_ble_eq_true rfl) (fun _ => rfl) rfl h dX11_takeHalf_20 rfl (fun h => ?_)
    refine w_nst h (fun u4 h => ?_)
    refine w_iinc (j := 0) C (v1.2 + 1) [(1, .int (v1.2 + 1)), (0, .ref (ad 11))] dX11_takeHalf_21 rfl rfl rfl (by decide) rfl ?_
    refine w_goto (q := 2) C dX11_takeHalf_24 (by decide) ?_
    exact w_sub (lv' := [(1, .int (v1.2 + 1)), (0, .ref (ad 11))]) [0, 1] rfl (hK3 ((u4, v1.2 + 1)) h)
theorem cfX11_takeHalf_7 (D : va_G) (cI cT : ClassId) (ad : Nat → Nat) {l : Launch} (had : gAp (gM D cI cT ad)) {F : Nat} {σ : St}  {σ' : St} (h : fX11_takeHalf_7 F σ = some σ') : MV l yX11_takeHalf (wB yX11_takeHalf cX11_takeHalf 2 none) 0 0 (gM D cI cT ad) [.ref (ad 11)] σ σ' := mk_MV had (by decide +kernel) (Nat.le_of_ble_eq_true rfl) (fun X hX C hr => wfX11_takeHalf_7 C hr h)

def fX11_takeHalf_8 (F : Nat) (σ : St) : Option St := lp (fun (K2 : (St × Int32) → Option St) (v1 : St × Int32) => if (160 / 2) ≤ v1.2 then (some v1.1) else ckI ((160 / 2) + v1.2) 160 (ckI (v1.2) 160 (nm (up v1.1 12 (Int32.toNatClampNeg v1.2) (v1.1 12 (Int32.toNatClampNeg ((160 / 2) + v1.2)))) fun u4 => K2 ((u4, v1.2 + 1))))) F ((σ, 0))
set_option maxRecDepth 20000 in
theorem wfX11_takeHalf_8 {X : XT} {D : va_G} {cI cT : ClassId} {ad : Nat → Nat} {F : Nat} {σ : St}  {σ' : St} (C : Cx X (gM D cI cT ad) cX11_takeHalf 2 RX11 0 0 0) (hr : RetV X (gM D cI cT ad) cX11_takeHalf 2 0 σ') (h : fX11_takeHalf_8 F σ = some σ') : WP X (gM D cI cT ad) 2 0 0 σ [(0, .ref (ad 12))] [] := by
  unfold fX11_takeHalf_8 at h
  refine w_iconst C 0 dX11_takeHalf_0 rfl (by decide) ?_
  refine w_istore_n C [(1, .int 0), (0, .ref (ad 12))] dX11_takeHalf_1 rfl (by decide) rfl ?_
  refine w_sub (lv' := [(1, .int 0), (0, .ref (ad 12))]) [0, 1] rfl ?_
  refine lp_w (fun v1 : St × Int32 => WP X (gM D cI cT ad) 2 0 2 v1.1 [(1, .int v1.2), (0, .ref (ad 12))] []) (fun K2 hK3 v1 h => ?_) F _ h
  refine w_iload_n C dX11_takeHalf_2 rfl 0 rfl ?_
  refine w_aload_n C dX11_takeHalf_3 rfl 1 rfl ?_
  refine w_alen C 12 160 0 160 (Nat.le_of_ble_eq_true rfl) (fun _ => rfl) rfl (by decide) dX11_takeHalf_4 rfl ?_
  refine w_iconst C 2 dX11_takeHalf_5 rfl (by decide) ?_
  refine w_idiv C (by decide) dX11_takeHalf_6 rfl ?_
  refine w_icmp_ge C (qt := 27) dX11_takeHalf_7 (by decide) rfl h (fun _ h => ?_) (fun _ h => ?_)
  · exact w_rv hr h (by decide) dX11_takeHalf_27
  · refine w_aload_n C dX11_takeHalf_10 rfl 1 rfl ?_
    refine w_iload_n C dX11_takeHalf_11 rfl 0 rfl ?_
    refine w_aload_n C dX11_takeHalf_12 rfl 1 rfl ?_
    refine w_aload_n C dX11_takeHalf_13 rfl 1 rfl ?_
    refine w_alen C 12 160 0 160 (Nat.le_of_ble_eq_true rfl) (fun _ => rfl) rfl (by decide) dX11_takeHalf_14 rfl ?_
    refine w_iconst C 2 dX11_takeHalf_15 rfl (by decide) ?_
    refine w_idiv C (by decide) dX11_takeHalf_16 rfl ?_
    refine w_iload_n C dX11_takeHalf_17 rfl 0 rfl ?_
    refine w_iadd C dX11_takeHalf_18 rfl ?_
    refine w_iald C 12 160 0 (Nat.le_of_ble_eq_true rfl) (fun _ => rfl) rfl h dX11_takeHalf_19 rfl (fun h => ?_)
    refine w_iast C 12 160 0 (Nat.le_of_ble_eq_true rfl) (fun _ => rfl) rfl h dX11_takeHalf_20 rfl (fun h => ?_)
    refine w_nst h (fun u4 h => ?_)
    refine w_iinc (j := 0) C (v1.2 + 1) [(1, .int (v1.2 + 1)), (0, .ref (ad 12))] dX11_takeHalf_21 rfl rfl rfl (by decide) rfl ?_
    refine w_goto (q := 2) C dX11_takeHalf_24 (by decide) ?_
    exact w_sub (lv' := [(1, .int (v1.2 + 1)), (0, .ref (ad 12))]) [0, 1] rfl (hK3 ((u4, v1.2 + 1)) h)
theorem cfX11_takeHalf_8 (D : va_G) (cI cT : ClassId) (ad : Nat → Nat) {l : Launch} (had : gAp (gM D cI cT ad)) {F : Nat} {σ : St}  {σ' : St} (h : fX11_takeHalf_8 F σ = some σ') : MV l yX11_takeHalf (wB yX11_takeHalf cX11_takeHalf 2 none) 0 0 (gM D cI cT ad) [.ref (ad 12)] σ σ' := mk_MV had (by decide +kernel) (Nat.le_of_ble_eq_true rfl) (fun X hX C hr => wfX11_takeHalf_8 C hr h)

def fX11_takeHalf_9 (F : Nat) (σ : St) : Option St := lp (fun (K2 : (St × Int32) → Option St) (v1 : St × Int32) => if (160 / 2) ≤ v1.2 then (some v1.1) else ckI ((160 / 2) + v1.2) 160 (ckI (v1.2) 160 (nm (up v1.1 13 (Int32.toNatClampNeg v1.2) (v1.1 13 (Int32.toNatClampNeg ((160 / 2) + v1.2)))) fun u4 => K2 ((u4, v1.2 + 1))))) F ((σ, 0))
set_option maxRecDepth 20000 in
theorem wfX11_takeHalf_9 {X : XT} {D : va_G} {cI cT : ClassId} {ad : Nat → Nat} {F : Nat} {σ : St}  {σ' : St} (C : Cx X (gM D cI cT ad) cX11_takeHalf 2 RX11 0 0 0) (hr : RetV X (gM D cI cT ad) cX11_takeHalf 2 0 σ') (h : fX11_takeHalf_9 F σ = some σ') : WP X (gM D cI cT ad) 2 0 0 σ [(0, .ref (ad 13))] [] := by
  unfold fX11_takeHalf_9 at h
  refine w_iconst C 0 dX11_takeHalf_0 rfl (by decide) ?_
  refine w_istore_n C [(1, .int 0), (0, .ref (ad 13))] dX11_takeHalf_1 rfl (by decide) rfl ?_
  refine w_sub (lv' := [(1, .int 0), (0, .ref (ad 13))]) [0, 1] rfl ?_
  refine lp_w (fun v1 : St × Int32 => WP X (gM D cI cT ad) 2 0 2 v1.1 [(1, .int v1.2), (0, .ref (ad 13))] []) (fun K2 hK3 v1 h => ?_) F _ h
  refine w_iload_n C dX11_takeHalf_2 rfl 0 rfl ?_
  refine w_aload_n C dX11_takeHalf_3 rfl 1 rfl ?_
  refine w_alen C 13 160 0 160 (Nat.le_of_ble_eq_true rfl) (fun _ => rfl) rfl (by decide) dX11_takeHalf_4 rfl ?_
  refine w_iconst C 2 dX11_takeHalf_5 rfl (by decide) ?_
  refine w_idiv C (by decide) dX11_takeHalf_6 rfl ?_
  refine w_icmp_ge C (qt := 27) dX11_takeHalf_7 (by decide) rfl h (fun _ h => ?_) (fun _ h => ?_)
  · exact w_rv hr h (by decide) dX11_takeHalf_27
  · refine w_aload_n C dX11_takeHalf_10 rfl 1 rfl ?_
    refine w_iload_n C dX11_takeHalf_11 rfl 0 rfl ?_
    refine w_aload_n C dX11_takeHalf_12 rfl 1 rfl ?_
    refine w_aload_n C dX11_takeHalf_13 rfl 1 rfl ?_
    refine w_alen C 13 160 0 160 (Nat.le_of_ble_eq_true rfl) (fun _ => rfl) rfl (by decide) dX11_takeHalf_14 rfl ?_
    refine w_iconst C 2 dX11_takeHalf_15 rfl (by decide) ?_
    refine w_idiv C (by decide) dX11_takeHalf_16 rfl ?_
    refine w_iload_n C dX11_takeHalf_17 rfl 0 rfl ?_
    refine w_iadd C dX11_takeHalf_18 rfl ?_
    refine w_iald C 13 160 0 (Nat.le_of_ble_eq_true rfl) (fun _ => rfl) rfl h dX11_takeHalf_19 rfl (fun h => ?_)
    refine w_iast C 13 160 0 (Nat.le_of_ble_eq_true rfl) (fun _ => rfl) rfl h dX11_takeHalf_20 rfl (fun h => ?_)
    refine w_nst h (fun u4 h => ?_)
    refine w_iinc (j := 0) C (v1.2 + 1) [(1, .int (v1.2 + 1)), (0, .ref (ad 13))] dX11_takeHalf_21 rfl rfl rfl (by decide) rfl ?_
    refine w_goto (q := 2) C dX11_takeHalf_24 (by decide) ?_
    exact w_sub (lv' := [(1, .int (v1.2 + 1)), (0, .ref (ad 13))]) [0, 1] rfl (hK3 ((u4, v1.2 + 1)) h)
theorem cfX11_takeHalf_9 (D : va_G) (cI cT : ClassId) (ad : Nat → Nat) {l : Launch} (had : gAp (gM D cI cT ad)) {F : Nat} {σ : St}  {σ' : St} (h : fX11_takeHalf_9 F σ = some σ') : MV l yX11_takeHalf (wB yX11_takeHalf cX11_takeHalf 2 none) 0 0 (gM D cI cT ad) [.ref (ad 13)] σ σ' := mk_MV had (by decide +kernel) (Nat.le_of_ble_eq_true rfl) (fun X hX C hr => wfX11_takeHalf_9 C hr h)

def fX11_takeHalf_10 (F : Nat) (σ : St) : Option St := lp (fun (K2 : (St × Int32) → Option St) (v1 : St × Int32) => if (160 / 2) ≤ v1.2 then (some v1.1) else ckI ((160 / 2) + v1.2) 160 (ckI (v1.2) 160 (nm (up v1.1 14 (Int32.toNatClampNeg v1.2) (v1.1 14 (Int32.toNatClampNeg ((160 / 2) + v1.2)))) fun u4 => K2 ((u4, v1.2 + 1))))) F ((σ, 0))
set_option maxRecDepth 20000 in
theorem wfX11_takeHalf_10 {X : XT} {D : va_G} {cI cT : ClassId} {ad : Nat → Nat} {F : Nat} {σ : St}  {σ' : St} (C : Cx X (gM D cI cT ad) cX11_takeHalf 2 RX11 0 0 0) (hr : RetV X (gM D cI cT ad) cX11_takeHalf 2 0 σ') (h : fX11_takeHalf_10 F σ = some σ') : WP X (gM D cI cT ad) 2 0 0 σ [(0, .ref (ad 14))] [] := by
  unfold fX11_takeHalf_10 at h
  refine w_iconst C 0 dX11_takeHalf_0 rfl (by decide) ?_
  refine w_istore_n C [(1, .int 0), (0, .ref (ad 14))] dX11_takeHalf_1 rfl (by decide) rfl ?_
  refine w_sub (lv' := [(1, .int 0), (0, .ref (ad 14))]) [0, 1] rfl ?_
  refine lp_w (fun v1 : St × Int32 => WP X (gM D cI cT ad) 2 0 2 v1.1 [(1, .int v1.2), (0, .ref (ad 14))] []) (fun K2 hK3 v1 h => ?_) F _ h
  refine w_iload_n C dX11_takeHalf_2 rfl 0 rfl ?_
  refine w_aload_n C dX11_takeHalf_3 rfl 1 rfl ?_
  refine w_alen C 14 160 0 160 (Nat.le_of_ble_eq_true rfl) (fun _ => rfl) rfl (by decide) dX11_takeHalf_4 rfl ?_
  refine w_iconst C 2 dX11_takeHalf_5 rfl (by decide) ?_
  refine w_idiv C (by decide) dX11_takeHalf_6 rfl ?_
  refine w_icmp_ge C (qt := 27) dX11_takeHalf_7 (by decide) rfl h (fun _ h => ?_) (fun _ h => ?_)
  · exact w_rv hr h (by decide) dX11_takeHalf_27
  · refine w_aload_n C dX11_takeHalf_10 rfl 1 rfl ?_
    refine w_iload_n C dX11_takeHalf_11 rfl 0 rfl ?_
    refine w_aload_n C dX11_takeHalf_12 rfl 1 rfl ?_
    refine w_aload_n C dX11_takeHalf_13 rfl 1 rfl ?_
    refine w_alen C 14 160 0 160 (Nat.le_of_ble_eq_true rfl) (fun _ => rfl) rfl (by decide) dX11_takeHalf_14 rfl ?_
    refine w_iconst C 2 dX11_takeHalf_15 rfl (by decide) ?_
    refine w_idiv C (by decide) dX11_takeHalf_16 rfl ?_
    refine w_iload_n C dX11_takeHalf_17 rfl 0 rfl ?_
    refine w_iadd C dX11_takeHalf_18 rfl ?_
    refine w_iald C 14 160 0 (Nat.le_of_ble_eq_true rfl) (fun _ => rfl) rfl h dX11_takeHalf_19 rfl (fun h => ?_)
    refine w_iast C 14 160 0 (Nat.le_of_ble_eq_true rfl) (fun _ => rfl) rfl h dX11_takeHalf_20 rfl (fun h => ?_)
    refine w_nst h (fun u4 h => ?_)
    refine w_iinc (j := 0) C (v1.2 + 1) [(1, .int (v1.2 + 1)), (0, .ref (ad 14))] dX11_takeHalf_21 rfl rfl rfl (by decide) rfl ?_
    refine w_goto (q := 2) C dX11_takeHalf_24 (by decide) ?_
    exact w_sub (lv' := [(1, .int (v1.2 + 1)), (0, .ref (ad 14))]) [0, 1] rfl (hK3 ((u4, v1.2 + 1)) h)
theorem cfX11_takeHalf_10 (D : va_G) (cI cT : ClassId) (ad : Nat → Nat) {l : Launch} (had : gAp (gM D cI cT ad)) {F : Nat} {σ : St}  {σ' : St} (h : fX11_takeHalf_10 F σ = some σ') : MV l yX11_takeHalf (wB yX11_takeHalf cX11_takeHalf 2 none) 0 0 (gM D cI cT ad) [.ref (ad 14)] σ σ' := mk_MV had (by decide +kernel) (Nat.le_of_ble_eq_true rfl) (fun X hX C hr => wfX11_takeHalf_10 C hr h)

def fX11_takeHalf_11 (F : Nat) (σ : St) : Option St := lp (fun (K2 : (St × Int32) → Option St) (v1 : St × Int32) => if (1400 / 2) ≤ v1.2 then (some v1.1) else ckI ((1400 / 2) + v1.2) 1400 (ckI (v1.2) 1400 (nm (up v1.1 15 (Int32.toNatClampNeg v1.2) (v1.1 15 (Int32.toNatClampNeg ((1400 / 2) + v1.2)))) fun u4 => K2 ((u4, v1.2 + 1))))) F ((σ, 0))
set_option maxRecDepth 20000 in
theorem wfX11_takeHalf_11 {X : XT} {D : va_G} {cI cT : ClassId} {ad : Nat → Nat} {F : Nat} {σ : St}  {σ' : St} (C : Cx X (gM D cI cT ad) cX11_takeHalf 2 RX11 0 0 0) (hr : RetV X (gM D cI cT ad) cX11_takeHalf 2 0 σ') (h : fX11_takeHalf_11 F σ = some σ') : WP X (gM D cI cT ad) 2 0 0 σ [(0, .ref (ad 15))] [] := by
  unfold fX11_takeHalf_11 at h
  refine w_iconst C 0 dX11_takeHalf_0 rfl (by decide) ?_
  refine w_istore_n C [(1, .int 0), (0, .ref (ad 15))] dX11_takeHalf_1 rfl (by decide) rfl ?_
  refine w_sub (lv' := [(1, .int 0), (0, .ref (ad 15))]) [0, 1] rfl ?_
  refine lp_w (fun v1 : St × Int32 => WP X (gM D cI cT ad) 2 0 2 v1.1 [(1, .int v1.2), (0, .ref (ad 15))] []) (fun K2 hK3 v1 h => ?_) F _ h
  refine w_iload_n C dX11_takeHalf_2 rfl 0 rfl ?_
  refine w_aload_n C dX11_takeHalf_3 rfl 1 rfl ?_
  refine w_alen C 15 1400 0 1400 (Nat.le_of_ble_eq_true rfl) (fun _ => rfl) rfl (by decide) dX11_takeHalf_4 rfl ?_
  refine w_iconst C 2 dX11_takeHalf_5 rfl (by decide) ?_
  refine w_idiv C (by decide) dX11_takeHalf_6 rfl ?_
  refine w_icmp_ge C (qt := 27) dX11_takeHalf_7 (by decide) rfl h (fun _ h => ?_) (fun _ h => ?_)
  · exact w_rv hr h (by decide) dX11_takeHalf_27
  · refine w_aload_n C dX11_takeHalf_10 rfl 1 rfl ?_
    refine w_iload_n C dX11_takeHalf_11 rfl 0 rfl ?_
    refine w_aload_n C dX11_takeHalf_12 rfl 1 rfl ?_
    refine w_aload_n C dX11_takeHalf_13 rfl 1 rfl ?_
    refine w_alen C 15 1400 0 1400 (Nat.le_of_ble_eq_true rfl) (fun _ => rfl) rfl (by decide) dX11_takeHalf_14 rfl ?_
    refine w_iconst C 2 dX11_takeHalf_15 rfl (by decide) ?_
    refine w_idiv C (by decide) dX11_takeHalf_16 rfl ?_
    refine w_iload_n C dX11_takeHalf_17 rfl 0 rfl ?_
    refine w_iadd C dX11_takeHalf_18 rfl ?_
    refine w_iald C 15 1400 0 (Nat.le_of_ble_eq_true rfl) (fun _ => rfl) rfl h dX11_takeHalf_19 rfl (fun h => ?_)
    refine w_iast C 15 1400 0 (Nat.le_of_ble_eq_true rfl) (fun _ => rfl) rfl h dX11_takeHalf_20 rfl (fun h => ?_)
    refine w_nst h (fun u4 h => ?_)
    refine w_iinc (j := 0) C (v1.2 + 1) [(1, .int (v1.2 + 1)), (0, .ref (ad 15))] dX11_takeHalf_21 rfl rfl rfl (by decide) rfl ?_
    refine w_goto (q := 2) C dX11_takeHalf_24 (by decide) ?_
    exact w_sub (lv' := [(1, .int (v1.2 + 1)), (0, .ref (ad 15))]) [0, 1] rfl (hK3 ((u4, v1.2 + 1)) h)
theorem cfX11_takeHalf_11 (D : va_G) (cI cT : ClassId) (ad : Nat → Nat) {l : Launch} (had : gAp (gM D cI cT ad)) {F : Nat} {σ : St}  {σ' : St} (h : fX11_takeHalf_11 F σ = some σ') : MV l yX11_takeHalf (wB yX11_takeHalf cX11_takeHalf 2 none) 0 0 (gM D cI cT ad) [.ref (ad 15)] σ σ' := mk_MV had (by decide +kernel) (Nat.le_of_ble_eq_true rfl) (fun X hX C hr => wfX11_takeHalf_11 C hr h)

def fX11_takeOver (F : Nat) (σ : St) : Option St := bd1 (fX11_takeHalf F σ) fun u1 => bd1 (fX11_takeHalf_2 F u1) fun u2 => bd1 (fX11_takeHalf_3 F u2) fun u3 => bd1 (fX11_takeHalf_4 F u3) fun u4 => bd1 (fX11_takeHalf_5 F u4) fun u5 => bd1 (fX11_takeHalf_6 F u5) fun u6 => bd1 (fX11_takeHalf_7 F u6) fun u7 => bd1 (fX11_takeHalf_8 F u7) fun u8 => bd1 (fX11_takeHalf_9 F u8) fun u9 => bd1 (fX11_takeHalf_10 F u9) fun u10 => bd1 (fX11_takeHalf_11 F u10) fun u11 => nm (up u11 0 31 0) fun u13 => nm (up u13 0 32 0) fun u15 => lp (fun (K17 : (St × Int32) → Option St) (v16 : St × Int32) => if (8 : Int32) ≤ v16.2 then (lp (fun (K20 : (St × Int32) → Option St) (v19 : St × Int32) => if (48 : Int32) ≤ v19.2 then (nm (up v19.1 0 33 0) fun u23 => nm (up u23 0 34 0) fun u25 => nm (up u25 0 50 0) fun u27 => some u27) else ckI (v19.2) 48 (nm (up v19.1 19 (Int32.toNatClampNeg v19.2) 0) fun u28 => K20 ((u28, v19.2 + 1)))) F ((v16.1, 0))) else ckI (v16.2) 8 (nm (up v16.1 18 (Int32.toNatClampNeg v16.2) 0) fun u29 => K17 ((u29, v16.2 + 1)))) F ((u15, 0))
set_option maxRecDepth 20000 in
theorem wfX11_takeOver {X : XT} {D : va_G} {cI cT : ClassId} {ad : Nat → Nat} {F : Nat} {σ : St}  {σ' : St} (C : Cx X (gM D cI cT ad) cX11_takeOver 2 RX11 1 21 0) (hr : RetV X (gM D cI cT ad) cX11_takeOver 2 0 σ') (h : fX11_takeOver F σ = some σ') : WP X (gM D cI cT ad) 2 0 0 σ [(0, .ref (ad 0))] [] := by
  unfold fX11_takeOver at h
  refine w_aload_n C dX11_takeOver_0 rfl 0 rfl ?_
  refine w_get C 0 5 (Nat.le_of_ble_eq_true rfl) rfl rfl inB_X11 (by decide) tw6_166 rfl dX11_takeOver_1 rfl ?_
  refine bd1_w h (fun u1 hc h => ?_)
  refine w_callSv C (n := 1) (As := [.ref (ad 5)]) (st := []) (cfX11_takeHalf D cI cT ad (l := X.2.1) C.2.2.1 hc) tw7_230 cs_X11_takeHalf (by decide +kernel) ⟨Nat.le_of_ble_eq_true rfl, Nat.le_of_ble_eq_true rfl⟩ (by decide) rfl rfl (Nat.le_of_ble_eq_true rfl) dX11_takeOver_4 rfl ?_
  refine w_aload_n C dX11_takeOver_7 rfl 0 rfl ?_
  refine w_get C 0 6 (Nat.le_of_ble_eq_true rfl) rfl rfl inB_X11 (by decide) tw6_167 rfl dX11_takeOver_8 rfl ?_
  refine bd1_w h (fun u2 hc h => ?_)
  refine w_callSv C (n := 1) (As := [.ref (ad 6)]) (st := []) (cfX11_takeHalf_2 D cI cT ad (l := X.2.1) C.2.2.1 hc) tw7_230 cs_X11_takeHalf (by decide +kernel) ⟨Nat.le_of_ble_eq_true rfl, Nat.le_of_ble_eq_true rfl⟩ (by decide) rfl rfl (Nat.le_of_ble_eq_true rfl) dX11_takeOver_11 rfl ?_
  refine w_aload_n C dX11_takeOver_14 rfl 0 rfl ?_
  refine w_get C 0 7 (Nat.le_of_ble_eq_true rfl) rfl rfl inB_X11 (by decide) tw6_168 rfl dX11_takeOver_15 rfl ?_
  refine bd1_w h (fun u3 hc h => ?_)
  refine w_callSv C (n := 1) (As := [.ref (ad 7)]) (st := []) (cfX11_takeHalf_3 D cI cT ad (l := X.2.1) C.2.2.1 hc) tw7_230 cs_X11_takeHalf (by decide +kernel) ⟨Nat.le_of_ble_eq_true rfl, Nat.le_of_ble_eq_true rfl⟩ (by decide) rfl rfl (Nat.le_of_ble_eq_true rfl) dX11_takeOver_18 rfl ?_
  refine w_aload_n C dX11_takeOver_21 rfl 0 rfl ?_
  refine w_get C 0 8 (Nat.le_of_ble_eq_true rfl) rfl rfl inB_X11 (by decide) tw6_169 rfl dX11_takeOver_22 rfl ?_
  refine bd1_w h (fun u4 hc h => ?_)
  refine w_callSv C (n := 1) (As := [.ref (ad 8)]) (st := []) (cfX11_takeHalf_4 D cI cT ad (l := X.2.1) C.2.2.1 hc) tw7_230 cs_X11_takeHalf (by decide +kernel) ⟨Nat.le_of_ble_eq_true rfl, Nat.le_of_ble_eq_true rfl⟩ (by decide) rfl rfl (Nat.le_of_ble_eq_true rfl) dX11_takeOver_25 rfl ?_
  refine w_aload_n C dX11_takeOver_28 rfl 0 rfl ?_
  refine w_get C 0 9 (Nat.le_of_ble_eq_true rfl) rfl rfl inB_X11 (by decide) tw6_170 rfl dX11_takeOver_29 rfl ?_
  refine bd1_w h (fun u5 hc h => ?_)
  refine w_callSv C (n := 1) (As := [.ref (ad 9)]) (st := []) (cfX11_takeHalf_5 D cI cT ad (l := X.2.1) C.2.2.1 hc) tw7_230 cs_X11_takeHalf (by decide +kernel) ⟨Nat.le_of_ble_eq_true rfl, Nat.le_of_ble_eq_true rfl⟩ (by decide) rfl rfl (Nat.le_of_ble_eq_true rfl) dX11_takeOver_32 rfl ?_
  refine w_aload_n C dX11_takeOver_35 rfl 0 rfl ?_
  refine w_get C 0 10 (Nat.le_of_ble_eq_true rfl) rfl rfl inB_X11 (by decide) tw6_171 rfl dX11_takeOver_36 rfl ?_
  refine bd1_w h (fun u6 hc h => ?_)
  refine w_callSv C (n := 1) (As := [.ref (ad 10)]) (st := []) (cfX11_takeHalf_6 D cI cT ad (l := X.2.1) C.2.2.1 hc) tw7_230 cs_X11_takeHalf (by decide +kernel) ⟨Nat.le_of_ble_eq_true rfl, Nat.le_of_ble_eq_true rfl⟩ (by decide) rfl rfl (Nat.le_of_ble_eq_true rfl) dX11_takeOver_39 rfl ?_
  refine w_aload_n C dX11_takeOver_42 rfl 0 rfl ?_
  refine w_get C 0 11 (Nat.le_of_ble_eq_true rfl) rfl rfl inB_X11 (by decide) tw6_172 rfl dX11_takeOver_43 rfl ?_
  refine bd1_w h (fun u7 hc h => ?_)
  refine w_callSv C (n := 1) (As := [.ref (ad 11)]) (st := []) (cfX11_takeHalf_7 D cI cT ad (l := X.2.1) C.2.2.1 hc) tw7_230 cs_X11_takeHalf (by decide +kernel) ⟨Nat.le_of_ble_eq_true rfl, Nat.le_of_ble_eq_true rfl⟩ (by decide) rfl rfl (Nat.le_of_ble_eq_true rfl) dX11_takeOver_46 rfl ?_
  refine w_aload_n C dX11_takeOver_49 rfl 0 rfl ?_
  refine w_get C 0 12 (Nat.le_of_ble_eq_true rfl) rfl rfl inB_X11 (by decide) tw6_173 rfl dX11_takeOver_50 rfl ?_
  refine bd1_w h (fun u8 hc h => ?_)
  refine w_callSv C (n := 1) (As := [.ref (ad 12)]) (st := []) (cfX11_takeHalf_8 D cI cT ad (l := X.2.1) C.2.2.1 hc) tw7_230 cs_X11_takeHalf (by decide +kernel) ⟨Nat.le_of_ble_eq_true rfl, Nat.le_of_ble_eq_true rfl⟩ (by decide) rfl rfl (Nat.le_of_ble_eq_true rfl) dX11_takeOver_53 rfl ?_
  refine w_aload_n C dX11_takeOver_56 rfl 0 rfl ?_
  refine w_get C 0 13 (Nat.le_of_ble_eq_true rfl) rfl rfl inB_X11 (by decide) tw6_174 rfl dX11_takeOver_57 rfl ?_
  refine bd1_w h (fun u9 hc h => ?_)
  refine w_callSv C (n := 1) (As := [.ref (ad 13)]) (st := []) (cfX11_takeHalf_9 D cI cT ad (l := X.2.1) C.2.2.1 hc) tw7_230 cs_X11_takeHalf (by decide +kernel) ⟨Nat.le_of_ble_eq_true rfl, Nat.le_of_ble_eq_true rfl⟩ (by decide) rfl rfl (Nat.le_of_ble_eq_true rfl) dX11_takeOver_60 rfl ?_
  refine w_aload_n C dX11_takeOver_63 rfl 0 rfl ?_
  refine w_get C 0 14 (Nat.le_of_ble_eq_true rfl) rfl rfl inB_X11 (by decide) tw6_175 rfl dX11_takeOver_64 rfl ?_
  refine bd1_w h (fun u10 hc h => ?_)
  refine w_callSv C (n := 1) (As := [.ref (ad 14)]) (st := []) (cfX11_takeHalf_10 D cI cT ad (l := X.2.1) C.2.2.1 hc) tw7_230 cs_X11_takeHalf (by decide +kernel) ⟨Nat.le_of_ble_eq_true rfl, Nat.le_of_ble_eq_true rfl⟩ (by decide) rfl rfl (Nat.le_of_ble_eq_true rfl) dX11_takeOver_67 rfl ?_
  refine w_aload_n C dX11_takeOver_70 rfl 0 rfl ?_
  refine w_get C 0 15 (Nat.le_of_ble_eq_true rfl) rfl rfl inB_X11 (by decide) tw6_176 rfl dX11_takeOver_71 rfl ?_
  refine bd1_w h (fun u11 hc h => ?_)
  refine w_callSv C (n := 1) (As := [.ref (ad 15)]) (st := []) (cfX11_takeHalf_11 D cI cT ad (l := X.2.1) C.2.2.1 hc) tw7_230 cs_X11_takeHalf (by decide +kernel) ⟨Nat.le_of_ble_eq_true rfl, Nat.le_of_ble_eq_true rfl⟩ (by decide) rfl rfl (Nat.le_of_ble_eq_true rfl) dX11_takeOver_74 rfl ?_
  refine w_aload_n C dX11_takeOver_77 rfl 0 rfl ?_
  refine w_iconst C 0 dX11_takeOver_78 rfl (by decide) ?_
  refine w_put C 0 31 0 (Nat.le_of_ble_eq_true rfl) rfl rfl inB_X11 tyX11_ok nmX11 (by decide) tw6_192 rfl rfl rfl (Nat.le_of_ble_eq_true rfl) rfl dX11_takeOver_79 rfl ?_
  refine w_nst h (fun u13 h => ?_)
  refine w_aload_n C dX11_takeOver_82 rfl 0 rfl ?_
  refine w_iconst C 0 dX11_takeOver_83 rfl (by decide) ?_
  refine w_put C 0 32 0 (Nat.le_of_ble_eq_true rfl) rfl rfl inB_X11 tyX11_ok nmX11 (by decide) tw6_193 rfl rfl rfl (Nat.le_of_ble_eq_true rfl) rfl dX11_takeOver_84 rfl ?_
  refine w_nst h (fun u15 h => ?_)
  refine w_iconst C 0 dX11_takeOver_87 rfl (by decide) ?_
  refine w_istore_n C [(1, .int 0), (0, .ref (ad 0))] dX11_takeOver_88 rfl (by decide) rfl ?_
  refine w_sub (lv' := [(1, .int 0), (0, .ref (ad 0))]) [0, 1] rfl ?_
  refine lp_w (fun v16 : St × Int32 => WP X (gM D cI cT ad) 2 0 89 v16.1 [(1, .int v16.2), (0, .ref (ad 0))] []) (fun K17 hK18 v16 h => ?_) F _ h
  refine w_iload_n C dX11_takeOver_89 rfl 0 rfl ?_
  refine w_bipush C 8 dX11_takeOver_90 rfl (by decide) ?_
  refine w_icmp_ge C (qt := 108) dX11_takeOver_92 (by decide) rfl h (fun _ h => ?_) (fun _ h => ?_)
  · refine w_iconst C 0 dX11_takeOver_108 rfl (by decide) ?_
    refine w_istore_n C [(1, .int 0), (0, .ref (ad 0))] dX11_takeOver_109 rfl (by decide) rfl ?_
    refine w_sub (lv' := [(1, .int 0), (0, .ref (ad 0))]) [0, 1] rfl ?_
    refine lp_w (fun v19 : St × Int32 => WP X (gM D cI cT ad) 2 0 110 v19.1 [(1, .int v19.2), (0, .ref (ad 0))] []) (fun K20 hK21 v19 h => ?_) F _ h
    refine w_iload_n C dX11_takeOver_110 rfl 0 rfl ?_
    refine w_bipush C 48 dX11_takeOver_111 rfl (by decide) ?_
    refine w_icmp_ge C (qt := 129) dX11_takeOver_113 (by decide) rfl h (fun _ h => ?_) (fun _ h => ?_)
    · refine w_aload_n C dX11_takeOver_129 rfl 1 rfl ?_
      refine w_iconst C 0 dX11_takeOver_130 rfl (by decide) ?_
      refine w_put C 0 33 0 (Nat.le_of_ble_eq_true rfl) rfl rfl inB_X11 tyX11_ok nmX11 (by decide) tw6_194 rfl rfl rfl (Nat.le_of_ble_eq_true rfl) rfl dX11_takeOver_131 rfl ?_
      refine w_nst h (fun u23 h => ?_)
      refine w_aload_n C dX11_takeOver_134 rfl 1 rfl ?_
      refine w_iconst C 0 dX11_takeOver_135 rfl (by decide) ?_
      refine w_put C 0 34 0 (Nat.le_of_ble_eq_true rfl) rfl rfl inB_X11 tyX11_ok nmX11 (by decide) tw6_195 rfl rfl rfl (Nat.le_of_ble_eq_true rfl) rfl dX11_takeOver_136 rfl ?_
      refine w_nst h (fun u25 h => ?_)
      refine w_aload_n C dX11_takeOver_139 rfl 1 rfl ?_
      refine w_iconst C 0 dX11_takeOver_140 rfl (by decide) ?_
      refine w_put C 0 50 0 (Nat.le_of_ble_eq_true rfl) rfl rfl inB_X11 tyX11_ok nmX11 (by decide) tw6_211 rfl rfl rfl (Nat.le_of_ble_eq_true rfl) rfl dX11_takeOver_141 rfl ?_
      refine w_nst h (fun u27 h => ?_)
      exact w_rv hr h (by decide) dX11_takeOver_144
    · refine w_aload_n C dX11_takeOver_116 rfl 1 rfl ?_
      refine w_get C 0 29 (Nat.le_of_ble_eq_true rfl) rfl rfl inB_X11 (by decide) tw6_190 rfl dX11_takeOver_117 rfl ?_
      refine w_iload_n C dX11_takeOver_120 rfl 0 rfl ?_
      refine w_iconst C 0 dX11_takeOver_121 rfl (by decide) ?_
      refine w_iast C 19 48 0 (Nat.le_of_ble_eq_true rfl) (fun _ => rfl) rfl h dX11_takeOver_122 rfl (fun h => ?_)
      refine w_nst h (fun u28 h => ?_)
      refine w_iinc (j := 0) C (v19.2 + 1) [(1, .int (v19.2 + 1)), (0, .ref (ad 0))] dX11_takeOver_123 rfl rfl rfl (by decide) rfl ?_
      refine w_goto (q := 110) C dX11_takeOver_126 (by decide) ?_
      exact w_sub (lv' := [(1, .int (v19.2 + 1)), (0, .ref (ad 0))]) [0, 1] rfl (hK21 ((u28, v19.2 + 1)) h)
  · refine w_aload_n C dX11_takeOver_95 rfl 1 rfl ?_
    refine w_get C 0 28 (Nat.le_of_ble_eq_true rfl) rfl rfl inB_X11 (by decide) tw6_189 rfl dX11_takeOver_96 rfl ?_
    refine w_iload_n C dX11_takeOver_99 rfl 0 rfl ?_
    refine w_iconst C 0 dX11_takeOver_100 rfl (by decide) ?_
    refine w_iast C 18 8 0 (Nat.le_of_ble_eq_true rfl) (fun _ => rfl) rfl h dX11_takeOver_101 rfl (fun h => ?_)
    refine w_nst h (fun u29 h => ?_)
    refine w_iinc (j := 0) C (v16.2 + 1) [(1, .int (v16.2 + 1)), (0, .ref (ad 0))] dX11_takeOver_102 rfl rfl rfl (by decide) rfl ?_
    refine w_goto (q := 89) C dX11_takeOver_105 (by decide) ?_
    exact w_sub (lv' := [(1, .int (v16.2 + 1)), (0, .ref (ad 0))]) [0, 1] rfl (hK18 ((u29, v16.2 + 1)) h)
theorem cfX11_takeOver (D : va_G) (cI cT : ClassId) (ad : Nat → Nat) {l : Launch} (had : gAp (gM D cI cT ad)) {F : Nat} {σ : St}  {σ' : St} (h : fX11_takeOver F σ = some σ') : MV l yX11_takeOver (wB yX11_takeOver cX11_takeOver 2 none) 1 21 (gM D cI cT ad) [.ref (ad 0)] σ σ' := mk_MV had (by decide +kernel) (Nat.le_of_ble_eq_true rfl) (fun X hX C hr => wfX11_takeOver C hr h)

