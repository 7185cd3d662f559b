def fX11_ball (F : Nat) (σ : St) (a0 : Int32) : Option (Int32 × St) := nm (up σ 0 4 0) fun u2 => jn (fun v3 : Unit => bd2 (fX11_fail F u2 1) fun r6 u7 => some (r6, u7)) fun J4 => if a0 < 0 then (J4 (())) else if a0 ≤ (u2 0 18) then (nm (up u2 0 18 0) fun u9 => nm (up u9 0 20 a0) fun u11 => nm (up u11 0 19 0) fun u13 => nm (up u13 0 25 0) fun u15 => nm (up u15 0 27 ((-1))) fun u17 => lp (fun (K19 : (St × Int32) → Option (Int32 × St)) (v18 : St × Int32) => if (4 : Int32) ≤ v18.2 then (bd1 (fX11_stepOn F v18.1) fun u21 => lp (fun (K23 : (St × Int32) → Option (Int32 × St)) (v22 : St × Int32) => jn (fun v25 : Unit => if (v22.1 0 25) = 0 then (bd1 (fX11_takeOver F v22.1) fun u28 => some (0, u28)) else nm (up v22.1 0 27 (v22.1 0 26)) fun u30 => nm (up u30 16 0 ((u30 16 0) + 1)) fun u31 => some (u31 0 25, u31)) fun J26 => if (v22.1 0 25) = 0 then (if (v22.1 0 21) = 0 then (J26 (())) else bd2 (fX11_readLine F v22.1 v22.2) fun r32 u33 => K23 ((u33, r32))) else J26 (())) F ((u21, 0))) else if v18.2 = (2 : Int32) then (ckI (4 + v18.2) 8 (nm (up v18.1 5 (Int32.toNatClampNeg (4 + v18.2)) 12) fun u35 => K19 ((u35, v18.2 + 1)))) else ckI (4 + v18.2) 8 (nm (up v18.1 5 (Int32.toNatClampNeg (4 + v18.2)) 0) fun u34 => K19 ((u34, v18.2 + 1)))) F ((u17, 0))) else J4 (())
set_option maxRecDepth 20000 in
theorem wfX11_ball {X : XT} {D : va_G} {cI cT : ClassId} {ad : Nat → Nat} {F : Nat} {σ : St} {a0 : Int32} {r : Int32} {σ' : St} (C : Cx X (gM D cI cT ad) cX11_ball 3 RX11 112 2445 0) (hr : RetI X (gM D cI cT ad) cX11_ball 3 0 r σ') (h : fX11_ball F σ a0 = some (r, σ')) : WP X (gM D cI cT ad) 3 0 0 σ [(0, .ref (ad 0)), (1, .int a0)] [] := by
  unfold fX11_ball at h
  refine w_aload_n C dX11_ball_0 rfl 0 rfl ?_
  refine w_iconst C 0 dX11_ball_1 rfl (by decide) ?_
  refine w_put C 0 4 0 (Nat.le_of_ble_eq_true rfl) rfl rfl inB_X11 tyX11_ok nmX11 (by decide) tw6_165 rfl rfl rfl (Nat.le_of_ble_eq_true rfl) rfl dX11_ball_2 rfl ?_
  refine w_nst h (fun u2 h => ?_)
  refine w_iload_n C dX11_ball_5 rfl 1 rfl ?_
  refine jn_w (fun v3 : Unit => WP X (gM D cI cT ad) 3 0 17 u2 [(0, .ref (ad 0))] []) h (fun v3 h => ?_) (fun J4 hJ5 h => ?_)
  · refine w_aload_n C dX11_ball_17 rfl 0 rfl ?_
    refine w_iconst C 1 dX11_ball_18 rfl (by decide) ?_
    refine bd2_w h (fun r6 u7 hc h => ?_)
    refine w_callVi C (n := 1) (As := [.int 1]) (st := []) 0 (Nat.le_of_ble_eq_true rfl) rfl rfl (cfX11_fail D cI cT ad (l := X.2.1) C.2.2.1 hc) tw7_117 cy_X11_fail (by decide +kernel) ⟨Nat.le_of_ble_eq_true rfl, Nat.le_of_ble_eq_true rfl⟩ (by decide) rfl rfl (Nat.le_of_ble_eq_true rfl) dX11_ball_19 rfl ?_
    exact w_ri2 hr h (by decide) dX11_ball_22
  · refine w_if_lt C (qt := 17) dX11_ball_6 (by decide) rfl h (fun _ h => ?_) (fun _ h => ?_)
    · exact w_sub (lv' := [(0, .ref (ad 0))]) [0] rfl (hJ5 (()) h)
    · refine w_iload_n C dX11_ball_9 rfl 1 rfl ?_
      refine w_aload_n C dX11_ball_10 rfl 0 rfl ?_
      refine w_get C 0 18 (Nat.le_of_ble_eq_true rfl) rfl rfl inB_X11 (by decide) tw6_179 rfl dX11_ball_11 rfl ?_
      refine w_icmp_le C (qt := 23) dX11_ball_14 (by decide) rfl h (fun _ h => ?_) (fun _ h => ?_)
      · refine w_aload_n C dX11_ball_23 rfl 0 rfl ?_
        refine w_iconst C 0 dX11_ball_24 rfl (by decide) ?_
        refine w_put C 0 18 0 (Nat.le_of_ble_eq_true rfl) rfl rfl inB_X11 tyX11_ok nmX11 (by decide) tw6_179 rfl rfl rfl (Nat.le_of_ble_eq_true rfl) rfl dX11_ball_25 rfl ?_
        refine w_nst h (fun u9 h => ?_)
        refine w_aload_n C dX11_ball_28 rfl 0 rfl ?_
        refine w_iload_n C dX11_ball_29 rfl 1 rfl ?_
        refine w_put C 0 20 a0 (Nat.le_of_ble_eq_true rfl) rfl rfl inB_X11 tyX11_ok nmX11 (by decide) tw6_181 rfl rfl rfl (Nat.le_of_ble_eq_true rfl) rfl dX11_ball_30 rfl ?_
        refine w_nst h (fun u11 h => ?_)
        refine w_aload_n C dX11_ball_33 rfl 0 rfl ?_
        refine w_iconst C 0 dX11_ball_34 rfl (by decide) ?_
        refine w_put C 0 19 0 (Nat.le_of_ble_eq_true rfl) rfl rfl inB_X11 tyX11_ok nmX11 (by decide) tw6_180 rfl rfl rfl (Nat.le_of_ble_eq_true rfl) rfl dX11_ball_35 rfl ?_
        refine w_nst h (fun u13 h => ?_)
        refine w_aload_n C dX11_ball_38 rfl 0 rfl ?_
        refine w_iconst C 0 dX11_ball_39 rfl (by decide) ?_
        refine w_put C 0 25 0 (Nat.le_of_ble_eq_true rfl) rfl rfl inB_X11 tyX11_ok nmX11 (by decide) tw6_186 rfl rfl rfl (Nat.le_of_ble_eq_true rfl) rfl dX11_ball_40 rfl ?_
        refine w_nst h (fun u15 h => ?_)
        refine w_aload_n C dX11_ball_43 rfl 0 rfl ?_
        refine w_iconst C (-1) dX11_ball_44 rfl (by decide) ?_
        refine w_put C 0 27 ((-1)) (Nat.le_of_ble_eq_true rfl) rfl rfl inB_X11 tyX11_ok nmX11 (by decide) tw6_188 rfl rfl rfl (Nat.le_of_ble_eq_true rfl) rfl dX11_ball_45 rfl ?_
        refine w_nst h (fun u17 h => ?_)
        refine w_iconst C 0 dX11_ball_48 rfl (by decide) ?_
        refine w_istore_n C [(2, .int 0), (0, .ref (ad 0)), (1, .int a0)] dX11_ball_49 rfl (by decide) rfl ?_
        refine w_sub (lv' := [(2, .int 0), (0, .ref (ad 0))]) [0, 1] rfl ?_
        refine lp_w (fun v18 : St × Int32 => WP X (gM D cI cT ad) 3 0 50 v18.1 [(2, .int v18.2), (0, .ref (ad 0))] []) (fun K19 hK20 v18 h => ?_) F _ h
        refine w_iload_n C dX11_ball_50 rfl 0 rfl ?_
        refine w_iconst C 4 dX11_ball_51 rfl (by decide) ?_
        refine w_icmp_ge C (qt := 80) dX11_ball_52 (by decide) rfl h (fun _ h => ?_) (fun _ h => ?_)
        · refine w_aload_n C dX11_ball_80 rfl 1 rfl ?_
          refine bd1_w h (fun u21 hc h => ?_)
          refine w_callVv C (n := 0) (As := []) (st := []) 0 (Nat.le_of_ble_eq_true rfl) rfl rfl (cfX11_stepOn D cI cT ad (l := X.2.1) C.2.2.1 hc) tw7_121 cy_X11_stepOn (by decide +kernel) ⟨Nat.le_of_ble_eq_true rfl, Nat.le_of_ble_eq_true rfl⟩ (by decide) rfl rfl (Nat.le_of_ble_eq_true rfl) dX11_ball_81 rfl ?_
          refine w_iconst C 0 dX11_ball_84 rfl (by decide) ?_
          refine w_istore_n C [(2, .int 0), (0, .ref (ad 0))] dX11_ball_85 rfl (by decide) rfl ?_
          refine w_sub (lv' := [(2, .int 0), (0, .ref (ad 0))]) [0, 1] rfl ?_
          refine lp_w (fun v22 : St × Int32 => WP X (gM D cI cT ad) 3 0 86 v22.1 [(2, .int v22.2), (0, .ref (ad 0))] []) (fun K23 hK24 v22 h => ?_) F _ h
          refine w_aload_n C dX11_ball_86 rfl 1 rfl ?_
          refine w_get C 0 25 (Nat.le_of_ble_eq_true rfl) rfl rfl inB_X11 (by decide) tw6_186 rfl dX11_ball_87 rfl ?_
          refine jn_w (fun v25 : Unit => WP X (gM D cI cT ad) 3 0 109 v22.1 [(0, .ref (ad 0))] []) h (fun v25 h => ?_) (fun J26 hJ27 h => ?_)
          · refine w_aload_n C dX11_ball_109 rfl 0 rfl ?_
            refine w_get C 0 25 (Nat.le_of_ble_eq_true rfl) rfl rfl inB_X11 (by decide) tw6_186 rfl dX11_ball_110 rfl ?_
            refine w_if_eq C (qt := 139) dX11_ball_113 (by decide) rfl h (fun _ h => ?_) (fun _ h => ?_)
            · refine w_aload_n C dX11_ball_139 rfl 0 rfl ?_
              refine bd1_w h (fun u28 hc h => ?_)
              refine w_callVv C (n := 0) (As := []) (st := []) 0 (Nat.le_of_ble_eq_true rfl) rfl rfl (cfX11_takeOver D cI cT ad (l := X.2.1) C.2.2.1 hc) tw7_226 cy_X11_takeOver (by decide +kernel) ⟨Nat.le_of_ble_eq_true rfl, Nat.le_of_ble_eq_true rfl⟩ (by decide) rfl rfl (Nat.le_of_ble_eq_true rfl) dX11_ball_140 rfl ?_
              refine w_iconst C 0 dX11_ball_143 rfl (by decide) ?_
              exact w_ri2 hr h (by decide) dX11_ball_144
            · refine w_aload_n C dX11_ball_116 rfl 0 rfl ?_
              refine w_aload_n C dX11_ball_117 rfl 0 rfl ?_
              refine w_get C 0 26 (Nat.le_of_ble_eq_true rfl) rfl rfl inB_X11 (by decide) tw6_187 rfl dX11_ball_118 rfl ?_
              refine w_put C 0 27 (v22.1 0 26) (Nat.le_of_ble_eq_true rfl) rfl rfl inB_X11 tyX11_ok nmX11 (by decide) tw6_188 rfl rfl rfl (Nat.le_of_ble_eq_true rfl) rfl dX11_ball_121 rfl ?_
              refine w_nst h (fun u30 h => ?_)
              refine w_aload_n C dX11_ball_124 rfl 0 rfl ?_
              refine w_get C 0 16 (Nat.le_of_ble_eq_true rfl) rfl rfl inB_X11 (by decide) tw6_177 rfl dX11_ball_125 rfl ?_
              refine w_iconst C 0 dX11_ball_128 rfl (by decide) ?_
              refine w_dup2 C rfl rfl dX11_ball_129 rfl ?_
              refine w_ialdc C 16 3 0 0 (Nat.le_of_ble_eq_true rfl) (fun _ => rfl) rfl (by decide) (by show ¬ (_ ∨ _); decide) dX11_ball_130 rfl ?_
              refine w_iconst C 1 dX11_ball_131 rfl (by decide) ?_
              refine w_iadd C dX11_ball_132 rfl ?_
              refine w_iastc C 16 3 0 0 (Nat.le_of_ble_eq_true rfl) (fun _ => rfl) rfl (by decide) (by show ¬ (_ ∨ _); decide) dX11_ball_133 rfl ?_
              refine w_nst h (fun u31 h => ?_)
              refine w_aload_n C dX11_ball_134 rfl 0 rfl ?_
              refine w_get C 0 25 (Nat.le_of_ble_eq_true rfl) rfl rfl inB_X11 (by decide) tw6_186 rfl dX11_ball_135 rfl ?_
              exact w_ri2 hr h (by decide) dX11_ball_138
          · refine w_if_ne C (qt := 109) dX11_ball_90 (by decide) rfl h (fun _ h => ?_) (fun _ h => ?_)
            · exact w_sub (lv' := [(0, .ref (ad 0))]) [1] rfl (hJ27 (()) h)
            · refine w_aload_n C dX11_ball_93 rfl 1 rfl ?_
              refine w_get C 0 21 (Nat.le_of_ble_eq_true rfl) rfl rfl inB_X11 (by decide) tw6_182 rfl dX11_ball_94 rfl ?_
              refine w_if_eq C (qt := 109) dX11_ball_97 (by decide) rfl h (fun _ h => ?_) (fun _ h => ?_)
              · exact w_sub (lv' := [(0, .ref (ad 0))]) [1] rfl (hJ27 (()) h)
              · refine w_aload_n C dX11_ball_100 rfl 1 rfl ?_
                refine w_iload_n C dX11_ball_101 rfl 0 rfl ?_
                refine bd2_w h (fun r32 u33 hc h => ?_)
                refine w_callVi C (n := 1) (As := [.int v22.2]) (st := []) 0 (Nat.le_of_ble_eq_true rfl) rfl rfl (cfX11_readLine D cI cT ad (l := X.2.1) C.2.2.1 hc) tw7_140 cy_X11_readLine (by decide +kernel) ⟨Nat.le_of_ble_eq_true rfl, Nat.le_of_ble_eq_true rfl⟩ (by decide) rfl rfl (Nat.le_of_ble_eq_true rfl) dX11_ball_102 rfl ?_
                refine w_istore_n C [(2, .int r32), (0, .ref (ad 0))] dX11_ball_105 rfl (by decide) rfl ?_
                refine w_goto (q := 86) C dX11_ball_106 (by decide) ?_
                exact w_sub (lv' := [(2, .int r32), (0, .ref (ad 0))]) [0, 1] rfl (hK24 ((u33, r32)) h)
        · refine w_aload_n C dX11_ball_55 rfl 1 rfl ?_
          refine w_get C 0 5 (Nat.le_of_ble_eq_true rfl) rfl rfl inB_X11 (by decide) tw6_166 rfl dX11_ball_56 rfl ?_
          refine w_iconst C 4 dX11_ball_59 rfl (by decide) ?_
          refine w_iload_n C dX11_ball_60 rfl 0 rfl ?_
          refine w_iadd C dX11_ball_61 rfl ?_
          refine w_iload_n C dX11_ball_62 rfl 0 rfl ?_
          refine w_iconst C 2 dX11_ball_63 rfl (by decide) ?_
          refine w_icmp_ne C (qt := 72) dX11_ball_64 (by decide) rfl h (fun _ h => ?_) (fun _ h => ?_)
          · refine w_iconst C 0 dX11_ball_72 rfl (by decide) ?_
            refine w_iast C 5 8 0 (Nat.le_of_ble_eq_true rfl) (fun _ => rfl) rfl h dX11_ball_73 rfl (fun h => ?_)
            refine w_nst h (fun u34 h => ?_)
            refine w_iinc (j := 0) C (v18.2 + 1) [(2, .int (v18.2 + 1)), (0, .ref (ad 0))] dX11_ball_74 rfl rfl rfl (by decide) rfl ?_
            refine w_goto (q := 50) C dX11_ball_77 (by decide) ?_
            exact w_sub (lv' := [(2, .int (v18.2 + 1)), (0, .ref (ad 0))]) [0, 1] rfl (hK20 ((u34, v18.2 + 1)) h)
          · refine w_bipush C 12 dX11_ball_67 rfl (by decide) ?_
            refine w_goto (q := 73) C dX11_ball_69 (by decide) ?_
            refine w_iast C 5 8 0 (Nat.le_of_ble_eq_true rfl) (fun _ => rfl) rfl h dX11_ball_73 rfl (fun h => ?_)
            refine w_nst h (fun u35 h => ?_)
            refine w_iinc (j := 0) C (v18.2 + 1) [(2, .int (v18.2 + 1)), (0, .ref (ad 0))] dX11_ball_74 rfl rfl rfl (by decide) rfl ?_
            refine w_goto (q := 50) C dX11_ball_77 (by decide) ?_
            exact w_sub (lv' := [(2, .int (v18.2 + 1)), (0, .ref (ad 0))]) [0, 1] rfl (hK20 ((u35, v18.2 + 1)) h)
      · exact w_sub (lv' := [(0, .ref (ad 0))]) [0] rfl (hJ5 (()) h)
theorem cfX11_ball (D : va_G) (cI cT : ClassId) (ad : Nat → Nat) {l : Launch} (had : gAp (gM D cI cT ad)) {F : Nat} {σ : St} {a0 : Int32} {r : Int32} {σ' : St} (h : fX11_ball F σ a0 = some (r, σ')) : MI l yX11_ball (wB yX11_ball cX11_ball 3 (some .int)) 112 2445 (gM D cI cT ad) [.ref (ad 0), .int a0] σ r σ' := mk_MI had (by decide +kernel) (Nat.le_of_ble_eq_true rfl) (fun X hX C hr => wfX11_ball C hr h)

def fX11_fault (F : Nat) (σ : St) : Option (Int32 × St) := nm (up σ 0 4 0) fun u2 => some (u2 0 27, u2)
set_option maxRecDepth 20000 in
theorem wfX11_fault {X : XT} {D : va_G} {cI cT : ClassId} {ad : Nat → Nat} {F : Nat} {σ : St}  {r : Int32} {σ' : St} (C : Cx X (gM D cI cT ad) cX11_fault 1 RX11 0 0 0) (hr : RetI X (gM D cI cT ad) cX11_fault 1 0 r σ') (h : fX11_fault F σ = some (r, σ')) : WP X (gM D cI cT ad) 1 0 0 σ [(0, .ref (ad 0))] [] := by
  unfold fX11_fault at h
  refine w_aload_n C dX11_fault_0 rfl 0 rfl ?_
  refine w_iconst C 0 dX11_fault_1 rfl (by decide) ?_
  refine w_put C 0 4 0 (Nat.le_of_ble_eq_true rfl) rfl rfl inB_X11 tyX11_ok nmX11 (by decide) tw6_165 rfl rfl rfl (Nat.le_of_ble_eq_true rfl) rfl dX11_fault_2 rfl ?_
  refine w_nst h (fun u2 h => ?_)
  refine w_aload_n C dX11_fault_5 rfl 0 rfl ?_
  refine w_get C 0 27 (Nat.le_of_ble_eq_true rfl) rfl rfl inB_X11 (by decide) tw6_188 rfl dX11_fault_6 rfl ?_
  exact w_ri2 hr h (by decide) dX11_fault_9
theorem cfX11_fault (D : va_G) (cI cT : ClassId) (ad : Nat → Nat) {l : Launch} (had : gAp (gM D cI cT ad)) {F : Nat} {σ : St}  {r : Int32} {σ' : St} (h : fX11_fault F σ = some (r, σ')) : MI l yX11_fault (wB yX11_fault cX11_fault 1 (some .int)) 0 0 (gM D cI cT ad) [.ref (ad 0)] σ r σ' := mk_MI had (by decide +kernel) (Nat.le_of_ble_eq_true rfl) (fun X hX C hr => wfX11_fault C hr h)

def fX11_stiff (F : Nat) (σ : St) (a0 : Int32) (a1 : Int32) : Option Int32 := jn (fun v1 : Int32 => ckI (v1) 12 (ckI (a0) 8 (some (((((σ 6 (Int32.toNatClampNeg v1)) + (σ 0 31)) - (σ 18 (Int32.toNatClampNeg a0))) + (σ 0 38)) / 10)))) fun J2 => if a1 = 0 then (ckI (a0) 16 (J2 (σ 7 (Int32.toNatClampNeg a0)))) else ckI (a0) 16 (J2 (σ 8 (Int32.toNatClampNeg a0)))
set_option maxRecDepth 20000 in
theorem wfX11_stiff {X : XT} {D : va_G} {cI cT : ClassId} {ad : Nat → Nat} {F : Nat} {σ : St} {a0 : Int32} {a1 : Int32} {r : Int32} (C : Cx X (gM D cI cT ad) cX11_stiff 3 RX11 0 0 0) (hr : RetI X (gM D cI cT ad) cX11_stiff 3 0 r σ) (h : fX11_stiff F σ a0 a1 = some r) : WP X (gM D cI cT ad) 3 0 0 σ [(0, .ref (ad 0)), (1, .int a0), (2, .int a1)] [] := by
  unfold fX11_stiff at h
  refine w_aload_n C dX11_stiff_0 rfl 0 rfl ?_
  refine w_get C 0 6 (Nat.le_of_ble_eq_true rfl) rfl rfl inB_X11 (by decide) tw6_167 rfl dX11_stiff_1 rfl ?_
  refine w_iload_n C dX11_stiff_4 rfl 2 rfl ?_
  refine jn_w (fun v1 : Int32 => WP X (gM D cI cT ad) 3 0 23 σ [(0, .ref (ad 0)), (1, .int a0)] [.int v1, .ref (ad 6)]) h (fun v1 h => ?_) (fun J2 hJ3 h => ?_)
  · refine w_iald C 6 12 0 (Nat.le_of_ble_eq_true rfl) (fun _ => rfl) rfl h dX11_stiff_23 rfl (fun h => ?_)
    refine w_aload_n C dX11_stiff_24 rfl 0 rfl ?_
    refine w_get C 0 31 (Nat.le_of_ble_eq_true rfl) rfl rfl inB_X11 (by decide) tw6_192 rfl dX11_stiff_25 rfl ?_
    refine w_iadd C dX11_stiff_28 rfl ?_
    refine w_aload_n C dX11_stiff_29 rfl 0 rfl ?_
    refine w_get C 0 28 (Nat.le_of_ble_eq_true rfl) rfl rfl inB_X11 (by decide) tw6_189 rfl dX11_stiff_30 rfl ?_
    refine w_iload_n C dX11_stiff_33 rfl 1 rfl ?_
    refine w_iald C 18 8 0 (Nat.le_of_ble_eq_true rfl) (fun _ => rfl) rfl h dX11_stiff_34 rfl (fun h => ?_)
    refine w_isub C dX11_stiff_35 rfl ?_
    refine w_aload_n C dX11_stiff_36 rfl 0 rfl ?_
    refine w_get C 0 38 (Nat.le_of_ble_eq_true rfl) rfl rfl inB_X11 (by decide) tw6_199 rfl dX11_stiff_37 rfl ?_
    refine w_iadd C dX11_stiff_40 rfl ?_
    refine w_bipush C 10 dX11_stiff_41 rfl (by decide) ?_
    refine w_idiv C (by decide) dX11_stiff_43 rfl ?_
    exact w_ri1 hr h (by decide) dX11_stiff_44
  · refine w_if_ne C (qt := 17) dX11_stiff_5 (by decide) rfl h (fun _ h => ?_) (fun _ h => ?_)
    · refine w_aload_n C dX11_stiff_17 rfl 0 rfl ?_
      refine w_get C 0 8 (Nat.le_of_ble_eq_true rfl) rfl rfl inB_X11 (by decide) tw6_169 rfl dX11_stiff_18 rfl ?_
      refine w_iload_n C dX11_stiff_21 rfl 1 rfl ?_
      refine w_iald C 8 16 0 (Nat.le_of_ble_eq_true rfl) (fun _ => rfl) rfl h dX11_stiff_22 rfl (fun h => ?_)
      exact w_sub (lv' := [(0, .ref (ad 0)), (1, .int a0)]) [0, 1] rfl (hJ3 (σ 8 (Int32.toNatClampNeg a0)) h)
    · refine w_aload_n C dX11_stiff_8 rfl 0 rfl ?_
      refine w_get C 0 7 (Nat.le_of_ble_eq_true rfl) rfl rfl inB_X11 (by decide) tw6_168 rfl dX11_stiff_9 rfl ?_
      refine w_iload_n C dX11_stiff_12 rfl 1 rfl ?_
      refine w_iald C 7 16 0 (Nat.le_of_ble_eq_true rfl) (fun _ => rfl) rfl h dX11_stiff_13 rfl (fun h => ?_)
      refine w_goto (q := 23) C dX11_stiff_14 (by decide) ?_
      exact w_sub (lv' := [(0, .ref (ad 0)), (1, .int a0)]) [0, 1] rfl (hJ3 (σ 7 (Int32.toNatClampNeg a0)) h)
theorem cfX11_stiff (D : va_G) (cI cT : ClassId) (ad : Nat → Nat) {l : Launch} (had : gAp (gM D cI cT ad)) {F : Nat} {σ : St} {a0 : Int32} {a1 : Int32} {r : Int32} (h : fX11_stiff F σ a0 a1 = some r) : MI l yX11_stiff (wB yX11_stiff cX11_stiff 3 (some .int)) 0 0 (gM D cI cT ad) [.ref (ad 0), .int a0, .int a1] σ r σ := mk_MI had (by decide +kernel) (Nat.le_of_ble_eq_true rfl) (fun X hX C hr => wfX11_stiff C hr h)

def fX11_isOn (F : Nat) (σ : St) (a0 : Int32) : Option Int32 := if a0 < 0 then (some 0) else if (σ 5 2) ≤ a0 then (some 0) else some 1
set_option maxRecDepth 20000 in
theorem wfX11_isOn {X : XT} {D : va_G} {cI cT : ClassId} {ad : Nat → Nat} {F : Nat} {σ : St} {a0 : Int32} {r : Int32} (C : Cx X (gM D cI cT ad) cX11_isOn 2 RX11 0 0 0) (hr : RetZ X (gM D cI cT ad) cX11_isOn 2 0 r σ) (h : fX11_isOn F σ a0 = some r) : WP X (gM D cI cT ad) 2 0 0 σ [(0, .ref (ad 0)), (1, .int a0)] [] := by
  unfold fX11_isOn at h
  refine w_iload_n C dX11_isOn_0 rfl 1 rfl ?_
  refine w_if_lt C (qt := 18) dX11_isOn_1 (by decide) rfl h (fun _ h => ?_) (fun _ h => ?_)
  · refine w_iconst C 0 dX11_isOn_18 rfl (by decide) ?_
    exact w_rz1 hr (by decide) h (by decide) dX11_isOn_19
  · refine w_iload_n C dX11_isOn_4 rfl 1 rfl ?_
    refine w_aload_n C dX11_isOn_5 rfl 0 rfl ?_
    refine w_get C 0 5 (Nat.le_of_ble_eq_true rfl) rfl rfl inB_X11 (by decide) tw6_166 rfl dX11_isOn_6 rfl ?_
    refine w_iconst C 2 dX11_isOn_9 rfl (by decide) ?_
    refine w_ialdc C 5 8 0 2 (Nat.le_of_ble_eq_true rfl) (fun _ => rfl) rfl (by decide) (by show ¬ (_ ∨ _); decide) dX11_isOn_10 rfl ?_
    refine w_icmp_ge C (qt := 18) dX11_isOn_11 (by decide) rfl h (fun _ h => ?_) (fun _ h => ?_)
    · refine w_iconst C 0 dX11_isOn_18 rfl (by decide) ?_
      exact w_rz1 hr (by decide) h (by decide) dX11_isOn_19
    · refine w_iconst C 1 dX11_isOn_14 rfl (by decide) ?_
      refine w_goto (q := 19) C dX11_isOn_15 (by decide) ?_
      exact w_rz1 hr (by decide) h (by decide) dX11_isOn_19
theorem cfX11_isOn (D : va_G) (cI cT : ClassId) (ad : Nat → Nat) {l : Launch} (had : gAp (gM D cI cT ad)) {F : Nat} {σ : St} {a0 : Int32} {r : Int32} (h : fX11_isOn F σ a0 = some r) : MI l yX11_isOn (wB yX11_isOn cX11_isOn 2 (some .boolean)) 0 0 (gM D cI cT ad) [.ref (ad 0), .int a0] σ r σ := mk_MZ had (by decide +kernel) (Nat.le_of_ble_eq_true rfl) (fun X hX C hr => wfX11_isOn C hr h)

def fX11_goes (F : Nat) (σ : St) (a0 : Int32) (a1 : Int32) : Option (Int32 × St) := lp (fun (K2 : (St × Int32) → Option (Int32 × St)) (v1 : St × Int32) => if a1 ≤ v1.2 then (some (1, v1.1)) else ckI (a0) 2 (ckI (a0) 2 (ckI (v1.1 23 (Int32.toNatClampNeg a0)) 4 (nm ((v1.1 21 (Int32.toNatClampNeg a0)) + (v1.1 3 (Int32.toNatClampNeg (v1.1 23 (Int32.toNatClampNeg a0))))) fun x4 => ckI (a0) 2 (ckI (a0) 2 (ckI (v1.1 23 (Int32.toNatClampNeg a0)) 4 (nm ((v1.1 22 (Int32.toNatClampNeg a0)) + (v1.1 4 (Int32.toNatClampNeg (v1.1 23 (Int32.toNatClampNeg a0))))) fun x5 => bd1 (fX11_isOn F v1.1 x4) fun r6 => if r6 = 0 then (some (0, v1.1)) else bd1 (fX11_isOn F v1.1 x5) fun r7 => if r7 = 0 then (some (0, v1.1)) else ckI (1 - a0) 2 (jn (fun v8 : Unit => ckI (a0) 2 (nm (up v1.1 21 (Int32.toNatClampNeg a0) x4) fun u11 => ckI (a0) 2 (nm (up u11 22 (Int32.toNatClampNeg a0) x5) fun u12 => K2 ((u12, v1.2 + 1))))) fun J9 => if x4 = (v1.1 21 (Int32.toNatClampNeg (1 - a0))) then (ckI (1 - a0) 2 (if x5 = (v1.1 22 (Int32.toNatClampNeg (1 - a0))) then (some (0, v1.1)) else J9 (()))) else J9 (()))))))))) F ((σ, 0))
set_option maxRecDepth 20000 in
theorem wfX11_goes {X : XT} {D : va_G} {cI cT : ClassId} {ad : Nat → Nat} {F : Nat} {σ : St} {a0 : Int32} {a1 : Int32} {r : Int32} {σ' : St} (C : Cx X (gM D cI cT ad) cX11_goes 6 RX11 1 21 0) (hr : RetZ X (gM D cI cT ad) cX11_goes 6 0 r σ') (h : fX11_goes F σ a0 a1 = some (r, σ')) : WP X (gM D cI cT ad) 6 0 0 σ [(0, .ref (ad 0)), (1, .int a0), (2, .int a1)] [] := by
  unfold fX11_goes at h
  refine w_iconst C 0 dX11_goes_0 rfl (by decide) ?_
  refine w_istore_n C [(3, .int 0), (0, .ref (ad 0)), (1, .int a0), (2, .int a1)] dX11_goes_1 rfl (by decide) rfl ?_
  refine w_sub (lv' := [(3, .int 0), (0, .ref (ad 0)), (1, .int a0), (2, .int a1)]) [0, 1, 2, 3] rfl ?_
  refine lp_w (fun v1 : St × Int32 => WP X (gM D cI cT ad) 6 0 2 v1.1 [(3, .int v1.2), (0, .ref (ad 0)), (1, .int a0), (2, .int a1)] []) (fun K2 hK3 v1 h => ?_) F _ h
  refine w_iload_n C dX11_goes_2 rfl 0 rfl ?_
  refine w_iload_n C dX11_goes_3 rfl 3 rfl ?_
  refine w_icmp_ge C (qt := 115) dX11_goes_4 (by decide) rfl h (fun _ h => ?_) (fun _ h => ?_)
  · refine w_iconst C 1 dX11_goes_115 rfl (by decide) ?_
    exact w_rz2 hr (by decide) h (by decide) dX11_goes_116
  · refine w_aload_n C dX11_goes_7 rfl 1 rfl ?_
    refine w_get C 0 35 (Nat.le_of_ble_eq_true rfl) rfl rfl inB_X11 (by decide) tw6_196 rfl dX11_goes_8 rfl ?_
    refine w_iload_n C dX11_goes_11 rfl 2 rfl ?_
    refine w_iald C 21 2 0 (Nat.le_of_ble_eq_true rfl) (fun _ => rfl) rfl h dX11_goes_12 rfl (fun h => ?_)
    refine w_aload_n C dX11_goes_13 rfl 1 rfl ?_
    refine w_get C 0 2 (Nat.le_of_ble_eq_true rfl) rfl rfl inB_X11 (by decide) tw6_163 rfl dX11_goes_14 rfl ?_
    refine w_aload_n C dX11_goes_17 rfl 1 rfl ?_
    refine w_get C 0 37 (Nat.le_of_ble_eq_true rfl) rfl rfl inB_X11 (by decide) tw6_198 rfl dX11_goes_18 rfl ?_
    refine w_iload_n C dX11_goes_21 rfl 2 rfl ?_
    refine w_iald C 23 2 0 (Nat.le_of_ble_eq_true rfl) (fun _ => rfl) rfl h dX11_goes_22 rfl (fun h => ?_)
    refine w_iald C 3 4 0 (Nat.le_of_ble_eq_true rfl) (fun _ => rfl) rfl h dX11_goes_23 rfl (fun h => ?_)
    refine w_iadd C dX11_goes_24 rfl ?_
    refine w_nm h (fun x4 h => ?_)
    refine w_istore C [(4, .int x4), (3, .int v1.2), (0, .ref (ad 0)), (1, .int a0), (2, .int a1)] dX11_goes_25 rfl (by decide) rfl ?_
    refine w_aload_n C dX11_goes_27 rfl 2 rfl ?_
    refine w_get C 0 36 (Nat.le_of_ble_eq_true rfl) rfl rfl inB_X11 (by decide) tw6_197 rfl dX11_goes_28 rfl ?_
    refine w_iload_n C dX11_goes_31 rfl 3 rfl ?_
    refine w_iald C 22 2 0 (Nat.le_of_ble_eq_true rfl) (fun _ => rfl) rfl h dX11_goes_32 rfl (fun h => ?_)
    refine w_aload_n C dX11_goes_33 rfl 2 rfl ?_
    refine w_get C 0 3 (Nat.le_of_ble_eq_true rfl) rfl rfl inB_X11 (by decide) tw6_164 rfl dX11_goes_34 rfl ?_
    refine w_aload_n C dX11_goes_37 rfl 2 rfl ?_
    refine w_get C 0 37 (Nat.le_of_ble_eq_true rfl) rfl rfl inB_X11 (by decide) tw6_198 rfl dX11_goes_38 rfl ?_
    refine w_iload_n C dX11_goes_41 rfl 3 rfl ?_
    refine w_iald C 23 2 0 (Nat.le_of_ble_eq_true rfl) (fun _ => rfl) rfl h dX11_goes_42 rfl (fun h => ?_)
    refine w_iald C 4 4 0 (Nat.le_of_ble_eq_true rfl) (fun _ => rfl) rfl h dX11_goes_43 rfl (fun h => ?_)
    refine w_iadd C dX11_goes_44 rfl ?_
    refine w_nm h (fun x5 h => ?_)
    refine w_istore C [(5, .int x5), (4, .int x4), (3, .int v1.2), (0, .ref (ad 0)), (1, .int a0), (2, .int a1)] dX11_goes_45 rfl (by decide) rfl ?_
    refine w_aload_n C dX11_goes_47 rfl 3 rfl ?_
    refine w_iload C dX11_goes_48 rfl 1 rfl ?_
    refine bd1_w h (fun r6 hc h => ?_)
    refine w_callVi C (n := 1) (As := [.int x4]) (st := []) 0 (Nat.le_of_ble_eq_true rfl) rfl rfl (cfX11_isOn D cI cT ad (l := X.2.1) C.2.2.1 hc) tw8_32 cy_X11_isOn (by decide +kernel) ⟨Nat.le_of_ble_eq_true rfl, Nat.le_of_ble_eq_true rfl⟩ (by decide) rfl rfl (Nat.le_of_ble_eq_true rfl) dX11_goes_50 rfl ?_
    refine w_if_eq C (qt := 91) dX11_goes_53 (by decide) rfl h (fun _ h => ?_) (fun _ h => ?_)
    · refine w_iconst C 0 dX11_goes_91 rfl (by decide) ?_
      exact w_rz2 hr (by decide) h (by decide) dX11_goes_92
    · refine w_aload_n C dX11_goes_56 rfl 3 rfl ?_
      refine w_iload C dX11_goes_57 rfl 0 rfl ?_
      refine bd1_w h (fun r7 hc h => ?_)
      refine w_callVi C (n := 1) (As := [.int x5]) (st := []) 0 (Nat.le_of_ble_eq_true rfl) rfl rfl (cfX11_isOn D cI cT ad (l := X.2.1) C.2.2.1 hc) tw8_32 cy_X11_isOn (by decide +kernel) ⟨Nat.le_of_ble_eq_true rfl, Nat.le_of_ble_eq_true rfl⟩ (by decide) rfl rfl (Nat.le_of_ble_eq_true rfl) dX11_goes_59 rfl ?_
      refine w_if_eq C (qt := 91) dX11_goes_62 (by decide) rfl h (fun _ h => ?_) (fun _ h => ?_)
      · refine w_iconst C 0 dX11_goes_91 rfl (by decide) ?_
        exact w_rz2 hr (by decide) h (by decide) dX11_goes_92
      · refine w_iload C dX11_goes_65 rfl 1 rfl ?_
        refine w_aload_n C dX11_goes_67 rfl 3 rfl ?_
        refine w_get C 0 35 (Nat.le_of_ble_eq_true rfl) rfl rfl inB_X11 (by decide) tw6_196 rfl dX11_goes_68 rfl ?_
        refine w_iconst C 1 dX11_goes_71 rfl (by decide) ?_
        refine w_iload_n C dX11_goes_72 rfl 4 rfl ?_
        refine w_isub C dX11_goes_73 rfl ?_
        refine w_iald C 21 2 0 (Nat.le_of_ble_eq_true rfl) (fun _ => rfl) rfl h dX11_goes_74 rfl (fun h => ?_)
        refine jn_w (fun v8 : Unit => WP X (gM D cI cT ad) 6 0 93 v1.1 [(5, .int x5), (4, .int x4), (3, .int v1.2), (0, .ref (ad 0)), (1, .int a0), (2, .int a1)] []) h (fun v8 h => ?_) (fun J9 hJ10 h => ?_)
        · refine w_aload_n C dX11_goes_93 rfl 3 rfl ?_
          refine w_get C 0 35 (Nat.le_of_ble_eq_true rfl) rfl rfl inB_X11 (by decide) tw6_196 rfl dX11_goes_94 rfl ?_
          refine w_iload_n C dX11_goes_97 rfl 4 rfl ?_
          refine w_iload C dX11_goes_98 rfl 1 rfl ?_
          refine w_iast C 21 2 0 (Nat.le_of_ble_eq_true rfl) (fun _ => rfl) rfl h dX11_goes_100 rfl (fun h => ?_)
          refine w_nst h (fun u11 h => ?_)
          refine w_aload_n C dX11_goes_101 rfl 3 rfl ?_
          refine w_get C 0 36 (Nat.le_of_ble_eq_true rfl) rfl rfl inB_X11 (by decide) tw6_197 rfl dX11_goes_102 rfl ?_
          refine w_iload_n C dX11_goes_105 rfl 4 rfl ?_
          refine w_iload C dX11_goes_106 rfl 0 rfl ?_
          refine w_iast C 22 2 0 (Nat.le_of_ble_eq_true rfl) (fun _ => rfl) rfl h dX11_goes_108 rfl (fun h => ?_)
          refine w_nst h (fun u12 h => ?_)
          refine w_iinc (j := 2) C (v1.2 + 1) [(3, .int (v1.2 + 1)), (5, .int x5), (4, .int x4), (0, .ref (ad 0)), (1, .int a0), (2, .int a1)] dX11_goes_109 rfl rfl rfl (by decide) rfl ?_
          refine w_goto (q := 2) C dX11_goes_112 (by decide) ?_
          exact w_sub (lv' := [(3, .int (v1.2 + 1)), (0, .ref (ad 0)), (1, .int a0), (2, .int a1)]) [0, 3, 4, 5] rfl (hK3 ((u12, v1.2 + 1)) h)
        · refine w_icmp_ne C (qt := 93) dX11_goes_75 (by decide) rfl h (fun _ h => ?_) (fun _ h => ?_)
          · exact w_sub (lv' := [(5, .int x5), (4, .int x4), (3, .int v1.2), (0, .ref (ad 0)), (1, .int a0), (2, .int a1)]) [0, 1, 2, 3, 4, 5] rfl (hJ10 (()) h)
          · refine w_iload C dX11_goes_78 rfl 0 rfl ?_
            refine w_aload_n C dX11_goes_80 rfl 3 rfl ?_
            refine w_get C 0 36 (Nat.le_of_ble_eq_true rfl) rfl rfl inB_X11 (by decide) tw6_197 rfl dX11_goes_81 rfl ?_
            refine w_iconst C 1 dX11_goes_84 rfl (by decide) ?_
            refine w_iload_n C dX11_goes_85 rfl 4 rfl ?_
            refine w_isub C dX11_goes_86 rfl ?_
            refine w_iald C 22 2 0 (Nat.le_of_ble_eq_true rfl) (fun _ => rfl) rfl h dX11_goes_87 rfl (fun h => ?_)
            refine w_icmp_ne C (qt := 93) dX11_goes_88 (by decide) rfl h (fun _ h => ?_) (fun _ h => ?_)
            · exact w_sub (lv' := [(5, .int x5), (4, .int x4), (3, .int v1.2), (0, .ref (ad 0)), (1, .int a0), (2, .int a1)]) [0, 1, 2, 3, 4, 5] rfl (hJ10 (()) h)
            · refine w_iconst C 0 dX11_goes_91 rfl (by decide) ?_
              exact w_rz2 hr (by decide) h (by decide) dX11_goes_92
theorem cfX11_goes (D : va_G) (cI cT : ClassId) (ad : Nat → Nat) {l : Launch} (had : gAp (gM D cI cT ad)) {F : Nat} {σ : St} {a0 : Int32} {a1 : Int32} {r : Int32} {σ' : St} (h : fX11_goes F σ a0 a1 = some (r, σ')) : MI l yX11_goes (wB yX11_goes cX11_goes 6 (some .boolean)) 1 21 (gM D cI cT ad) [.ref (ad 0), .int a0, .int a1] σ r σ' := mk_MZ had (by decide +kernel) (Nat.le_of_ble_eq_true rfl) (fun X hX C hr => wfX11_goes C hr h)

def fX11_bow (F : Nat) (σ : St) : Option St := nm (σ 21 0) fun x1 => nm (σ 22 0) fun x2 => nm (up σ 21 0 (σ 21 1)) fun u3 => nm (up u3 22 0 (u3 22 1)) fun u4 => nm (up u4 21 1 x1) fun u5 => nm (up u5 22 1 x2) fun u6 => some u6
set_option maxRecDepth 20000 in
theorem wfX11_bow {X : XT} {D : va_G} {cI cT : ClassId} {ad : Nat → Nat} {F : Nat} {σ : St}  {σ' : St} (C : Cx X (gM D cI cT ad) cX11_bow 3 RX11 0 0 0) (hr : RetV X (gM D cI cT ad) cX11_bow 3 0 σ') (h : fX11_bow F σ = some σ') : WP X (gM D cI cT ad) 3 0 0 σ [(0, .ref (ad 0))] [] := by
  unfold fX11_bow at h
  refine w_aload_n C dX11_bow_0 rfl 0 rfl ?_
  refine w_get C 0 35 (Nat.le_of_ble_eq_true rfl) rfl rfl inB_X11 (by decide) tw6_196 rfl dX11_bow_1 rfl ?_
  refine w_iconst C 0 dX11_bow_4 rfl (by decide) ?_
  refine w_ialdc C 21 2 0 0 (Nat.le_of_ble_eq_true rfl) (fun _ => rfl) rfl (by decide) (by show ¬ (_ ∨ _); decide) dX11_bow_5 rfl ?_
  refine w_nm h (fun x1 h => ?_)
  refine w_istore_n C [(1, .int x1), (0, .ref (ad 0))] dX11_bow_6 rfl (by decide) rfl ?_
  refine w_aload_n C dX11_bow_7 rfl 1 rfl ?_
  refine w_get C 0 36 (Nat.le_of_ble_eq_true rfl) rfl rfl inB_X11 (by decide) tw6_197 rfl dX11_bow_8 rfl ?_
  refine w_iconst C 0 dX11_bow_11 rfl (by decide) ?_
  refine w_ialdc C 22 2 0 0 (Nat.le_of_ble_eq_true rfl) (fun _ => rfl) rfl (by decide) (by show ¬ (_ ∨ _); decide) dX11_bow_12 rfl ?_
  refine w_nm h (fun x2 h => ?_)
  refine w_istore_n C [(2, .int x2), (1, .int x1), (0, .ref (ad 0))] dX11_bow_13 rfl (by decide) rfl ?_
  refine w_aload_n C dX11_bow_14 rfl 2 rfl ?_
  refine w_get C 0 35 (Nat.le_of_ble_eq_true rfl) rfl rfl inB_X11 (by decide) tw6_196 rfl dX11_bow_15 rfl ?_
  refine w_iconst C 0 dX11_bow_18 rfl (by decide) ?_
  refine w_aload_n C dX11_bow_19 rfl 2 rfl ?_
  refine w_get C 0 35 (Nat.le_of_ble_eq_true rfl) rfl rfl inB_X11 (by decide) tw6_196 rfl dX11_bow_20 rfl ?_
  refine w_iconst C 1 dX11_bow_23 rfl (by decide) ?_
  refine w_ialdc C 21 2 0 1 (Nat.le_of_ble_eq_true rfl) (fun _ => rfl) rfl (by decide) (by show ¬ (_ ∨ _); decide) dX11_bow_24 rfl ?_
  refine w_iastc C 21 2 0 0 (Nat.le_of_ble_eq_true rfl) (fun _ => rfl) rfl (by decide) (by show ¬ (_ ∨ _); decide) dX11_bow_25 rfl ?_
  refine w_nst h (fun u3 h => ?_)
  refine w_aload_n C dX11_bow_26 rfl 2 rfl ?_
  refine w_get C 0 36 (Nat.le_of_ble_eq_true rfl) rfl rfl inB_X11 (by decide) tw6_197 rfl dX11_bow_27 rfl ?_
  refine w_iconst C 0 dX11_bow_30 rfl (by decide) ?_
  refine w_aload_n C dX11_bow_31 rfl 2 rfl ?_
  refine w_get C 0 36 (Nat.le_of_ble_eq_true rfl) rfl rfl inB_X11 (by decide) tw6_197 rfl dX11_bow_32 rfl ?_
  refine w_iconst C 1 dX11_bow_35 rfl (by decide) ?_
  refine w_ialdc C 22 2 0 1 (Nat.le_of_ble_eq_true rfl) (fun _ => rfl) rfl (by decide) (by show ¬ (_ ∨ _); decide) dX11_bow_36 rfl ?_
  refine w_iastc C 22 2 0 0 (Nat.le_of_ble_eq_true rfl) (fun _ => rfl) rfl (by decide) (by show ¬ (_ ∨ _); decide) dX11_bow_37 rfl ?_
  refine w_nst h (fun u4 h => ?_)
  refine w_aload_n C dX11_bow_38 rfl 2 rfl ?_
  refine w_get C 0 35 (Nat.le_of_ble_eq_true rfl) rfl rfl inB_X11 (by decide) tw6_196 rfl dX11_bow_39 rfl ?_
  refine w_iconst C 1 dX11_bow_42 rfl (by decide) ?_
  refine w_iload_n C dX11_bow_43 rfl 1 rfl ?_
  refine w_iastc C 21 2 0 1 (Nat.le_of_ble_eq_true rfl) (fun _ => rfl) rfl (by decide) (by show ¬ (_ ∨ _); decide) dX11_bow_44 rfl ?_
  refine w_nst h (fun u5 h => ?_)
  refine w_aload_n C dX11_bow_45 rfl 2 rfl ?_
  refine w_get C 0 36 (Nat.le_of_ble_eq_true rfl) rfl rfl inB_X11 (by decide) tw6_197 rfl dX11_bow_46 rfl ?_
  refine w_iconst C 1 dX11_bow_49 rfl (by decide) ?_
  refine w_iload_n C dX11_bow_50 rfl 0 rfl ?_
  refine w_iastc C 22 2 0 1 (Nat.le_of_ble_eq_true rfl) (fun _ => rfl) rfl (by decide) (by show ¬ (_ ∨ _); decide) dX11_bow_51 rfl ?_
  refine w_nst h (fun u6 h => ?_)
  exact w_rv hr h (by decide) dX11_bow_52
theorem cfX11_bow (D : va_G) (cI cT : ClassId) (ad : Nat → Nat) {l : Launch} (had : gAp (gM D cI cT ad)) {F : Nat} {σ : St}  {σ' : St} (h : fX11_bow F σ = some σ') : MV l yX11_bow (wB yX11_bow cX11_bow 3 none) 0 0 (gM D cI cT ad) [.ref (ad 0)] σ σ' := mk_MV had (by decide +kernel) (Nat.le_of_ble_eq_true rfl) (fun X hX C hr => wfX11_bow C hr h)

def fX11_dances (F : Nat) (σ : St) (a0 : Int32) (a1 : Int32) : Option (Int32 × St) := nm ((10 * a0) + a1) fun x1 => nm (σ 21 0) fun x2 => nm (σ 22 0) fun x3 => nm (σ 21 1) fun x4 => nm (σ 22 1) fun x5 => lp (fun (K7 : (St × Int32 × Int32) → Option (Int32 × St)) (v6 : St × Int32 × Int32) => jn (fun v9 : Unit => ckI (x1) 160 (jn (fun v12 : St => if v6.2.2 = 0 then (nm (up v12 21 0 x2) fun u15 => nm (up u15 22 0 x3) fun u16 => nm (up u16 21 1 x4) fun u17 => nm (up u17 22 1 x5) fun u18 => some (0, u18)) else some (1, v12)) fun J13 => if (v6.1 11 (Int32.toNatClampNeg x1)) = (4 : Int32) then (bd1 (fX11_bow F v6.1) fun u19 => J13 u19) else J13 v6.1)) fun J10 => if (2 : Int32) ≤ v6.2.1 then (J10 (())) else if v6.2.2 = 0 then (J10 (())) else ckI (x1) 160 (jn (fun v20 : Unit => ckI (x1) 160 (jn (fun v23 : St => ckI (x1) 160 (jn (fun v26 : Unit => ckI (x1) 160 (bd1 (fX11_stiff F v23 a0 v6.2.1) fun r29 => bd2 (fX11_goes F v23 v6.2.1 ((v23 13 (Int32.toNatClampNeg x1)) - r29)) fun r30 u31 => K7 ((u31, v6.2.1 + 1, r30)))) fun J27 => if (v23 11 (Int32.toNatClampNeg x1)) = 0 then (J27 (())) else ckI (x1) 160 (if (v23 11 (Int32.toNatClampNeg x1)) = (2 : Int32) then (J27 (())) else K7 ((v23, v6.2.1 + 1, v6.2.2))))) fun J24 => if (v6.1 11 (Int32.toNatClampNeg x1)) = (1 : Int32) then (ckI (v6.2.1) 2 (ckI (x1) 160 (ckI (v6.2.1) 2 (nm (up v6.1 23 (Int32.toNatClampNeg v6.2.1) (((v6.1 23 (Int32.toNatClampNeg v6.2.1)) + (v6.1 13 (Int32.toNatClampNeg x1))) - ((v6.1 23 (Int32.toNatClampNeg v6.2.1)) + (v6.1 13 (Int32.toNatClampNeg x1))) / 4 * 4)) fun u32 => J24 u32)))) else J24 v6.1)) fun J21 => if (v6.1 12 (Int32.toNatClampNeg x1)) = (2 : Int32) then (J21 (())) else ckI (x1) 160 (if (v6.1 12 (Int32.toNatClampNeg x1)) = v6.2.1 then (J21 (())) else K7 ((v6.1, v6.2.1 + 1, v6.2.2))))) F ((σ, 0, 1))
set_option maxRecDepth 20000 in
theorem wfX11_dances {X : XT} {D : va_G} {cI cT : ClassId} {ad : Nat → Nat} {F : Nat} {σ : St} {a0 : Int32} {a1 : Int32} {r : Int32} {σ' : St} (C : Cx X (gM D cI cT ad) cX11_dances 10 RX11 2 46 0) (hr : RetZ X (gM D cI cT ad) cX11_dances 10 0 r σ') (h : fX11_dances F σ a0 a1 = some (r, σ')) : WP X (gM D cI cT ad) 10 0 0 σ [(0, .ref (ad 0)), (1, .int a0), (2, .int a1)] [] := by
  unfold fX11_dances at h
  refine w_bipush C 10 dX11_dances_0 rfl (by decide) ?_
  refine w_iload_n C dX11_dances_2 rfl 1 rfl ?_
  refine w_imul C dX11_dances_3 rfl ?_
  refine w_iload_n C dX11_dances_4 rfl 2 rfl ?_
  refine w_iadd C dX11_dances_5 rfl ?_
  refine w_nm h (fun x1 h => ?_)
  refine w_istore_n C [(3, .int x1), (0, .ref (ad 0)), (1, .int a0), (2, .int a1)] dX11_dances_6 rfl (by decide) rfl ?_
  refine w_aload_n C dX11_dances_7 rfl 1 rfl ?_
  refine w_get C 0 35 (Nat.le_of_ble_eq_true rfl) rfl rfl inB_X11 (by decide) tw6_196 rfl dX11_dances_8 rfl ?_
  refine w_iconst C 0 dX11_dances_11 rfl (by decide) ?_
  refine w_ialdc C 21 2 0 0 (Nat.le_of_ble_eq_true rfl) (fun _ => rfl) rfl (by decide) (by show ¬ (_ ∨ _); decide) dX11_dances_12 rfl ?_
  refine w_nm h (fun x2 h => ?_)
  refine w_istore C [(4, .int x2), (3, .int x1), (0, .ref (ad 0)), (1, .int a0), (2, .int a1)] dX11_dances_13 rfl (by decide) rfl ?_
  refine w_aload_n C dX11_dances_15 rfl 2 rfl ?_
  refine w_get C 0 36 (Nat.le_of_ble_eq_true rfl) rfl rfl inB_X11 (by decide) tw6_197 rfl dX11_dances_16 rfl ?_
  refine w_iconst C 0 dX11_dances_19 rfl (by decide) ?_
  refine w_ialdc C 22 2 0 0 (Nat.le_of_ble_eq_true rfl) (fun _ => rfl) rfl (by decide) (by show ¬ (_ ∨ _); decide) dX11_dances_20 rfl ?_
  refine w_nm h (fun x3 h => ?_)
  refine w_istore C [(5, .int x3), (4, .int x2), (3, .int x1), (0, .ref (ad 0)), (1, .int a0), (2, .int a1)] dX11_dances_21 rfl (by decide) rfl ?_
  refine w_aload_n C dX11_dances_23 rfl 3 rfl ?_
  refine w_get C 0 35 (Nat.le_of_ble_eq_true rfl) rfl rfl inB_X11 (by decide) tw6_196 rfl dX11_dances_24 rfl ?_
  refine w_iconst C 1 dX11_dances_27 rfl (by decide) ?_
  refine w_ialdc C 21 2 0 1 (Nat.le_of_ble_eq_true rfl) (fun _ => rfl) rfl (by decide) (by show ¬ (_ ∨ _); decide) dX11_dances_28 rfl ?_
  refine w_nm h (fun x4 h => ?_)
  refine w_istore C [(6, .int x4), (5, .int x3), (4, .int x2), (3, .int x1), (0, .ref (ad 0)), (1, .int a0), (2, .int a1)] dX11_dances_29 rfl (by decide) rfl ?_
  refine w_aload_n C dX11_dances_31 rfl 4 rfl ?_
  refine w_get C 0 36 (Nat.le_of_ble_eq_true rfl) rfl rfl inB_X11 (by decide) tw6_197 rfl dX11_dances_32 rfl ?_
  refine w_iconst C 1 dX11_dances_35 rfl (by decide) ?_
  refine w_ialdc C 22 2 0 1 (Nat.le_of_ble_eq_true rfl) (fun _ => rfl) rfl (by decide) (by show ¬ (_ ∨ _); decide) dX11_dances_36 rfl ?_
  refine w_nm h (fun x5 h => ?_)
  refine w_istore C [(7, .int x5), (6, .int x4), (5, .int x3), (4, .int x2), (3, .int x1), (0, .ref (ad 0)), (1, .int a0), (2, .int a1)] dX11_dances_37 rfl (by decide) rfl ?_
  refine w_iconst C 1 dX11_dances_39 rfl (by decide) ?_
  refine w_istore C [(8, .int 1), (7, .int x5), (6, .int x4), (5, .int x3), (4, .int x2), (3, .int x1), (0, .ref (ad 0)), (1, .int a0), (2, .int a1)] dX11_dances_40 rfl (by decide) rfl ?_
  refine w_iconst C 0 dX11_dances_42 rfl (by decide) ?_
  refine w_istore C [(9, .int 0), (8, .int 1), (7, .int x5), (6, .int x4), (5, .int x3), (4, .int x2), (3, .int x1), (0, .ref (ad 0)), (1, .int a0), (2, .int a1)] dX11_dances_43 rfl (by decide) rfl ?_
  refine w_sub (lv' := [(9, .int 0), (8, .int 1), (7, .int x5), (6, .int x4), (5, .int x3), (4, .int x2), (3, .int x1), (0, .ref (ad 0)), (1, .int a0)]) [0, 1, 2, 3, 4, 5, 6, 7, 8] rfl ?_
  refine lp_w (fun v6 : St × Int32 × Int32 => WP X (gM D cI cT ad) 10 0 45 v6.1 [(9, .int v6.2.1), (8, .int v6.2.2), (7, .int x5), (6, .int x4), (5, .int x3), (4, .int x2), (3, .int x1), (0, .ref (ad 0)), (1, .int a0)] []) (fun K7 hK8 v6 h => ?_) F _ h
  refine w_iload C dX11_dances_45 rfl 0 rfl ?_
  refine w_iconst C 2 dX11_dances_47 rfl (by decide) ?_
  refine jn_w (fun v9 : Unit => WP X (gM D cI cT ad) 10 0 160 v6.1 [(8, .int v6.2.2), (7, .int x5), (6, .int x4), (5, .int x3), (4, .int x2), (3, .int x1), (0, .ref (ad 0))] []) h (fun v9 h => ?_) (fun J10 hJ11 h => ?_)
  · refine w_aload_n C dX11_dances_160 rfl 6 rfl ?_
    refine w_get C 0 11 (Nat.le_of_ble_eq_true rfl) rfl rfl inB_X11 (by decide) tw6_172 rfl dX11_dances_161 rfl ?_
    refine w_iload_n C dX11_dances_164 rfl 5 rfl ?_
    refine w_iald C 11 160 0 (Nat.le_of_ble_eq_true rfl) (fun _ => rfl) rfl h dX11_dances_165 rfl (fun h => ?_)
    refine w_iconst C 4 dX11_dances_166 rfl (by decide) ?_
    refine jn_w (fun v12 : St => WP X (gM D cI cT ad) 10 0 174 v12 [(8, .int v6.2.2), (7, .int x5), (6, .int x4), (5, .int x3), (4, .int x2), (0, .ref (ad 0))] []) h (fun v12 h => ?_) (fun J13 hJ14 h => ?_)
    · refine w_iload C dX11_dances_174 rfl 0 rfl ?_
      refine w_if_eq C (qt := 181) dX11_dances_176 (by decide) rfl h (fun _ h => ?_) (fun _ h => ?_)
      · refine w_aload_n C dX11_dances_181 rfl 5 rfl ?_
        refine w_get C 0 35 (Nat.le_of_ble_eq_true rfl) rfl rfl inB_X11 (by decide) tw6_196 rfl dX11_dances_182 rfl ?_
        refine w_iconst C 0 dX11_dances_185 rfl (by decide) ?_
        refine w_iload C dX11_dances_186 rfl 4 rfl ?_
        refine w_iastc C 21 2 0 0 (Nat.le_of_ble_eq_true rfl) (fun _ => rfl) rfl (by decide) (by show ¬ (_ ∨ _); decide) dX11_dances_188 rfl ?_
        refine w_nst h (fun u15 h => ?_)
        refine w_aload_n C dX11_dances_189 rfl 5 rfl ?_
        refine w_get C 0 36 (Nat.le_of_ble_eq_true rfl) rfl rfl inB_X11 (by decide) tw6_197 rfl dX11_dances_190 rfl ?_
        refine w_iconst C 0 dX11_dances_193 rfl (by decide) ?_
        refine w_iload C dX11_dances_194 rfl 3 rfl ?_
        refine w_iastc C 22 2 0 0 (Nat.le_of_ble_eq_true rfl) (fun _ => rfl) rfl (by decide) (by show ¬ (_ ∨ _); decide) dX11_dances_196 rfl ?_
        refine w_nst h (fun u16 h => ?_)
        refine w_aload_n C dX11_dances_197 rfl 5 rfl ?_
        refine w_get C 0 35 (Nat.le_of_ble_eq_true rfl) rfl rfl inB_X11 (by decide) tw6_196 rfl dX11_dances_198 rfl ?_
        refine w_iconst C 1 dX11_dances_201 rfl (by decide) ?_
        refine w_iload C dX11_dances_202 rfl 2 rfl ?_
        refine w_iastc C 21 2 0 1 (Nat.le_of_ble_eq_true rfl) (fun _ => rfl) rfl (by decide) (by show ¬ (_ ∨ _); decide) dX11_dances_204 rfl ?_
        refine w_nst h (fun u17 h => ?_)
        refine w_aload_n C dX11_dances_205 rfl 5 rfl ?_
        refine w_get C 0 36 (Nat.le_of_ble_eq_true rfl) rfl rfl inB_X11 (by decide) tw6_197 rfl dX11_dances_206 rfl ?_
        refine w_iconst C 1 dX11_dances_209 rfl (by decide) ?_
        refine w_iload C dX11_dances_210 rfl 1 rfl ?_
        refine w_iastc C 22 2 0 1 (Nat.le_of_ble_eq_true rfl) (fun _ => rfl) rfl (by decide) (by show ¬ (_ ∨ _); decide) dX11_dances_212 rfl ?_
        refine w_nst h (fun u18 h => ?_)
        refine w_iconst C 0 dX11_dances_213 rfl (by decide) ?_
        exact w_rz2 hr (by decide) h (by decide) dX11_dances_214
      · refine w_iconst C 1 dX11_dances_179 rfl (by decide) ?_
        exact w_rz2 hr (by decide) h (by decide) dX11_dances_180
    · refine w_icmp_ne C (qt := 174) dX11_dances_167 (by decide) rfl h (fun _ h => ?_) (fun _ h => ?_)
      · exact w_sub (lv' := [(8, .int v6.2.2), (7, .int x5), (6, .int x4), (5, .int x3), (4, .int x2), (0, .ref (ad 0))]) [0, 1, 2, 3, 4, 6] rfl (hJ14 v6.1 h)
      · refine w_aload_n C dX11_dances_170 rfl 6 rfl ?_
        refine bd1_w h (fun u19 hc h => ?_)
        refine w_callVv C (n := 0) (As := []) (st := []) 0 (Nat.le_of_ble_eq_true rfl) rfl rfl (cfX11_bow D cI cT ad (l := X.2.1) C.2.2.1 hc) tw8_36 cy_X11_bow (by decide +kernel) ⟨Nat.le_of_ble_eq_true rfl, Nat.le_of_ble_eq_true rfl⟩ (by decide) rfl rfl (Nat.le_of_ble_eq_true rfl) dX11_dances_171 rfl ?_
        exact w_sub (lv' := [(8, .int v6.2.2), (7, .int x5), (6, .int x4), (5, .int x3), (4, .int x2), (0, .ref (ad 0))]) [0, 1, 2, 3, 4, 6] rfl (hJ14 u19 h)
  · refine w_icmp_ge C (qt := 160) dX11_dances_48 (by decide) rfl h (fun _ h => ?_) (fun _ h => ?_)
    · exact w_sub (lv' := [(8, .int v6.2.2), (7, .int x5), (6, .int x4), (5, .int x3), (4, .int x2), (3, .int x1), (0, .ref (ad 0))]) [1, 2, 3, 4, 5, 6, 7] rfl (hJ11 (()) h)
    · refine w_iload C dX11_dances_51 rfl 1 rfl ?_
      refine w_if_eq C (qt := 160) dX11_dances_53 (by decide) rfl h (fun _ h => ?_) (fun _ h => ?_)
      · exact w_sub (lv' := [(8, .int v6.2.2), (7, .int x5), (6, .int x4), (5, .int x3), (4, .int x2), (3, .int x1), (0, .ref (ad 0))]) [1, 2, 3, 4, 5, 6, 7] rfl (hJ11 (()) h)
      · refine w_aload_n C dX11_dances_56 rfl 7 rfl ?_
        refine w_get C 0 12 (Nat.le_of_ble_eq_true rfl) rfl rfl inB_X11 (by decide) tw6_173 rfl dX11_dances_57 rfl ?_
        refine w_iload_n C dX11_dances_60 rfl 6 rfl ?_
        refine w_iald C 12 160 0 (Nat.le_of_ble_eq_true rfl) (fun _ => rfl) rfl h dX11_dances_61 rfl (fun h => ?_)
        refine w_iconst C 2 dX11_dances_62 rfl (by decide) ?_
        refine jn_w (fun v20 : Unit => WP X (gM D cI cT ad) 10 0 80 v6.1 [(9, .int v6.2.1), (8, .int v6.2.2), (7, .int x5), (6, .int x4), (5, .int x3), (4, .int x2), (3, .int x1), (0, .ref (ad 0)), (1, .int a0)] []) h (fun v20 h => ?_) (fun J21 hJ22 h => ?_)
        · refine w_aload_n C dX11_dances_80 rfl 7 rfl ?_
          refine w_get C 0 11 (Nat.le_of_ble_eq_true rfl) rfl rfl inB_X11 (by decide) tw6_172 rfl dX11_dances_81 rfl ?_
          refine w_iload_n C dX11_dances_84 rfl 6 rfl ?_
          refine w_iald C 11 160 0 (Nat.le_of_ble_eq_true rfl) (fun _ => rfl) rfl h dX11_dances_85 rfl (fun h => ?_)
          refine w_iconst C 1 dX11_dances_86 rfl (by decide) ?_
          refine jn_w (fun v23 : St => WP X (gM D cI cT ad) 10 0 113 v23 [(9, .int v6.2.1), (8, .int v6.2.2), (7, .int x5), (6, .int x4), (5, .int x3), (4, .int x2), (3, .int x1), (0, .ref (ad 0)), (1, .int a0)] []) h (fun v23 h => ?_) (fun J24 hJ25 h => ?_)
          · refine w_aload_n C dX11_dances_113 rfl 7 rfl ?_
            refine w_get C 0 11 (Nat.le_of_ble_eq_true rfl) rfl rfl inB_X11 (by decide) tw6_172 rfl dX11_dances_114 rfl ?_
            refine w_iload_n C dX11_dances_117 rfl 6 rfl ?_
            refine w_iald C 11 160 0 (Nat.le_of_ble_eq_true rfl) (fun _ => rfl) rfl h dX11_dances_118 rfl (fun h => ?_)
            refine jn_w (fun v26 : Unit => WP X (gM D cI cT ad) 10 0 132 v23 [(9, .int v6.2.1), (7, .int x5), (6, .int x4), (5, .int x3), (4, .int x2), (3, .int x1), (0, .ref (ad 0)), (1, .int a0)] []) h (fun v26 h => ?_) (fun J27 hJ28 h => ?_)
            · refine w_aload_n C dX11_dances_132 rfl 6 rfl ?_
              refine w_iload C dX11_dances_133 rfl 0 rfl ?_
              refine w_aload_n C dX11_dances_135 rfl 6 rfl ?_
              refine w_get C 0 13 (Nat.le_of_ble_eq_true rfl) rfl rfl inB_X11 (by decide) tw6_174 rfl dX11_dances_136 rfl ?_
              refine w_iload_n C dX11_dances_139 rfl 5 rfl ?_
              refine w_iald C 13 160 0 (Nat.le_of_ble_eq_true rfl) (fun _ => rfl) rfl h dX11_dances_140 rfl (fun h => ?_)
              refine w_aload_n C dX11_dances_141 rfl 6 rfl ?_
              refine w_iload_n C dX11_dances_142 rfl 7 rfl ?_
              refine w_iload C dX11_dances_143 rfl 0 rfl ?_
              refine bd1_w h (fun r29 hc h => ?_)
              refine w_callVi C (n := 2) (As := [.int a0, .int v6.2.1]) (st := [.int (v23 13 (Int32.toNatClampNeg x1)), .int v6.2.1, .ref (ad 0)]) 0 (Nat.le_of_ble_eq_true rfl) rfl rfl (cfX11_stiff D cI cT ad (l := X.2.1) C.2.2.1 hc) tw8_24 cy_X11_stiff (by decide +kernel) ⟨Nat.le_of_ble_eq_true rfl, Nat.le_of_ble_eq_true rfl⟩ (by decide) rfl rfl (Nat.le_of_ble_eq_true rfl) dX11_dances_145 rfl ?_
              refine w_isub C dX11_dances_148 rfl ?_
              refine bd2_w h (fun r30 u31 hc h => ?_)
              refine w_callVi C (n := 2) (As := [.int v6.2.1, .int ((v23 13 (Int32.toNatClampNeg x1)) - r29)]) (st := []) 0 (Nat.le_of_ble_eq_true rfl) rfl rfl (cfX11_goes D cI cT ad (l := X.2.1) C.2.2.1 hc) tw8_28 cy_X11_goes (by decide +kernel) ⟨Nat.le_of_ble_eq_true rfl, Nat.le_of_ble_eq_true rfl⟩ (by decide) rfl rfl (Nat.le_of_ble_eq_true rfl) dX11_dances_149 rfl ?_
              refine w_istore C [(8, .int r30), (9, .int v6.2.1), (7, .int x5), (6, .int x4), (5, .int x3), (4, .int x2), (3, .int x1), (0, .ref (ad 0)), (1, .int a0)] dX11_dances_152 rfl (by decide) rfl ?_
              refine w_iinc (j := 1) C (v6.2.1 + 1) [(9, .int (v6.2.1 + 1)), (8, .int r30), (7, .int x5), (6, .int x4), (5, .int x3), (4, .int x2), (3, .int x1), (0, .ref (ad 0)), (1, .int a0)] dX11_dances_154 rfl rfl rfl (by decide) rfl ?_
              refine w_goto (q := 45) C dX11_dances_157 (by decide) ?_
              exact w_sub (lv' := [(9, .int (v6.2.1 + 1)), (8, .int r30), (7, .int x5), (6, .int x4), (5, .int x3), (4, .int x2), (3, .int x1), (0, .ref (ad 0)), (1, .int a0)]) [0, 1, 2, 3, 4, 5, 6, 7, 8] rfl (hK8 ((u31, v6.2.1 + 1, r30)) h)
            · refine w_if_eq C (qt := 132) dX11_dances_119 (by decide) rfl h (fun _ h => ?_) (fun _ h => ?_)
              · exact w_sub (lv' := [(9, .int v6.2.1), (7, .int x5), (6, .int x4), (5, .int x3), (4, .int x2), (3, .int x1), (0, .ref (ad 0)), (1, .int a0)]) [0, 2, 3, 4, 5, 6, 7, 8] rfl (hJ28 (()) h)
              · refine w_aload_n C dX11_dances_122 rfl 7 rfl ?_
                refine w_get C 0 11 (Nat.le_of_ble_eq_true rfl) rfl rfl inB_X11 (by decide) tw6_172 rfl dX11_dances_123 rfl ?_
                refine w_iload_n C dX11_dances_126 rfl 6 rfl ?_
                refine w_iald C 11 160 0 (Nat.le_of_ble_eq_true rfl) (fun _ => rfl) rfl h dX11_dances_127 rfl (fun h => ?_)
                refine w_iconst C 2 dX11_dances_128 rfl (by decide) ?_
                refine w_icmp_ne C (qt := 154) dX11_dances_129 (by decide) rfl h (fun _ h => ?_) (fun _ h => ?_)
                · refine w_iinc (j := 0) C (v6.2.1 + 1) [(9, .int (v6.2.1 + 1)), (8, .int v6.2.2), (7, .int x5), (6, .int x4), (5, .int x3), (4, .int x2), (3, .int x1), (0, .ref (ad 0)), (1, .int a0)] dX11_dances_154 rfl rfl rfl (by decide) rfl ?_
                  refine w_goto (q := 45) C dX11_dances_157 (by decide) ?_
                  exact w_sub (lv' := [(9, .int (v6.2.1 + 1)), (8, .int v6.2.2), (7, .int x5), (6, .int x4), (5, .int x3), (4, .int x2), (3, .int x1), (0, .ref (ad 0)), (1, .int a0)]) [0, 1, 2, 3, 4, 5, 6, 7, 8] rfl (hK8 ((v23, v6.2.1 + 1, v6.2.2)) h)
                · exact w_sub (lv' := [(9, .int v6.2.1), (7, .int x5), (6, .int x4), (5, .int x3), (4, .int x2), (3, .int x1), (0, .ref (ad 0)), (1, .int a0)]) [0, 2, 3, 4, 5, 6, 7, 8] rfl (hJ28 (()) h)
          · refine w_icmp_ne C (qt := 113) dX11_dances_87 (by decide) rfl h (fun _ h => ?_) (fun _ h => ?_)
            · exact w_sub (lv' := [(9, .int v6.2.1), (8, .int v6.2.2), (7, .int x5), (6, .int x4), (5, .int x3), (4, .int x2), (3, .int x1), (0, .ref (ad 0)), (1, .int a0)]) [0, 1, 2, 3, 4, 5, 6, 7, 8] rfl (hJ25 v6.1 h)
            · refine w_aload_n C dX11_dances_90 rfl 7 rfl ?_
              refine w_get C 0 37 (Nat.le_of_ble_eq_true rfl) rfl rfl inB_X11 (by decide) tw6_198 rfl dX11_dances_91 rfl ?_
              refine w_iload C dX11_dances_94 rfl 0 rfl ?_
              refine w_aload_n C dX11_dances_96 rfl 7 rfl ?_
              refine w_get C 0 37 (Nat.le_of_ble_eq_true rfl) rfl rfl inB_X11 (by decide) tw6_198 rfl dX11_dances_97 rfl ?_
              refine w_iload C dX11_dances_100 rfl 0 rfl ?_
              refine w_iald C 23 2 0 (Nat.le_of_ble_eq_true rfl) (fun _ => rfl) rfl h dX11_dances_102 rfl (fun h => ?_)
              refine w_aload_n C dX11_dances_103 rfl 7 rfl ?_
              refine w_get C 0 13 (Nat.le_of_ble_eq_true rfl) rfl rfl inB_X11 (by decide) tw6_174 rfl dX11_dances_104 rfl ?_
              refine w_iload_n C dX11_dances_107 rfl 6 rfl ?_
              refine w_iald C 13 160 0 (Nat.le_of_ble_eq_true rfl) (fun _ => rfl) rfl h dX11_dances_108 rfl (fun h => ?_)
              refine w_iadd C dX11_dances_109 rfl ?_
              refine w_iconst C 4 dX11_dances_110 rfl (by decide) ?_
              refine w_irem C (by decide) dX11_dances_111 rfl ?_
              refine w_iast C 23 2 0 (Nat.le_of_ble_eq_true rfl) (fun _ => rfl) rfl h dX11_dances_112 rfl (fun h => ?_)
              refine w_nst h (fun u32 h => ?_)
              exact w_sub (lv' := [(9, .int v6.2.1), (8, .int v6.2.2), (7, .int x5), (6, .int x4), (5, .int x3), (4, .int x2), (3, .int x1), (0, .ref (ad 0)), (1, .int a0)]) [0, 1, 2, 3, 4, 5, 6, 7, 8] rfl (hJ25 u32 h)
        · refine w_icmp_eq C (qt := 80) dX11_dances_63 (by decide) rfl h (fun _ h => ?_) (fun _ h => ?_)
          · exact w_sub (lv' := [(9, .int v6.2.1), (8, .int v6.2.2), (7, .int x5), (6, .int x4), (5, .int x3), (4, .int x2), (3, .int x1), (0, .ref (ad 0)), (1, .int a0)]) [0, 1, 2, 3, 4, 5, 6, 7, 8] rfl (hJ22 (()) h)
          · refine w_aload_n C dX11_dances_66 rfl 7 rfl ?_
            refine w_get C 0 12 (Nat.le_of_ble_eq_true rfl) rfl rfl inB_X11 (by decide) tw6_173 rfl dX11_dances_67 rfl ?_
            refine w_iload_n C dX11_dances_70 rfl 6 rfl ?_
            refine w_iald C 12 160 0 (Nat.le_of_ble_eq_true rfl) (fun _ => rfl) rfl h dX11_dances_71 rfl (fun h => ?_)
            refine w_iload C dX11_dances_72 rfl 0 rfl ?_
            refine w_icmp_eq C (qt := 80) dX11_dances_74 (by decide) rfl h (fun _ h => ?_) (fun _ h => ?_)
            · exact w_sub (lv' := [(9, .int v6.2.1), (8, .int v6.2.2), (7, .int x5), (6, .int x4), (5, .int x3), (4, .int x2), (3, .int x1), (0, .ref (ad 0)), (1, .int a0)]) [0, 1, 2, 3, 4, 5, 6, 7, 8] rfl (hJ22 (()) h)
            · refine w_goto (q := 154) C dX11_dances_77 (by decide) ?_
              refine w_iinc (j := 0) C (v6.2.1 + 1) [(9, .int (v6.2.1 + 1)), (8, .int v6.2.2), (7, .int x5), (6, .int x4), (5, .int x3), (4, .int x2), (3, .int x1), (0, .ref (ad 0)), (1, .int a0)] dX11_dances_154 rfl rfl rfl (by decide) rfl ?_
              refine w_goto (q := 45) C dX11_dances_157 (by decide) ?_
              exact w_sub (lv' := [(9, .int (v6.2.1 + 1)), (8, .int v6.2.2), (7, .int x5), (6, .int x4), (5, .int x3), (4, .int x2), (3, .int x1), (0, .ref (ad 0)), (1, .int a0)]) [0, 1, 2, 3, 4, 5, 6, 7, 8] rfl (hK8 ((v6.1, v6.2.1 + 1, v6.2.2)) h)
theorem cfX11_dances (D : va_G) (cI cT : ClassId) (ad : Nat → Nat) {l : Launch} (had : gAp (gM D cI cT ad)) {F : Nat} {σ : St} {a0 : Int32} {a1 : Int32} {r : Int32} {σ' : St} (h : fX11_dances F σ a0 a1 = some (r, σ')) : MI l yX11_dances (wB yX11_dances cX11_dances 10 (some .boolean)) 2 46 (gM D cI cT ad) [.ref (ad 0), .int a0, .int a1] σ r σ' := mk_MZ had (by decide +kernel) (Nat.le_of_ble_eq_true rfl) (fun X hX C hr => wfX11_dances C hr h)

def fX11_danceTo (F : Nat) (σ : St) (a0 : Int32) (a1 : Int32) : Option (Int32 × St) := nm (up σ 21 0 0) fun u1 => nm (up u1 21 1 ((u1 5 2) - 1)) fun u2 => nm (up u2 22 0 ((u2 5 2) / 2)) fun u3 => nm (up u3 22 1 (u3 22 0)) fun u4 => nm (up u4 23 0 0) fun u5 => nm (up u5 23 1 2) fun u6 => lp (fun (K8 : (St × Int32) → Option (Int32 × St)) (v7 : St × Int32) => if a1 ≤ v7.2 then (some (a1, v7.1)) else bd2 (fX11_dances F v7.1 a0 v7.2) fun r10 u11 => if r10 = 0 then (some (v7.2, u11)) else K8 ((u11, v7.2 + 1))) F ((u6, 0))
set_option maxRecDepth 20000 in
theorem wfX11_danceTo {X : XT} {D : va_G} {cI cT : ClassId} {ad : Nat → Nat} {F : Nat} {σ : St} {a0 : Int32} {a1 : Int32} {r : Int32} {σ' : St} (C : Cx X (gM D cI cT ad) cX11_danceTo 4 RX11 3 75 0) (hr : RetI X (gM D cI cT ad) cX11_danceTo 4 0 r σ') (h : fX11_danceTo F σ a0 a1 = some (r, σ')) : WP X (gM D cI cT ad) 4 0 0 σ [(0, .ref (ad 0)), (1, .int a0), (2, .int a1)] [] := by
  unfold fX11_danceTo at h
  refine w_aload_n C dX11_danceTo_0 rfl 0 rfl ?_
  refine w_get C 0 35 (Nat.le_of_ble_eq_true rfl) rfl rfl inB_X11 (by decide) tw6_196 rfl dX11_danceTo_1 rfl ?_
  refine w_iconst C 0 dX11_danceTo_4 rfl (by decide) ?_
  refine w_iconst C 0 dX11_danceTo_5 rfl (by decide) ?_
  refine w_iastc C 21 2 0 0 (Nat.le_of_ble_eq_true rfl) (fun _ => rfl) rfl (by decide) (by show ¬ (_ ∨ _); decide) dX11_danceTo_6 rfl ?_
  refine w_nst h (fun u1 h => ?_)
  refine w_aload_n C dX11_danceTo_7 rfl 0 rfl ?_
  refine w_get C 0 35 (Nat.le_of_ble_eq_true rfl) rfl rfl inB_X11 (by decide) tw6_196 rfl dX11_danceTo_8 rfl ?_
  refine w_iconst C 1 dX11_danceTo_11 rfl (by decide) ?_
  refine w_aload_n C dX11_danceTo_12 rfl 0 rfl ?_
  refine w_get C 0 5 (Nat.le_of_ble_eq_true rfl) rfl rfl inB_X11 (by decide) tw6_166 rfl dX11_danceTo_13 rfl ?_
  refine w_iconst C 2 dX11_danceTo_16 rfl (by decide) ?_
  refine w_ialdc C 5 8 0 2 (Nat.le_of_ble_eq_true rfl) (fun _ => rfl) rfl (by decide) (by show ¬ (_ ∨ _); decide) dX11_danceTo_17 rfl ?_
  refine w_iconst C 1 dX11_danceTo_18 rfl (by decide) ?_
  refine w_isub C dX11_danceTo_19 rfl ?_
  refine w_iastc C 21 2 0 1 (Nat.le_of_ble_eq_true rfl) (fun _ => rfl) rfl (by decide) (by show ¬ (_ ∨ _); decide) dX11_danceTo_20 rfl ?_
  refine w_nst h (fun u2 h => ?_)
  refine w_aload_n C dX11_danceTo_21 rfl 0 rfl ?_
  refine w_get C 0 36 (Nat.le_of_ble_eq_true rfl) rfl rfl inB_X11 (by decide) tw6_197 rfl dX11_danceTo_22 rfl ?_
  refine w_iconst C 0 dX11_danceTo_25 rfl (by decide) ?_
  refine w_aload_n C dX11_danceTo_26 rfl 0 rfl ?_
  refine w_get C 0 5 (Nat.le_of_ble_eq_true rfl) rfl rfl inB_X11 (by decide) tw6_166 rfl dX11_danceTo_27 rfl ?_
  refine w_iconst C 2 dX11_danceTo_30 rfl (by decide) ?_
  refine w_ialdc C 5 8 0 2 (Nat.le_of_ble_eq_true rfl) (fun _ => rfl) rfl (by decide) (by show ¬ (_ ∨ _); decide) dX11_danceTo_31 rfl ?_
  refine w_iconst C 2 dX11_danceTo_32 rfl (by decide) ?_
  refine w_idiv C (by decide) dX11_danceTo_33 rfl ?_
  refine w_iastc C 22 2 0 0 (Nat.le_of_ble_eq_true rfl) (fun _ => rfl) rfl (by decide) (by show ¬ (_ ∨ _); decide) dX11_danceTo_34 rfl ?_
  refine w_nst h (fun u3 h => ?_)
  refine w_aload_n C dX11_danceTo_35 rfl 0 rfl ?_
  refine w_get C 0 36 (Nat.le_of_ble_eq_true rfl) rfl rfl inB_X11 (by decide) tw6_197 rfl dX11_danceTo_36 rfl ?_
  refine w_iconst C 1 dX11_danceTo_39 rfl (by decide) ?_
  refine w_aload_n C dX11_danceTo_40 rfl 0 rfl ?_
  refine w_get C 0 36 (Nat.le_of_ble_eq_true rfl) rfl rfl inB_X11 (by decide) tw6_197 rfl dX11_danceTo_41 rfl ?_
  refine w_iconst C 0 dX11_danceTo_44 rfl (by decide) ?_
  refine w_ialdc C 22 2 0 0 (Nat.le_of_ble_eq_true rfl) (fun _ => rfl) rfl (by decide) (by show ¬ (_ ∨ _); decide) dX11_danceTo_45 rfl ?_
  refine w_iastc C 22 2 0 1 (Nat.le_of_ble_eq_true rfl) (fun _ => rfl) rfl (by decide) (by show ¬ (_ ∨ _); decide) dX11_danceTo_46 rfl ?_
  refine w_nst h (fun u4 h => ?_)
  refine w_aload_n C dX11_danceTo_47 rfl 0 rfl ?_
  refine w_get C 0 37 (Nat.le_of_ble_eq_true rfl) rfl rfl inB_X11 (by decide) tw6_198 rfl dX11_danceTo_48 rfl ?_
  refine w_iconst C 0 dX11_danceTo_51 rfl (by decide) ?_
  refine w_iconst C 0 dX11_danceTo_52 rfl (by decide) ?_
  refine w_iastc C 23 2 0 0 (Nat.le_of_ble_eq_true rfl) (fun _ => rfl) rfl (by decide) (by show ¬ (_ ∨ _); decide) dX11_danceTo_53 rfl ?_
  refine w_nst h (fun u5 h => ?_)
  refine w_aload_n C dX11_danceTo_54 rfl 0 rfl ?_
  refine w_get C 0 37 (Nat.le_of_ble_eq_true rfl) rfl rfl inB_X11 (by decide) tw6_198 rfl dX11_danceTo_55 rfl ?_
  refine w_iconst C 1 dX11_danceTo_58 rfl (by decide) ?_
  refine w_iconst C 2 dX11_danceTo_59 rfl (by decide) ?_
  refine w_iastc C 23 2 0 1 (Nat.le_of_ble_eq_true rfl) (fun _ => rfl) rfl (by decide) (by show ¬ (_ ∨ _); decide) dX11_danceTo_60 rfl ?_
  refine w_nst h (fun u6 h => ?_)
  refine w_iconst C 0 dX11_danceTo_61 rfl (by decide) ?_
  refine w_istore_n C [(3, .int 0), (0, .ref (ad 0)), (1, .int a0), (2, .int a1)] dX11_danceTo_62 rfl (by decide) rfl ?_
  refine w_sub (lv' := [(3, .int 0), (0, .ref (ad 0)), (1, .int a0), (2, .int a1)]) [0, 1, 2, 3] rfl ?_
  refine lp_w (fun v7 : St × Int32 => WP X (gM D cI cT ad) 4 0 63 v7.1 [(3, .int v7.2), (0, .ref (ad 0)), (1, .int a0), (2, .int a1)] []) (fun K8 hK9 v7 h => ?_) F _ h
  refine w_iload_n C dX11_danceTo_63 rfl 0 rfl ?_
  refine w_iload_n C dX11_danceTo_64 rfl 3 rfl ?_
  refine w_icmp_ge C (qt := 85) dX11_danceTo_65 (by decide) rfl h (fun _ h => ?_) (fun _ h => ?_)
  · refine w_iload_n C dX11_danceTo_85 rfl 3 rfl ?_
    exact w_ri2 hr h (by decide) dX11_danceTo_86
  · refine w_aload_n C dX11_danceTo_68 rfl 1 rfl ?_
    refine w_iload_n C dX11_danceTo_69 rfl 2 rfl ?_
    refine w_iload_n C dX11_danceTo_70 rfl 0 rfl ?_
    refine bd2_w h (fun r10 u11 hc h => ?_)
    refine w_callVi C (n := 2) (As := [.int a0, .int v7.2]) (st := []) 0 (Nat.le_of_ble_eq_true rfl) rfl rfl (cfX11_dances D cI cT ad (l := X.2.1) C.2.2.1 hc) tw8_20 cy_X11_dances (by decide +kernel) ⟨Nat.le_of_ble_eq_true rfl, Nat.le_of_ble_eq_true rfl⟩ (by decide) rfl rfl (Nat.le_of_ble_eq_true rfl) dX11_danceTo_71 rfl ?_
    refine w_if_ne C (qt := 79) dX11_danceTo_74 (by decide) rfl h (fun _ h => ?_) (fun _ h => ?_)
    · refine w_iinc (j := 0) C (v7.2 + 1) [(3, .int (v7.2 + 1)), (0, .ref (ad 0)), (1, .int a0), (2, .int a1)] dX11_danceTo_79 rfl rfl rfl (by decide) rfl ?_
      refine w_goto (q := 63) C dX11_danceTo_82 (by decide) ?_
      exact w_sub (lv' := [(3, .int (v7.2 + 1)), (0, .ref (ad 0)), (1, .int a0), (2, .int a1)]) [0, 1, 2, 3] rfl (hK9 ((u11, v7.2 + 1)) h)
    · refine w_iload_n C dX11_danceTo_77 rfl 0 rfl ?_
      exact w_ri2 hr h (by decide) dX11_danceTo_78
theorem cfX11_danceTo (D : va_G) (cI cT : ClassId) (ad : Nat → Nat) {l : Launch} (had : gAp (gM D cI cT ad)) {F : Nat} {σ : St} {a0 : Int32} {a1 : Int32} {r : Int32} {σ' : St} (h : fX11_danceTo F σ a0 a1 = some (r, σ')) : MI l yX11_danceTo (wB yX11_danceTo cX11_danceTo 4 (some .int)) 3 75 (gM D cI cT ad) [.ref (ad 0), .int a0, .int a1] σ r σ' := mk_MI had (by decide +kernel) (Nat.le_of_ble_eq_true rfl) (fun X hX C hr => wfX11_danceTo C hr h)

def fX11_looks (F : Nat) (σ : St) (a0 : Int32) : Option Int32 := ckI (1 - a0) 2 (ckI (a0) 2 (nm ((σ 21 (Int32.toNatClampNeg (1 - a0))) - (σ 21 (Int32.toNatClampNeg a0))) fun x1 => ckI (1 - a0) 2 (ckI (a0) 2 (nm ((σ 22 (Int32.toNatClampNeg (1 - a0))) - (σ 22 (Int32.toNatClampNeg a0))) fun x2 => ckI (a0) 2 (nm (σ 23 (Int32.toNatClampNeg a0)) fun x3 => ckI (x3) 4 (if (σ 3 (Int32.toNatClampNeg x3)) = 0 then (if x1 = 0 then (ckI (x3) 4 (if (x2 * (σ 4 (Int32.toNatClampNeg x3))) ≤ 0 then (some 0) else some 1)) else some 0) else if x2 = 0 then (ckI (x3) 4 (if (x1 * (σ 3 (Int32.toNatClampNeg x3))) ≤ 0 then (some 0) else some 1)) else some 0))))))
set_option maxRecDepth 20000 in
theorem wfX11_looks {X : XT} {D : va_G} {cI cT : ClassId} {ad : Nat → Nat} {F : Nat} {σ : St} {a0 : Int32} {r : Int32} (C : Cx X (gM D cI cT ad) cX11_looks 5 RX11 0 0 0) (hr : RetZ X (gM D cI cT ad) cX11_looks 5 0 r σ) (h : fX11_looks F σ a0 = some r) : WP X (gM D cI cT ad) 5 0 0 σ [(0, .ref (ad 0)), (1, .int a0)] [] := by
  unfold fX11_looks at h
  refine w_aload_n C dX11_looks_0 rfl 0 rfl ?_
  refine w_get C 0 35 (Nat.le_of_ble_eq_true rfl) rfl rfl inB_X11 (by decide) tw6_196 rfl dX11_looks_1 rfl ?_
  refine w_iconst C 1 dX11_looks_4 rfl (by decide) ?_
  refine w_iload_n C dX11_looks_5 rfl 1 rfl ?_
  refine w_isub C dX11_looks_6 rfl ?_
  refine w_iald C 21 2 0 (Nat.le_of_ble_eq_true rfl) (fun _ => rfl) rfl h dX11_looks_7 rfl (fun h => ?_)
  refine w_aload_n C dX11_looks_8 rfl 0 rfl ?_
  refine w_get C 0 35 (Nat.le_of_ble_eq_true rfl) rfl rfl inB_X11 (by decide) tw6_196 rfl dX11_looks_9 rfl ?_
  refine w_iload_n C dX11_looks_12 rfl 1 rfl ?_
  refine w_iald C 21 2 0 (Nat.le_of_ble_eq_true rfl) (fun _ => rfl) rfl h dX11_looks_13 rfl (fun h => ?_)
  refine w_isub C dX11_looks_14 rfl ?_
  refine w_nm h (fun x1 h => ?_)
  refine w_istore_n C [(2, .int x1), (0, .ref (ad 0)), (1, .int a0)] dX11_looks_15 rfl (by decide) rfl ?_
  refine w_aload_n C dX11_looks_16 rfl 1 rfl ?_
  refine w_get C 0 36 (Nat.le_of_ble_eq_true rfl) rfl rfl inB_X11 (by decide) tw6_197 rfl dX11_looks_17 rfl ?_
  refine w_iconst C 1 dX11_looks_20 rfl (by decide) ?_
  refine w_iload_n C dX11_looks_21 rfl 2 rfl ?_
  refine w_isub C dX11_looks_22 rfl ?_
  refine w_iald C 22 2 0 (Nat.le_of_ble_eq_true rfl) (fun _ => rfl) rfl h dX11_looks_23 rfl (fun h => ?_)
  refine w_aload_n C dX11_looks_24 rfl 1 rfl ?_
  refine w_get C 0 36 (Nat.le_of_ble_eq_true rfl) rfl rfl inB_X11 (by decide) tw6_197 rfl dX11_looks_25 rfl ?_
  refine w_iload_n C dX11_looks_28 rfl 2 rfl ?_
  refine w_iald C 22 2 0 (Nat.le_of_ble_eq_true rfl) (fun _ => rfl) rfl h dX11_looks_29 rfl (fun h => ?_)
  refine w_isub C dX11_looks_30 rfl ?_
  refine w_nm h (fun x2 h => ?_)
  refine w_istore_n C [(3, .int x2), (2, .int x1), (0, .ref (ad 0)), (1, .int a0)] dX11_looks_31 rfl (by decide) rfl ?_
  refine w_aload_n C dX11_looks_32 rfl 2 rfl ?_
  refine w_get C 0 37 (Nat.le_of_ble_eq_true rfl) rfl rfl inB_X11 (by decide) tw6_198 rfl dX11_looks_33 rfl ?_
  refine w_iload_n C dX11_looks_36 rfl 3 rfl ?_
  refine w_iald C 23 2 0 (Nat.le_of_ble_eq_true rfl) (fun _ => rfl) rfl h dX11_looks_37 rfl (fun h => ?_)
  refine w_nm h (fun x3 h => ?_)
  refine w_istore C [(4, .int x3), (3, .int x2), (2, .int x1), (0, .ref (ad 0)), (1, .int a0)] dX11_looks_38 rfl (by decide) rfl ?_
  refine w_aload_n C dX11_looks_40 rfl 3 rfl ?_
  refine w_get C 0 2 (Nat.le_of_ble_eq_true rfl) rfl rfl inB_X11 (by decide) tw6_163 rfl dX11_looks_41 rfl ?_
  refine w_iload C dX11_looks_44 rfl 0 rfl ?_
  refine w_iald C 3 4 0 (Nat.le_of_ble_eq_true rfl) (fun _ => rfl) rfl h dX11_looks_46 rfl (fun h => ?_)
  refine w_if_eq C (qt := 74) dX11_looks_47 (by decide) rfl h (fun _ h => ?_) (fun _ h => ?_)
  · refine w_iload_n C dX11_looks_74 rfl 2 rfl ?_
    refine w_if_ne C (qt := 94) dX11_looks_75 (by decide) rfl h (fun _ h => ?_) (fun _ h => ?_)
    · refine w_iconst C 0 dX11_looks_94 rfl (by decide) ?_
      exact w_rz1 hr (by decide) h (by decide) dX11_looks_95
    · refine w_iload_n C dX11_looks_78 rfl 1 rfl ?_
      refine w_aload_n C dX11_looks_79 rfl 3 rfl ?_
      refine w_get C 0 3 (Nat.le_of_ble_eq_true rfl) rfl rfl inB_X11 (by decide) tw6_164 rfl dX11_looks_80 rfl ?_
      refine w_iload C dX11_looks_83 rfl 0 rfl ?_
      refine w_iald C 4 4 0 (Nat.le_of_ble_eq_true rfl) (fun _ => rfl) rfl h dX11_looks_85 rfl (fun h => ?_)
      refine w_imul C dX11_looks_86 rfl ?_
      refine w_if_le C (qt := 94) dX11_looks_87 (by decide) rfl h (fun _ h => ?_) (fun _ h => ?_)
      · refine w_iconst C 0 dX11_looks_94 rfl (by decide) ?_
        exact w_rz1 hr (by decide) h (by decide) dX11_looks_95
      · refine w_iconst C 1 dX11_looks_90 rfl (by decide) ?_
        refine w_goto (q := 95) C dX11_looks_91 (by decide) ?_
        exact w_rz1 hr (by decide) h (by decide) dX11_looks_95
  · refine w_iload_n C dX11_looks_50 rfl 1 rfl ?_
    refine w_if_ne C (qt := 70) dX11_looks_51 (by decide) rfl h (fun _ h => ?_) (fun _ h => ?_)
    · refine w_iconst C 0 dX11_looks_70 rfl (by decide) ?_
      refine w_goto (q := 95) C dX11_looks_71 (by decide) ?_
      exact w_rz1 hr (by decide) h (by decide) dX11_looks_95
    · refine w_iload_n C dX11_looks_54 rfl 2 rfl ?_
      refine w_aload_n C dX11_looks_55 rfl 3 rfl ?_
      refine w_get C 0 2 (Nat.le_of_ble_eq_true rfl) rfl rfl inB_X11 (by decide) tw6_163 rfl dX11_looks_56 rfl ?_
      refine w_iload C dX11_looks_59 rfl 0 rfl ?_
      refine w_iald C 3 4 0 (Nat.le_of_ble_eq_true rfl) (fun _ => rfl) rfl h dX11_looks_61 rfl (fun h => ?_)
      refine w_imul C dX11_looks_62 rfl ?_
      refine w_if_le C (qt := 70) dX11_looks_63 (by decide) rfl h (fun _ h => ?_) (fun _ h => ?_)
      · refine w_iconst C 0 dX11_looks_70 rfl (by decide) ?_
        refine w_goto (q := 95) C dX11_looks_71 (by decide) ?_
        exact w_rz1 hr (by decide) h (by decide) dX11_looks_95
      · refine w_iconst C 1 dX11_looks_66 rfl (by decide) ?_
        refine w_goto (q := 95) C dX11_looks_67 (by decide) ?_
        exact w_rz1 hr (by decide) h (by decide) dX11_looks_95
theorem cfX11_looks (D : va_G) (cI cT : ClassId) (ad : Nat → Nat) {l : Launch} (had : gAp (gM D cI cT ad)) {F : Nat} {σ : St} {a0 : Int32} {r : Int32} (h : fX11_looks F σ a0 = some r) : MI l yX11_looks (wB yX11_looks cX11_looks 5 (some .boolean)) 0 0 (gM D cI cT ad) [.ref (ad 0), .int a0] σ r σ := mk_MZ had (by decide +kernel) (Nat.le_of_ble_eq_true rfl) (fun X hX C hr => wfX11_looks C hr h)

def fX11_endsWell (F : Nat) (σ : St) (a0 : Int32) : Option (Int32 × St) := ckI (a0) 16 (bd2 (fX11_danceTo F σ a0 (σ 10 (Int32.toNatClampNeg a0))) fun r1 u2 => ckI (a0) 16 (if r1 = (u2 10 (Int32.toNatClampNeg a0)) then (bd1 (fX11_looks F u2 0) fun r3 => if r3 = 0 then (some (0, u2)) else bd1 (fX11_looks F u2 1) fun r4 => if r4 = 0 then (some (0, u2)) else some (1, u2)) else some (0, u2)))
set_option maxRecDepth 20000 in
theorem wfX11_endsWell {X : XT} {D : va_G} {cI cT : ClassId} {ad : Nat → Nat} {F : Nat} {σ : St} {a0 : Int32} {r : Int32} {σ' : St} (C : Cx X (gM D cI cT ad) cX11_endsWell 2 RX11 4 98 0) (hr : RetZ X (gM D cI cT ad) cX11_endsWell 2 0 r σ') (h : fX11_endsWell F σ a0 = some (r, σ')) : WP X (gM D cI cT ad) 2 0 0 σ [(0, .ref (ad 0)), (1, .int a0)] [] := by
  unfold fX11_endsWell at h
  refine w_aload_n C dX11_endsWell_0 rfl 0 rfl ?_
  refine w_iload_n C dX11_endsWell_1 rfl 1 rfl ?_
  refine w_aload_n C dX11_endsWell_2 rfl 0 rfl ?_
  refine w_get C 0 10 (Nat.le_of_ble_eq_true rfl) rfl rfl inB_X11 (by decide) tw6_171 rfl dX11_endsWell_3 rfl ?_
  refine w_iload_n C dX11_endsWell_6 rfl 1 rfl ?_
  refine w_iald C 10 16 0 (Nat.le_of_ble_eq_true rfl) (fun _ => rfl) rfl h dX11_endsWell_7 rfl (fun h => ?_)
  refine bd2_w h (fun r1 u2 hc h => ?_)
  refine w_callVi C (n := 2) (As := [.int a0, .int (σ 10 (Int32.toNatClampNeg a0))]) (st := []) 0 (Nat.le_of_ble_eq_true rfl) rfl rfl (cfX11_danceTo D cI cT ad (l := X.2.1) C.2.2.1 hc) tw8_16 cy_X11_danceTo (by decide +kernel) ⟨Nat.le_of_ble_eq_true rfl, Nat.le_of_ble_eq_true rfl⟩ (by decide) rfl rfl (Nat.le_of_ble_eq_true rfl) dX11_endsWell_8 rfl ?_
  refine w_aload_n C dX11_endsWell_11 rfl 0 rfl ?_
  refine w_get C 0 10 (Nat.le_of_ble_eq_true rfl) rfl rfl inB_X11 (by decide) tw6_171 rfl dX11_endsWell_12 rfl ?_
  refine w_iload_n C dX11_endsWell_15 rfl 1 rfl ?_
  refine w_iald C 10 16 0 (Nat.le_of_ble_eq_true rfl) (fun _ => rfl) rfl h dX11_endsWell_16 rfl (fun h => ?_)
  refine w_icmp_ne C (qt := 40) dX11_endsWell_17 (by decide) rfl h (fun _ h => ?_) (fun _ h => ?_)
  · refine w_iconst C 0 dX11_endsWell_40 rfl (by decide) ?_
    exact w_rz2 hr (by decide) h (by decide) dX11_endsWell_41
  · refine w_aload_n C dX11_endsWell_20 rfl 0 rfl ?_
    refine w_iconst C 0 dX11_endsWell_21 rfl (by decide) ?_
    refine bd1_w h (fun r3 hc h => ?_)
    refine w_callVi C (n := 1) (As := [.int 0]) (st := []) 0 (Nat.le_of_ble_eq_true rfl) rfl rfl (cfX11_looks D cI cT ad (l := X.2.1) C.2.2.1 hc) tw8_40 cy_X11_looks (by decide +kernel) ⟨Nat.le_of_ble_eq_true rfl, Nat.le_of_ble_eq_true rfl⟩ (by decide) rfl rfl (Nat.le_of_ble_eq_true rfl) dX11_endsWell_22 rfl ?_
    refine w_if_eq C (qt := 40) dX11_endsWell_25 (by decide) rfl h (fun _ h => ?_) (fun _ h => ?_)
    · refine w_iconst C 0 dX11_endsWell_40 rfl (by decide) ?_
      exact w_rz2 hr (by decide) h (by decide) dX11_endsWell_41
    · refine w_aload_n C dX11_endsWell_28 rfl 0 rfl ?_
      refine w_iconst C 1 dX11_endsWell_29 rfl (by decide) ?_
      refine bd1_w h (fun r4 hc h => ?_)
      refine w_callVi C (n := 1) (As := [.int 1]) (st := []) 0 (Nat.le_of_ble_eq_true rfl) rfl rfl (cfX11_looks D cI cT ad (l := X.2.1) C.2.2.1 hc) tw8_40 cy_X11_looks (by decide +kernel) ⟨Nat.le_of_ble_eq_true rfl, Nat.le_of_ble_eq_true rfl⟩ (by decide) rfl rfl (Nat.le_of_ble_eq_true rfl) dX11_endsWell_30 rfl ?_
      refine w_if_eq C (qt := 40) dX11_endsWell_33 (by decide) rfl h (fun _ h => ?_) (fun _ h => ?_)
      · refine w_iconst C 0 dX11_endsWell_40 rfl (by decide) ?_
        exact w_rz2 hr (by decide) h (by decide) dX11_endsWell_41
      · refine w_iconst C 1 dX11_endsWell_36 rfl (by decide) ?_
        refine w_goto (q := 41) C dX11_endsWell_37 (by decide) ?_
        exact w_rz2 hr (by decide) h (by decide) dX11_endsWell_41
theorem cfX11_endsWell (D : va_G) (cI cT : ClassId) (ad : Nat → Nat) {l : Launch} (had : gAp (gM D cI cT ad)) {F : Nat} {σ : St} {a0 : Int32} {r : Int32} {σ' : St} (h : fX11_endsWell F σ a0 = some (r, σ')) : MI l yX11_endsWell (wB yX11_endsWell cX11_endsWell 2 (some .boolean)) 4 98 (gM D cI cT ad) [.ref (ad 0), .int a0] σ r σ' := mk_MZ had (by decide +kernel) (Nat.le_of_ble_eq_true rfl) (fun X hX C hr => wfX11_endsWell C hr h)

def fX11_isBinding (F : Nat) (σ : St) (a0 : Int32) : Option (Int32 × St) := bd1 (fX11_isOf F σ (σ 0 32) a0) fun r1 => if r1 = 0 then (bd2 (fX11_endsWell F σ a0) fun r2 u3 => if r2 = 0 then (some (0, u3)) else some (1, u3)) else some (0, σ)
set_option maxRecDepth 20000 in
theorem wfX11_isBinding {X : XT} {D : va_G} {cI cT : ClassId} {ad : Nat → Nat} {F : Nat} {σ : St} {a0 : Int32} {r : Int32} {σ' : St} (C : Cx X (gM D cI cT ad) cX11_isBinding 2 RX11 5 119 0) (hr : RetZ X (gM D cI cT ad) cX11_isBinding 2 0 r σ') (h : fX11_isBinding F σ a0 = some (r, σ')) : WP X (gM D cI cT ad) 2 0 0 σ [(0, .ref (ad 0)), (1, .int a0)] [] := by
  unfold fX11_isBinding at h
  refine w_aload_n C dX11_isBinding_0 rfl 0 rfl ?_
  refine w_get C 0 32 (Nat.le_of_ble_eq_true rfl) rfl rfl inB_X11 (by decide) tw6_193 rfl dX11_isBinding_1 rfl ?_
  refine w_iload_n C dX11_isBinding_4 rfl 1 rfl ?_
  refine bd1_w h (fun r1 hc h => ?_)
  refine w_callSi C (n := 2) (As := [.int (σ 0 32), .int a0]) (st := []) (cfX11_isOf D cI cT ad (l := X.2.1) C.2.2.1 hc) tw8_9 cs_X11_isOf (by decide +kernel) ⟨Nat.le_of_ble_eq_true rfl, Nat.le_of_ble_eq_true rfl⟩ (by decide) rfl rfl (Nat.le_of_ble_eq_true rfl) dX11_isBinding_5 rfl ?_
  refine w_if_ne C (qt := 23) dX11_isBinding_8 (by decide) rfl h (fun _ h => ?_) (fun _ h => ?_)
  · refine w_iconst C 0 dX11_isBinding_23 rfl (by decide) ?_
    exact w_rz2 hr (by decide) h (by decide) dX11_isBinding_24
  · refine w_aload_n C dX11_isBinding_11 rfl 0 rfl ?_
    refine w_iload_n C dX11_isBinding_12 rfl 1 rfl ?_
    refine bd2_w h (fun r2 u3 hc h => ?_)
    refine w_callVi C (n := 1) (As := [.int a0]) (st := []) 0 (Nat.le_of_ble_eq_true rfl) rfl rfl (cfX11_endsWell D cI cT ad (l := X.2.1) C.2.2.1 hc) tw8_12 cy_X11_endsWell (by decide +kernel) ⟨Nat.le_of_ble_eq_true rfl, Nat.le_of_ble_eq_true rfl⟩ (by decide) rfl rfl (Nat.le_of_ble_eq_true rfl) dX11_isBinding_13 rfl ?_
    refine w_if_eq C (qt := 23) dX11_isBinding_16 (by decide) rfl h (fun _ h => ?_) (fun _ h => ?_)
    · refine w_iconst C 0 dX11_isBinding_23 rfl (by decide) ?_
      exact w_rz2 hr (by decide) h (by decide) dX11_isBinding_24
    · refine w_iconst C 1 dX11_isBinding_19 rfl (by decide) ?_
      refine w_goto (q := 24) C dX11_isBinding_20 (by decide) ?_
      exact w_rz2 hr (by decide) h (by decide) dX11_isBinding_24
theorem cfX11_isBinding (D : va_G) (cI cT : ClassId) (ad : Nat → Nat) {l : Launch} (had : gAp (gM D cI cT ad)) {F : Nat} {σ : St} {a0 : Int32} {r : Int32} {σ' : St} (h : fX11_isBinding F σ a0 = some (r, σ')) : MI l yX11_isBinding (wB yX11_isBinding cX11_isBinding 2 (some .boolean)) 5 119 (gM D cI cT ad) [.ref (ad 0), .int a0] σ r σ' := mk_MZ had (by decide +kernel) (Nat.le_of_ble_eq_true rfl) (fun X hX C hr => wfX11_isBinding C hr h)

def fX11_binding (F : Nat) (σ : St) : Option (Int32 × St) := lp (fun (K2 : (St × Int32 × Int32) → Option (Int32 × St)) (v1 : St × Int32 × Int32) => if (v1.1 5 1) ≤ v1.2.1 then (some (v1.2.2, v1.1)) else bd2 (fX11_isBinding F v1.1 v1.2.1) fun r4 u5 => if r4 = 0 then (nm (v1.2.2 ||| 0) fun x6 => K2 ((u5, v1.2.1 + 1, x6))) else nm (v1.2.2 ||| ((1 : Int32) <<< (v1.2.1 &&& 31))) fun x7 => K2 ((u5, v1.2.1 + 1, x7))) F ((σ, 0, 0))
set_option maxRecDepth 20000 in
theorem wfX11_binding {X : XT} {D : va_G} {cI cT : ClassId} {ad : Nat → Nat} {F : Nat} {σ : St}  {r : Int32} {σ' : St} (C : Cx X (gM D cI cT ad) cX11_binding 3 RX11 6 140 0) (hr : RetI X (gM D cI cT ad) cX11_binding 3 0 r σ') (h : fX11_binding F σ = some (r, σ')) : WP X (gM D cI cT ad) 3 0 0 σ [(0, .ref (ad 0))] [] := by
  unfold fX11_binding at h
  refine w_iconst C 0 dX11_binding_0 rfl (by decide) ?_
  refine w_istore_n C [(1, .int 0), (0, .ref (ad 0))] dX11_binding_1 rfl (by decide) rfl ?_
  refine w_iconst C 0 dX11_binding_2 rfl (by decide) ?_
  refine w_istore_n C [(2, .int 0), (1, .int 0), (0, .ref (ad 0))] dX11_binding_3 rfl (by decide) rfl ?_
  refine w_sub (lv' := [(2, .int 0), (1, .int 0), (0, .ref (ad 0))]) [0, 1, 2] rfl ?_
  refine lp_w (fun v1 : St × Int32 × Int32 => WP X (gM D cI cT ad) 3 0 4 v1.1 [(2, .int v1.2.1), (1, .int v1.2.2), (0, .ref (ad 0))] []) (fun K2 hK3 v1 h => ?_) F _ h
  refine w_iload_n C dX11_binding_4 rfl 0 rfl ?_
  refine w_aload_n C dX11_binding_5 rfl 2 rfl ?_
  refine w_get C 0 5 (Nat.le_of_ble_eq_true rfl) rfl rfl inB_X11 (by decide) tw6_166 rfl dX11_binding_6 rfl ?_
  refine w_iconst C 1 dX11_binding_9 rfl (by decide) ?_
  refine w_ialdc C 5 8 0 1 (Nat.le_of_ble_eq_true rfl) (fun _ => rfl) rfl (by decide) (by show ¬ (_ ∨ _); decide) dX11_binding_10 rfl ?_
  refine w_icmp_ge C (qt := 38) dX11_binding_11 (by decide) rfl h (fun _ h => ?_) (fun _ h => ?_)
  · refine w_iload_n C dX11_binding_38 rfl 1 rfl ?_
    exact w_ri2 hr h (by decide) dX11_binding_39
  · refine w_iload_n C dX11_binding_14 rfl 1 rfl ?_
    refine w_aload_n C dX11_binding_15 rfl 2 rfl ?_
    refine w_iload_n C dX11_binding_16 rfl 0 rfl ?_
    refine bd2_w h (fun r4 u5 hc h => ?_)
    refine w_callVi C (n := 1) (As := [.int v1.2.1]) (st := [.int v1.2.2]) 0 (Nat.le_of_ble_eq_true rfl) rfl rfl (cfX11_isBinding D cI cT ad (l := X.2.1) C.2.2.1 hc) tw8_5 cy_X11_isBinding (by decide +kernel) ⟨Nat.le_of_ble_eq_true rfl, Nat.le_of_ble_eq_true rfl⟩ (by decide) rfl rfl (Nat.le_of_ble_eq_true rfl) dX11_binding_17 rfl ?_
    refine w_if_eq C (qt := 29) dX11_binding_20 (by decide) rfl h (fun _ h => ?_) (fun _ h => ?_)
    · refine w_iconst C 0 dX11_binding_29 rfl (by decide) ?_
      refine w_ior C dX11_binding_30 rfl ?_
      refine w_nm h (fun x6 h => ?_)
      refine w_istore_n C [(1, .int x6), (2, .int v1.2.1), (0, .ref (ad 0))] dX11_binding_31 rfl (by decide) rfl ?_
      refine w_iinc (j := 1) C (v1.2.1 + 1) [(2, .int (v1.2.1 + 1)), (1, .int x6), (0, .ref (ad 0))] dX11_binding_32 rfl rfl rfl (by decide) rfl ?_
      refine w_goto (q := 4) C dX11_binding_35 (by decide) ?_
      exact w_sub (lv' := [(2, .int (v1.2.1 + 1)), (1, .int x6), (0, .ref (ad 0))]) [0, 1, 2] rfl (hK3 ((u5, v1.2.1 + 1, x6)) h)
    · refine w_iconst C 1 dX11_binding_23 rfl (by decide) ?_
      refine w_iload_n C dX11_binding_24 rfl 0 rfl ?_
      refine w_ishl C dX11_binding_25 rfl ?_
      refine w_goto (q := 30) C dX11_binding_26 (by decide) ?_
      refine w_ior C dX11_binding_30 rfl ?_
      refine w_nm h (fun x7 h => ?_)
      refine w_istore_n C [(1, .int x7), (2, .int v1.2.1), (0, .ref (ad 0))] dX11_binding_31 rfl (by decide) rfl ?_
      refine w_iinc (j := 1) C (v1.2.1 + 1) [(2, .int (v1.2.1 + 1)), (1, .int x7), (0, .ref (ad 0))] dX11_binding_32 rfl rfl rfl (by decide) rfl ?_
      refine w_goto (q := 4) C dX11_binding_35 (by decide) ?_
      exact w_sub (lv' := [(2, .int (v1.2.1 + 1)), (1, .int x7), (0, .ref (ad 0))]) [0, 1, 2] rfl (hK3 ((u5, v1.2.1 + 1, x7)) h)
theorem cfX11_binding (D : va_G) (cI cT : ClassId) (ad : Nat → Nat) {l : Launch} (had : gAp (gM D cI cT ad)) {F : Nat} {σ : St}  {r : Int32} {σ' : St} (h : fX11_binding F σ = some (r, σ')) : MI l yX11_binding (wB yX11_binding cX11_binding 3 (some .int)) 6 140 (gM D cI cT ad) [.ref (ad 0)] σ r σ' := mk_MI had (by decide +kernel) (Nat.le_of_ble_eq_true rfl) (fun X hX C hr => wfX11_binding C hr h)

def fX11_reckon (F : Nat) (σ : St) (a0 : Int32) (a1 : Int32) (a2 : Int32) : Option Int32 := if a0 = (-26) then (if a1 = 0 then (some 0) else if a2 = 0 then (some 0) else some 1) else if a0 = (-25) then (if a1 = a2 then (some 1) else some 0) else if a0 = (-24) then (if a2 ≤ a1 then (some 0) else some 1) else if a0 = (-23) then (if a2 = 0 then (some 0) else ckZ (a2) (some (a1 / a2))) else if a0 = (-22) then (some (a1 * a2)) else if a0 = (-21) then (some (a1 - a2)) else if a0 = (-20) then (some (a1 + a2)) else if a1 = 0 then (if a2 = 0 then (some 0) else some 1) else some 1
set_option maxRecDepth 20000 in
theorem wfX11_reckon {X : XT} {D : va_G} {cI cT : ClassId} {ad : Nat → Nat} {F : Nat} {σ : St} {a0 : Int32} {a1 : Int32} {a2 : Int32} {r : Int32} (C : Cx X (gM D cI cT ad) cX11_reckon 3 RX11 0 0 0) (hr : RetI X (gM D cI cT ad) cX11_reckon 3 0 r σ) (h : fX11_reckon F σ a0 a1 a2 = some r) : WP X (gM D cI cT ad) 3 0 0 σ [(0, .int a0), (1, .int a1), (2, .int a2)] [] := by
  unfold fX11_reckon at h
  refine w_iload_n C dX11_reckon_0 rfl 0 rfl ?_
  refine if_w h (fun e1 h => ?_) (fun e1 h => ?_)
  · refine w_tsIn (q := 90) C (-26) e1 dX11_reckon_1 (by decide) (by decide) rfl (by decide) ?_
    refine w_iload_n C dX11_reckon_90 rfl 1 rfl ?_
    refine w_if_eq C (qt := 102) dX11_reckon_91 (by decide) rfl h (fun _ h => ?_) (fun _ h => ?_)
    · refine w_iconst C 0 dX11_reckon_102 rfl (by decide) ?_
      exact w_ri1 hr h (by decide) dX11_reckon_103
    · refine w_iload_n C dX11_reckon_94 rfl 2 rfl ?_
      refine w_if_eq C (qt := 102) dX11_reckon_95 (by decide) rfl h (fun _ h => ?_) (fun _ h => ?_)
      · refine w_iconst C 0 dX11_reckon_102 rfl (by decide) ?_
        exact w_ri1 hr h (by decide) dX11_reckon_103
      · refine w_iconst C 1 dX11_reckon_98 rfl (by decide) ?_
        refine w_goto (q := 103) C dX11_reckon_99 (by decide) ?_
        exact w_ri1 hr h (by decide) dX11_reckon_103
  refine if_w h (fun e2 h => ?_) (fun e2 h => ?_)
  · refine w_tsIn (q := 79) C (-25) e2 dX11_reckon_1 (by decide) (by decide) rfl (by decide) ?_
    refine w_iload_n C dX11_reckon_79 rfl 1 rfl ?_
    refine w_iload_n C dX11_reckon_80 rfl 2 rfl ?_
    refine w_icmp_ne C (qt := 88) dX11_reckon_81 (by decide) rfl h (fun _ h => ?_) (fun _ h => ?_)
    · refine w_iconst C 0 dX11_reckon_88 rfl (by decide) ?_
      exact w_ri1 hr h (by decide) dX11_reckon_89
    · refine w_iconst C 1 dX11_reckon_84 rfl (by decide) ?_
      refine w_goto (q := 89) C dX11_reckon_85 (by decide) ?_
      exact w_ri1 hr h (by decide) dX11_reckon_89
  refine if_w h (fun e3 h => ?_) (fun e3 h => ?_)
  · refine w_tsIn (q := 68) C (-24) e3 dX11_reckon_1 (by decide) (by decide) rfl (by decide) ?_
    refine w_iload_n C dX11_reckon_68 rfl 1 rfl ?_
    refine w_iload_n C dX11_reckon_69 rfl 2 rfl ?_
    refine w_icmp_ge C (qt := 77) dX11_reckon_70 (by decide) rfl h (fun _ h => ?_) (fun _ h => ?_)
    · refine w_iconst C 0 dX11_reckon_77 rfl (by decide) ?_
      exact w_ri1 hr h (by decide) dX11_reckon_78
    · refine w_iconst C 1 dX11_reckon_73 rfl (by decide) ?_
      refine w_goto (q := 78) C dX11_reckon_74 (by decide) ?_
      exact w_ri1 hr h (by decide) dX11_reckon_78
  refine if_w h (fun e4 h => ?_) (fun e4 h => ?_)
  · refine w_tsIn (q := 56) C (-23) e4 dX11_reckon_1 (by decide) (by decide) rfl (by decide) ?_
    refine w_iload_n C dX11_reckon_56 rfl 2 rfl ?_
    refine w_if_ne C (qt := 64) dX11_reckon_57 (by decide) rfl h (fun _ h => ?_) (fun _ h => ?_)
    · refine w_iload_n C dX11_reckon_64 rfl 1 rfl ?_
      refine w_iload_n C dX11_reckon_65 rfl 2 rfl ?_
      obtain ⟨hz, h⟩ := ckZ_w h
      refine w_idiv C hz dX11_reckon_66 rfl ?_
      exact w_ri1 hr h (by decide) dX11_reckon_67
    · refine w_iconst C 0 dX11_reckon_60 rfl (by decide) ?_
      refine w_goto (q := 67) C dX11_reckon_61 (by decide) ?_
      exact w_ri1 hr h (by decide) dX11_reckon_67
  refine if_w h (fun e5 h => ?_) (fun e5 h => ?_)
  · refine w_tsIn (q := 52) C (-22) e5 dX11_reckon_1 (by decide) (by decide) rfl (by decide) ?_
    refine w_iload_n C dX11_reckon_52 rfl 1 rfl ?_
    refine w_iload_n C dX11_reckon_53 rfl 2 rfl ?_
    refine w_imul C dX11_reckon_54 rfl ?_
    exact w_ri1 hr h (by decide) dX11_reckon_55
  refine if_w h (fun e6 h => ?_) (fun e6 h => ?_)
  · refine w_tsIn (q := 48) C (-21) e6 dX11_reckon_1 (by decide) (by decide) rfl (by decide) ?_
    refine w_iload_n C dX11_reckon_48 rfl 1 rfl ?_
    refine w_iload_n C dX11_reckon_49 rfl 2 rfl ?_
    refine w_isub C dX11_reckon_50 rfl ?_
    exact w_ri1 hr h (by decide) dX11_reckon_51
  refine if_w h (fun e7 h => ?_) (fun e7 h => ?_)
  · refine w_tsIn (q := 44) C (-20) e7 dX11_reckon_1 (by decide) (by decide) rfl (by decide) ?_
    refine w_iload_n C dX11_reckon_44 rfl 1 rfl ?_
    refine w_iload_n C dX11_reckon_45 rfl 2 rfl ?_
    refine w_iadd C dX11_reckon_46 rfl ?_
    exact w_ri1 hr h (by decide) dX11_reckon_47
  refine w_tsOut (q := 104) C dX11_reckon_1 (ts_out (x := a0) (-26) 6 (by decide) (fun k hk => by
    have hk : k = 0 ∨ k = 1 ∨ k = 2 ∨ k = 3 ∨ k = 4 ∨ k = 5 ∨ k = 6 := by omega
    rcases hk with rfl | rfl | rfl | rfl | rfl | rfl | rfl
    · exact e1
    · exact e2
    · exact e3
    · exact e4
    · exact e5
    · exact e6
    · exact e7)) (by decide) ?_
  refine w_iload_n C dX11_reckon_104 rfl 1 rfl ?_
  refine w_if_ne C (qt := 112) dX11_reckon_105 (by decide) rfl h (fun _ h => ?_) (fun _ h => ?_)
  · refine w_iconst C 1 dX11_reckon_112 rfl (by decide) ?_
    refine w_goto (q := 117) C dX11_reckon_113 (by decide) ?_
    exact w_ri1 hr h (by decide) dX11_reckon_117
  · refine w_iload_n C dX11_reckon_108 rfl 2 rfl ?_
    refine w_if_eq C (qt := 116) dX11_reckon_109 (by decide) rfl h (fun _ h => ?_) (fun _ h => ?_)
    · refine w_iconst C 0 dX11_reckon_116 rfl (by decide) ?_
      exact w_ri1 hr h (by decide) dX11_reckon_117
    · refine w_iconst C 1 dX11_reckon_112 rfl (by decide) ?_
      refine w_goto (q := 117) C dX11_reckon_113 (by decide) ?_
      exact w_ri1 hr h (by decide) dX11_reckon_117
theorem cfX11_reckon (D : va_G) (cI cT : ClassId) (ad : Nat → Nat) {l : Launch} (had : gAp (gM D cI cT ad)) {F : Nat} {σ : St} {a0 : Int32} {a1 : Int32} {a2 : Int32} {r : Int32} (h : fX11_reckon F σ a0 a1 a2 = some r) : MI l yX11_reckon (wB yX11_reckon cX11_reckon 3 (some .int)) 0 0 (gM D cI cT ad) [.int a0, .int a1, .int a2] σ r σ := mk_MI had (by decide +kernel) (Nat.le_of_ble_eq_true rfl) (fun X hX C hr => wfX11_reckon C hr h)

def fX11_valueNow (F : Nat) (σ : St) : Option (Int32 × St) := lp (fun (K2 : (St × Int32 × Int32) → Option (Int32 × St)) (v1 : St × Int32 × Int32) => if (v1.1 5 3) ≤ v1.2.1 then (some (v1.1 25 0, v1.1)) else ckI (v1.2.1) 1400 (nm (v1.1 15 (Int32.toNatClampNeg v1.2.1)) fun x4 => if x4 ≤ (-20 : Int32) then (if x4 = (-28 : Int32) then (ckI (v1.2.2 - 1) 64 (if (v1.1 25 (Int32.toNatClampNeg (v1.2.2 - 1))) = 0 then (ckI (v1.2.2 - 1) 64 (nm (up v1.1 25 (Int32.toNatClampNeg (v1.2.2 - 1)) 1) fun u7 => K2 ((u7, v1.2.1 + 1, v1.2.2)))) else ckI (v1.2.2 - 1) 64 (nm (up v1.1 25 (Int32.toNatClampNeg (v1.2.2 - 1)) 0) fun u8 => K2 ((u8, v1.2.1 + 1, v1.2.2))))) else ckI ((v1.2.2 + Int32.ofInt (-1)) - 1) 64 (ckI (v1.2.2 + Int32.ofInt (-1)) 64 (bd1 (fX11_reckon F v1.1 x4 (v1.1 25 (Int32.toNatClampNeg ((v1.2.2 + Int32.ofInt (-1)) - 1))) (v1.1 25 (Int32.toNatClampNeg (v1.2.2 + Int32.ofInt (-1))))) fun r5 => ckI ((v1.2.2 + Int32.ofInt (-1)) - 1) 64 (nm (up v1.1 25 (Int32.toNatClampNeg ((v1.2.2 + Int32.ofInt (-1)) - 1)) r5) fun u6 => K2 ((u6, v1.2.1 + 1, v1.2.2 + Int32.ofInt (-1))))))) else if x4 < 0 then (ckI (((-1)) - x4) 6 (ckI (v1.2.2) 64 (nm (up v1.1 25 (Int32.toNatClampNeg v1.2.2) (v1.1 24 (Int32.toNatClampNeg (((-1)) - x4)))) fun u9 => K2 ((u9, v1.2.1 + 1, v1.2.2 + 1))))) else ckI (v1.2.2) 64 (nm (up v1.1 25 (Int32.toNatClampNeg v1.2.2) x4) fun u10 => K2 ((u10, v1.2.1 + 1, v1.2.2 + 1))))) F ((σ, 0, 0))
set_option maxRecDepth 20000 in
theorem wfX11_valueNow {X : XT} {D : va_G} {cI cT : ClassId} {ad : Nat → Nat} {F : Nat} {σ : St}  {r : Int32} {σ' : St} (C : Cx X (gM D cI cT ad) cX11_valueNow 4 RX11 1 22 0) (hr : RetI X (gM D cI cT ad) cX11_valueNow 4 0 r σ') (h : fX11_valueNow F σ = some (r, σ')) : WP X (gM D cI cT ad) 4 0 0 σ [(0, .ref (ad 0))] [] := by
  unfold fX11_valueNow at h
  refine w_iconst C 0 dX11_valueNow_0 rfl (by decide) ?_
  refine w_istore_n C [(1, .int 0), (0, .ref (ad 0))] dX11_valueNow_1 rfl (by decide) rfl ?_
  refine w_iconst C 0 dX11_valueNow_2 rfl (by decide) ?_
  refine w_istore_n C [(2, .int 0), (1, .int 0), (0, .ref (ad 0))] dX11_valueNow_3 rfl (by decide) rfl ?_
  refine w_sub (lv' := [(2, .int 0), (1, .int 0), (0, .ref (ad 0))]) [0, 1, 2] rfl ?_
  refine lp_w (fun v1 : St × Int32 × Int32 => WP X (gM D cI cT ad) 4 0 4 v1.1 [(2, .int v1.2.1), (1, .int v1.2.2), (0, .ref (ad 0))] []) (fun K2 hK3 v1 h => ?_) F _ h
  refine w_iload_n C dX11_valueNow_4 rfl 0 rfl ?_
  refine w_aload_n C dX11_valueNow_5 rfl 2 rfl ?_
  refine w_get C 0 5 (Nat.le_of_ble_eq_true rfl) rfl rfl inB_X11 (by decide) tw6_166 rfl dX11_valueNow_6 rfl ?_
  refine w_iconst C 3 dX11_valueNow_9 rfl (by decide) ?_
  refine w_ialdc C 5 8 0 3 (Nat.le_of_ble_eq_true rfl) (fun _ => rfl) rfl (by decide) (by show ¬ (_ ∨ _); decide) dX11_valueNow_10 rfl ?_
  refine w_icmp_ge C (qt := 123) dX11_valueNow_11 (by decide) rfl h (fun _ h => ?_) (fun _ h => ?_)
  · refine w_aload_n C dX11_valueNow_123 rfl 2 rfl ?_
    refine w_get C 0 40 (Nat.le_of_ble_eq_true rfl) rfl rfl inB_X11 (by decide) tw6_201 rfl dX11_valueNow_124 rfl ?_
    refine w_iconst C 0 dX11_valueNow_127 rfl (by decide) ?_
    refine w_ialdc C 25 64 0 0 (Nat.le_of_ble_eq_true rfl) (fun _ => rfl) rfl (by decide) (by show ¬ (_ ∨ _); decide) dX11_valueNow_128 rfl ?_
    exact w_ri2 hr h (by decide) dX11_valueNow_129
  · refine w_aload_n C dX11_valueNow_14 rfl 2 rfl ?_
    refine w_get C 0 15 (Nat.le_of_ble_eq_true rfl) rfl rfl inB_X11 (by decide) tw6_176 rfl dX11_valueNow_15 rfl ?_
    refine w_iload_n C dX11_valueNow_18 rfl 0 rfl ?_
    refine w_iald C 15 1400 0 (Nat.le_of_ble_eq_true rfl) (fun _ => rfl) rfl h dX11_valueNow_19 rfl (fun h => ?_)
    refine w_nm h (fun x4 h => ?_)
    refine w_istore_n C [(3, .int x4), (2, .int v1.2.1), (1, .int v1.2.2), (0, .ref (ad 0))] dX11_valueNow_20 rfl (by decide) rfl ?_
    refine w_iload_n C dX11_valueNow_21 rfl 0 rfl ?_
    refine w_bipush C (-20) dX11_valueNow_22 rfl (by decide) ?_
    refine w_icmp_le C (qt := 55) dX11_valueNow_24 (by decide) rfl h (fun _ h => ?_) (fun _ h => ?_)
    · refine w_iload_n C dX11_valueNow_55 rfl 0 rfl ?_
      refine w_bipush C (-28) dX11_valueNow_56 rfl (by decide) ?_
      refine w_icmp_ne C (qt := 88) dX11_valueNow_58 (by decide) rfl h (fun _ h => ?_) (fun _ h => ?_)
      · refine w_iinc (j := 2) C (v1.2.2 + Int32.ofInt (-1)) [(1, .int (v1.2.2 + Int32.ofInt (-1))), (3, .int x4), (2, .int v1.2.1), (0, .ref (ad 0))] dX11_valueNow_88 rfl rfl rfl (by decide) rfl ?_
        refine w_aload_n C dX11_valueNow_91 rfl 3 rfl ?_
        refine w_get C 0 40 (Nat.le_of_ble_eq_true rfl) rfl rfl inB_X11 (by decide) tw6_201 rfl dX11_valueNow_92 rfl ?_
        refine w_iload_n C dX11_valueNow_95 rfl 0 rfl ?_
        refine w_iconst C 1 dX11_valueNow_96 rfl (by decide) ?_
        refine w_isub C dX11_valueNow_97 rfl ?_
        refine w_iload_n C dX11_valueNow_98 rfl 1 rfl ?_
        refine w_aload_n C dX11_valueNow_99 rfl 3 rfl ?_
        refine w_get C 0 40 (Nat.le_of_ble_eq_true rfl) rfl rfl inB_X11 (by decide) tw6_201 rfl dX11_valueNow_100 rfl ?_
        refine w_iload_n C dX11_valueNow_103 rfl 0 rfl ?_
        refine w_iconst C 1 dX11_valueNow_104 rfl (by decide) ?_
        refine w_isub C dX11_valueNow_105 rfl ?_
        refine w_iald C 25 64 0 (Nat.le_of_ble_eq_true rfl) (fun _ => rfl) rfl h dX11_valueNow_106 rfl (fun h => ?_)
        refine w_aload_n C dX11_valueNow_107 rfl 3 rfl ?_
        refine w_get C 0 40 (Nat.le_of_ble_eq_true rfl) rfl rfl inB_X11 (by decide) tw6_201 rfl dX11_valueNow_108 rfl ?_
        refine w_iload_n C dX11_valueNow_111 rfl 0 rfl ?_
        refine w_iald C 25 64 0 (Nat.le_of_ble_eq_true rfl) (fun _ => rfl) rfl h dX11_valueNow_112 rfl (fun h => ?_)
        refine bd1_w h (fun r5 hc h => ?_)
        refine w_callSi C (n := 3) (As := [.int x4, .int (v1.1 25 (Int32.toNatClampNeg ((v1.2.2 + Int32.ofInt (-1)) - 1))), .int (v1.1 25 (Int32.toNatClampNeg (v1.2.2 + Int32.ofInt (-1))))]) (st := [.int ((v1.2.2 + Int32.ofInt (-1)) - 1), .ref (ad 25)]) (cfX11_reckon D cI cT ad (l := X.2.1) C.2.2.1 hc) tw8_88 cs_X11_reckon (by decide +kernel) ⟨Nat.le_of_ble_eq_true rfl, Nat.le_of_ble_eq_true rfl⟩ (by decide) rfl rfl (Nat.le_of_ble_eq_true rfl) dX11_valueNow_113 rfl ?_
        refine w_iast C 25 64 0 (Nat.le_of_ble_eq_true rfl) (fun _ => rfl) rfl h dX11_valueNow_116 rfl (fun h => ?_)
        refine w_nst h (fun u6 h => ?_)
        refine w_iinc (j := 2) C (v1.2.1 + 1) [(2, .int (v1.2.1 + 1)), (1, .int (v1.2.2 + Int32.ofInt (-1))), (3, .int x4), (0, .ref (ad 0))] dX11_valueNow_117 rfl rfl rfl (by decide) rfl ?_
        refine w_goto (q := 4) C dX11_valueNow_120 (by decide) ?_
        exact w_sub (lv' := [(2, .int (v1.2.1 + 1)), (1, .int (v1.2.2 + Int32.ofInt (-1))), (0, .ref (ad 0))]) [0, 1, 3] rfl (hK3 ((u6, v1.2.1 + 1, v1.2.2 + Int32.ofInt (-1))) h)
      · refine w_aload_n C dX11_valueNow_61 rfl 3 rfl ?_
        refine w_get C 0 40 (Nat.le_of_ble_eq_true rfl) rfl rfl inB_X11 (by decide) tw6_201 rfl dX11_valueNow_62 rfl ?_
        refine w_iload_n C dX11_valueNow_65 rfl 2 rfl ?_
        refine w_iconst C 1 dX11_valueNow_66 rfl (by decide) ?_
        refine w_isub C dX11_valueNow_67 rfl ?_
        refine w_aload_n C dX11_valueNow_68 rfl 3 rfl ?_
        refine w_get C 0 40 (Nat.le_of_ble_eq_true rfl) rfl rfl inB_X11 (by decide) tw6_201 rfl dX11_valueNow_69 rfl ?_
        refine w_iload_n C dX11_valueNow_72 rfl 2 rfl ?_
        refine w_iconst C 1 dX11_valueNow_73 rfl (by decide) ?_
        refine w_isub C dX11_valueNow_74 rfl ?_
        refine w_iald C 25 64 0 (Nat.le_of_ble_eq_true rfl) (fun _ => rfl) rfl h dX11_valueNow_75 rfl (fun h => ?_)
        refine w_if_eq C (qt := 83) dX11_valueNow_76 (by decide) rfl h (fun _ h => ?_) (fun _ h => ?_)
        · refine w_iconst C 1 dX11_valueNow_83 rfl (by decide) ?_
          refine w_iast C 25 64 0 (Nat.le_of_ble_eq_true rfl) (fun _ => rfl) rfl h dX11_valueNow_84 rfl (fun h => ?_)
          refine w_nst h (fun u7 h => ?_)
          refine w_goto (q := 117) C dX11_valueNow_85 (by decide) ?_
          refine w_iinc (j := 1) C (v1.2.1 + 1) [(2, .int (v1.2.1 + 1)), (3, .int x4), (1, .int v1.2.2), (0, .ref (ad 0))] dX11_valueNow_117 rfl rfl rfl (by decide) rfl ?_
          refine w_goto (q := 4) C dX11_valueNow_120 (by decide) ?_
          exact w_sub (lv' := [(2, .int (v1.2.1 + 1)), (1, .int v1.2.2), (0, .ref (ad 0))]) [0, 2, 3] rfl (hK3 ((u7, v1.2.1 + 1, v1.2.2)) h)
        · refine w_iconst C 0 dX11_valueNow_79 rfl (by decide) ?_
          refine w_goto (q := 84) C dX11_valueNow_80 (by decide) ?_
          refine w_iast C 25 64 0 (Nat.le_of_ble_eq_true rfl) (fun _ => rfl) rfl h dX11_valueNow_84 rfl (fun h => ?_)
          refine w_nst h (fun u8 h => ?_)
          refine w_goto (q := 117) C dX11_valueNow_85 (by decide) ?_
          refine w_iinc (j := 1) C (v1.2.1 + 1) [(2, .int (v1.2.1 + 1)), (3, .int x4), (1, .int v1.2.2), (0, .ref (ad 0))] dX11_valueNow_117 rfl rfl rfl (by decide) rfl ?_
          refine w_goto (q := 4) C dX11_valueNow_120 (by decide) ?_
          exact w_sub (lv' := [(2, .int (v1.2.1 + 1)), (1, .int v1.2.2), (0, .ref (ad 0))]) [0, 2, 3] rfl (hK3 ((u8, v1.2.1 + 1, v1.2.2)) h)
    · refine w_aload_n C dX11_valueNow_27 rfl 3 rfl ?_
      refine w_get C 0 40 (Nat.le_of_ble_eq_true rfl) rfl rfl inB_X11 (by decide) tw6_201 rfl dX11_valueNow_28 rfl ?_
      refine w_iload_n C dX11_valueNow_31 rfl 2 rfl ?_
      refine w_iload_n C dX11_valueNow_32 rfl 0 rfl ?_
      refine w_if_lt C (qt := 40) dX11_valueNow_33 (by decide) rfl h (fun _ h => ?_) (fun _ h => ?_)
      · refine w_aload_n C dX11_valueNow_40 rfl 3 rfl ?_
        refine w_get C 0 39 (Nat.le_of_ble_eq_true rfl) rfl rfl inB_X11 (by decide) tw6_200 rfl dX11_valueNow_41 rfl ?_
        refine w_iconst C (-1) dX11_valueNow_44 rfl (by decide) ?_
        refine w_iload_n C dX11_valueNow_45 rfl 0 rfl ?_
        refine w_isub C dX11_valueNow_46 rfl ?_
        refine w_iald C 24 6 0 (Nat.le_of_ble_eq_true rfl) (fun _ => rfl) rfl h dX11_valueNow_47 rfl (fun h => ?_)
        refine w_iast C 25 64 0 (Nat.le_of_ble_eq_true rfl) (fun _ => rfl) rfl h dX11_valueNow_48 rfl (fun h => ?_)
        refine w_nst h (fun u9 h => ?_)
        refine w_iinc (j := 2) C (v1.2.2 + 1) [(1, .int (v1.2.2 + 1)), (3, .int x4), (2, .int v1.2.1), (0, .ref (ad 0))] dX11_valueNow_49 rfl rfl rfl (by decide) rfl ?_
        refine w_goto (q := 117) C dX11_valueNow_52 (by decide) ?_
        refine w_iinc (j := 2) C (v1.2.1 + 1) [(2, .int (v1.2.1 + 1)), (1, .int (v1.2.2 + 1)), (3, .int x4), (0, .ref (ad 0))] dX11_valueNow_117 rfl rfl rfl (by decide) rfl ?_
        refine w_goto (q := 4) C dX11_valueNow_120 (by decide) ?_
        exact w_sub (lv' := [(2, .int (v1.2.1 + 1)), (1, .int (v1.2.2 + 1)), (0, .ref (ad 0))]) [0, 1, 3] rfl (hK3 ((u9, v1.2.1 + 1, v1.2.2 + 1)) h)
      · refine w_iload_n C dX11_valueNow_36 rfl 0 rfl ?_
        refine w_goto (q := 48) C dX11_valueNow_37 (by decide) ?_
        refine w_iast C 25 64 0 (Nat.le_of_ble_eq_true rfl) (fun _ => rfl) rfl h dX11_valueNow_48 rfl (fun h => ?_)
        refine w_nst h (fun u10 h => ?_)
        refine w_iinc (j := 2) C (v1.2.2 + 1) [(1, .int (v1.2.2 + 1)), (3, .int x4), (2, .int v1.2.1), (0, .ref (ad 0))] dX11_valueNow_49 rfl rfl rfl (by decide) rfl ?_
        refine w_goto (q := 117) C dX11_valueNow_52 (by decide) ?_
        refine w_iinc (j := 2) C (v1.2.1 + 1) [(2, .int (v1.2.1 + 1)), (1, .int (v1.2.2 + 1)), (3, .int x4), (0, .ref (ad 0))] dX11_valueNow_117 rfl rfl rfl (by decide) rfl ?_
        refine w_goto (q := 4) C dX11_valueNow_120 (by decide) ?_
        exact w_sub (lv' := [(2, .int (v1.2.1 + 1)), (1, .int (v1.2.2 + 1)), (0, .ref (ad 0))]) [0, 1, 3] rfl (hK3 ((u10, v1.2.1 + 1, v1.2.2 + 1)) h)
theorem cfX11_valueNow (D : va_G) (cI cT : ClassId) (ad : Nat → Nat) {l : Launch} (had : gAp (gM D cI cT ad)) {F : Nat} {σ : St}  {r : Int32} {σ' : St} (h : fX11_valueNow F σ = some (r, σ')) : MI l yX11_valueNow (wB yX11_valueNow cX11_valueNow 4 (some .int)) 1 22 (gM D cI cT ad) [.ref (ad 0)] σ r σ' := mk_MI had (by decide +kernel) (Nat.le_of_ble_eq_true rfl) (fun X hX C hr => wfX11_valueNow C hr h)

def fX11_limitOf (F : Nat) (σ : St) (a0 : Int32) (a1 : Int32) (a2 : Int32) (a3 : Int32) : Option (Int32 × St) := nm ((10 * a0) + a1) fun x1 => if (σ 5 3) = 0 then (ckI (x1) 160 (some ((σ 13 (Int32.toNatClampNeg x1)) * a3, σ))) else ckI (x1) 160 (nm (up σ 24 0 (σ 13 (Int32.toNatClampNeg x1))) fun u2 => ckI (x1) 160 (nm (up u2 24 1 (u2 14 (Int32.toNatClampNeg x1))) fun u3 => nm (up u3 24 2 a3) fun u4 => ckI (x1) 160 (jn (fun v5 : Int32 => nm (up u4 24 3 v5) fun u8 => nm (up u8 24 4 a1) fun u9 => jn (fun v10 : Int32 => nm (up u9 24 5 v10) fun u13 => bd2 (fX11_valueNow F u13) fun r14 u15 => some (if 0 < (if r14 < 99 then r14 else 99) then (if r14 < 99 then r14 else 99) else 0, u15)) fun J11 => if a2 = 0 then (J11 1) else J11 0) fun J6 => if (u4 11 (Int32.toNatClampNeg x1)) = (2 : Int32) then (J6 1) else J6 0)))
set_option maxRecDepth 20000 in
theorem wfX11_limitOf {X : XT} {D : va_G} {cI cT : ClassId} {ad : Nat → Nat} {F : Nat} {σ : St} {a0 : Int32} {a1 : Int32} {a2 : Int32} {a3 : Int32} {r : Int32} {σ' : St} (C : Cx X (gM D cI cT ad) cX11_limitOf 6 RX11 2 45 0) (hr : RetI X (gM D cI cT ad) cX11_limitOf 6 0 r σ') (h : fX11_limitOf F σ a0 a1 a2 a3 = some (r, σ')) : WP X (gM D cI cT ad) 6 0 0 σ [(0, .ref (ad 0)), (1, .int a0), (2, .int a1), (3, .int a2), (4, .int a3)] [] := by
  unfold fX11_limitOf at h
  refine w_bipush C 10 dX11_limitOf_0 rfl (by decide) ?_
  refine w_iload_n C dX11_limitOf_2 rfl 1 rfl ?_
  refine w_imul C dX11_limitOf_3 rfl ?_
  refine w_iload_n C dX11_limitOf_4 rfl 2 rfl ?_
  refine w_iadd C dX11_limitOf_5 rfl ?_
  refine w_nm h (fun x1 h => ?_)
  refine w_istore C [(5, .int x1), (0, .ref (ad 0)), (1, .int a0), (2, .int a1), (3, .int a2), (4, .int a3)] dX11_limitOf_6 rfl (by decide) rfl ?_
  refine w_aload_n C dX11_limitOf_8 rfl 1 rfl ?_
  refine w_get C 0 5 (Nat.le_of_ble_eq_true rfl) rfl rfl inB_X11 (by decide) tw6_166 rfl dX11_limitOf_9 rfl ?_
  refine w_iconst C 3 dX11_limitOf_12 rfl (by decide) ?_
  refine w_ialdc C 5 8 0 3 (Nat.le_of_ble_eq_true rfl) (fun _ => rfl) rfl (by decide) (by show ¬ (_ ∨ _); decide) dX11_limitOf_13 rfl ?_
  refine w_if_ne C (qt := 28) dX11_limitOf_14 (by decide) rfl h (fun _ h => ?_) (fun _ h => ?_)
  · refine w_aload_n C dX11_limitOf_28 rfl 1 rfl ?_
    refine w_get C 0 39 (Nat.le_of_ble_eq_true rfl) rfl rfl inB_X11 (by decide) tw6_200 rfl dX11_limitOf_29 rfl ?_
    refine w_iconst C 0 dX11_limitOf_32 rfl (by decide) ?_
    refine w_aload_n C dX11_limitOf_33 rfl 1 rfl ?_
    refine w_get C 0 13 (Nat.le_of_ble_eq_true rfl) rfl rfl inB_X11 (by decide) tw6_174 rfl dX11_limitOf_34 rfl ?_
    refine w_iload C dX11_limitOf_37 rfl 0 rfl ?_
    refine w_iald C 13 160 0 (Nat.le_of_ble_eq_true rfl) (fun _ => rfl) rfl h dX11_limitOf_39 rfl (fun h => ?_)
    refine w_iastc C 24 6 0 0 (Nat.le_of_ble_eq_true rfl) (fun _ => rfl) rfl (by decide) (by show ¬ (_ ∨ _); decide) dX11_limitOf_40 rfl ?_
    refine w_nst h (fun u2 h => ?_)
    refine w_aload_n C dX11_limitOf_41 rfl 1 rfl ?_
    refine w_get C 0 39 (Nat.le_of_ble_eq_true rfl) rfl rfl inB_X11 (by decide) tw6_200 rfl dX11_limitOf_42 rfl ?_
    refine w_iconst C 1 dX11_limitOf_45 rfl (by decide) ?_
    refine w_aload_n C dX11_limitOf_46 rfl 1 rfl ?_
    refine w_get C 0 14 (Nat.le_of_ble_eq_true rfl) rfl rfl inB_X11 (by decide) tw6_175 rfl dX11_limitOf_47 rfl ?_
    refine w_iload C dX11_limitOf_50 rfl 0 rfl ?_
    refine w_iald C 14 160 0 (Nat.le_of_ble_eq_true rfl) (fun _ => rfl) rfl h dX11_limitOf_52 rfl (fun h => ?_)
    refine w_iastc C 24 6 0 1 (Nat.le_of_ble_eq_true rfl) (fun _ => rfl) rfl (by decide) (by show ¬ (_ ∨ _); decide) dX11_limitOf_53 rfl ?_
    refine w_nst h (fun u3 h => ?_)
    refine w_aload_n C dX11_limitOf_54 rfl 1 rfl ?_
    refine w_get C 0 39 (Nat.le_of_ble_eq_true rfl) rfl rfl inB_X11 (by decide) tw6_200 rfl dX11_limitOf_55 rfl ?_
    refine w_iconst C 2 dX11_limitOf_58 rfl (by decide) ?_
    refine w_iload C dX11_limitOf_59 rfl 5 rfl ?_
    refine w_iastc C 24 6 0 2 (Nat.le_of_ble_eq_true rfl) (fun _ => rfl) rfl (by decide) (by show ¬ (_ ∨ _); decide) dX11_limitOf_61 rfl ?_
    refine w_nst h (fun u4 h => ?_)
    refine w_aload_n C dX11_limitOf_62 rfl 1 rfl ?_
    refine w_get C 0 39 (Nat.le_of_ble_eq_true rfl) rfl rfl inB_X11 (by decide) tw6_200 rfl dX11_limitOf_63 rfl ?_
    refine w_iconst C 3 dX11_limitOf_66 rfl (by decide) ?_
    refine w_aload_n C dX11_limitOf_67 rfl 1 rfl ?_
    refine w_get C 0 11 (Nat.le_of_ble_eq_true rfl) rfl rfl inB_X11 (by decide) tw6_172 rfl dX11_limitOf_68 rfl ?_
    refine w_iload C dX11_limitOf_71 rfl 0 rfl ?_
    refine w_iald C 11 160 0 (Nat.le_of_ble_eq_true rfl) (fun _ => rfl) rfl h dX11_limitOf_73 rfl (fun h => ?_)
    refine w_iconst C 2 dX11_limitOf_74 rfl (by decide) ?_
    refine jn_w (fun v5 : Int32 => WP X (gM D cI cT ad) 6 0 83 u4 [(0, .ref (ad 0)), (2, .int a1), (3, .int a2)] [.int v5, .int 3, .ref (ad 24)]) h (fun v5 h => ?_) (fun J6 hJ7 h => ?_)
    · refine w_iastc C 24 6 0 3 (Nat.le_of_ble_eq_true rfl) (fun _ => rfl) rfl (by decide) (by show ¬ (_ ∨ _); decide) dX11_limitOf_83 rfl ?_
      refine w_nst h (fun u8 h => ?_)
      refine w_aload_n C dX11_limitOf_84 rfl 0 rfl ?_
      refine w_get C 0 39 (Nat.le_of_ble_eq_true rfl) rfl rfl inB_X11 (by decide) tw6_200 rfl dX11_limitOf_85 rfl ?_
      refine w_iconst C 4 dX11_limitOf_88 rfl (by decide) ?_
      refine w_iload_n C dX11_limitOf_89 rfl 1 rfl ?_
      refine w_iastc C 24 6 0 4 (Nat.le_of_ble_eq_true rfl) (fun _ => rfl) rfl (by decide) (by show ¬ (_ ∨ _); decide) dX11_limitOf_90 rfl ?_
      refine w_nst h (fun u9 h => ?_)
      refine w_aload_n C dX11_limitOf_91 rfl 0 rfl ?_
      refine w_get C 0 39 (Nat.le_of_ble_eq_true rfl) rfl rfl inB_X11 (by decide) tw6_200 rfl dX11_limitOf_92 rfl ?_
      refine w_iconst C 5 dX11_limitOf_95 rfl (by decide) ?_
      refine w_iload_n C dX11_limitOf_96 rfl 2 rfl ?_
      refine jn_w (fun v10 : Int32 => WP X (gM D cI cT ad) 6 0 105 u9 [(0, .ref (ad 0))] [.int v10, .int 5, .ref (ad 24)]) h (fun v10 h => ?_) (fun J11 hJ12 h => ?_)
      · refine w_iastc C 24 6 0 5 (Nat.le_of_ble_eq_true rfl) (fun _ => rfl) rfl (by decide) (by show ¬ (_ ∨ _); decide) dX11_limitOf_105 rfl ?_
        refine w_nst h (fun u13 h => ?_)
        refine w_iconst C 0 dX11_limitOf_106 rfl (by decide) ?_
        refine w_bipush C 99 dX11_limitOf_107 rfl (by decide) ?_
        refine w_aload_n C dX11_limitOf_109 rfl 0 rfl ?_
        refine bd2_w h (fun r14 u15 hc h => ?_)
        refine w_callVi C (n := 0) (As := []) (st := [.int 99, .int 0]) 0 (Nat.le_of_ble_eq_true rfl) rfl rfl (cfX11_valueNow D cI cT ad (l := X.2.1) C.2.2.1 hc) tw8_84 cy_X11_valueNow (by decide +kernel) ⟨Nat.le_of_ble_eq_true rfl, Nat.le_of_ble_eq_true rfl⟩ (by decide) rfl rfl (Nat.le_of_ble_eq_true rfl) dX11_limitOf_110 rfl ?_
        refine w_mmin C (all4 tw7_136 tw3_112 tw1_17 tw3_113) ⟨Nat.le_of_ble_eq_true rfl, Nat.le_of_ble_eq_true rfl⟩ (by decide) dX11_limitOf_113 rfl ?_
        refine w_mmax C (all4 tw7_211 tw4_199 tw1_17 tw4_200) ⟨Nat.le_of_ble_eq_true rfl, Nat.le_of_ble_eq_true rfl⟩ (by decide) dX11_limitOf_116 rfl ?_
        exact w_ri2 hr h (by decide) dX11_limitOf_119
      · refine w_if_ne C (qt := 104) dX11_limitOf_97 (by decide) rfl h (fun _ h => ?_) (fun _ h => ?_)
        · refine w_iconst C 0 dX11_limitOf_104 rfl (by decide) ?_
          exact w_sub (lv' := [(0, .ref (ad 0))]) [0] rfl (hJ12 0 h)
        · refine w_iconst C 1 dX11_limitOf_100 rfl (by decide) ?_
          refine w_goto (q := 105) C dX11_limitOf_101 (by decide) ?_
          exact w_sub (lv' := [(0, .ref (ad 0))]) [0] rfl (hJ12 1 h)
    · refine w_icmp_ne C (qt := 82) dX11_limitOf_75 (by decide) rfl h (fun _ h => ?_) (fun _ h => ?_)
      · refine w_iconst C 0 dX11_limitOf_82 rfl (by decide) ?_
        exact w_sub (lv' := [(0, .ref (ad 0)), (2, .int a1), (3, .int a2)]) [1, 3, 4] rfl (hJ7 0 h)
      · refine w_iconst C 1 dX11_limitOf_78 rfl (by decide) ?_
        refine w_goto (q := 83) C dX11_limitOf_79 (by decide) ?_
        exact w_sub (lv' := [(0, .ref (ad 0)), (2, .int a1), (3, .int a2)]) [1, 3, 4] rfl (hJ7 1 h)
  · refine w_aload_n C dX11_limitOf_17 rfl 1 rfl ?_
    refine w_get C 0 13 (Nat.le_of_ble_eq_true rfl) rfl rfl inB_X11 (by decide) tw6_174 rfl dX11_limitOf_18 rfl ?_
    refine w_iload C dX11_limitOf_21 rfl 0 rfl ?_
    refine w_iald C 13 160 0 (Nat.le_of_ble_eq_true rfl) (fun _ => rfl) rfl h dX11_limitOf_23 rfl (fun h => ?_)
    refine w_iload C dX11_limitOf_24 rfl 5 rfl ?_
    refine w_imul C dX11_limitOf_26 rfl ?_
    exact w_ri2 hr h (by decide) dX11_limitOf_27
theorem cfX11_limitOf (D : va_G) (cI cT : ClassId) (ad : Nat → Nat) {l : Launch} (had : gAp (gM D cI cT ad)) {F : Nat} {σ : St} {a0 : Int32} {a1 : Int32} {a2 : Int32} {a3 : Int32} {r : Int32} {σ' : St} (h : fX11_limitOf F σ a0 a1 a2 a3 = some (r, σ')) : MI l yX11_limitOf (wB yX11_limitOf cX11_limitOf 6 (some .int)) 2 45 (gM D cI cT ad) [.ref (ad 0), .int a0, .int a1, .int a2, .int a3] σ r σ' := mk_MI had (by decide +kernel) (Nat.le_of_ble_eq_true rfl) (fun X hX C hr => wfX11_limitOf C hr h)

def fX11_isClause (F : Nat) (σ : St) (a0 : Int32) (a1 : Int32) : Option Int32 := nm ((10 * a0) + a1) fun x1 => ckI (x1) 160 (jn (fun v2 : Unit => ckI (x1) 160 (if (σ 13 (Int32.toNatClampNeg x1)) = 0 then (some 0) else some 1)) fun J3 => if (σ 11 (Int32.toNatClampNeg x1)) = 0 then (J3 (())) else ckI (x1) 160 (if (σ 11 (Int32.toNatClampNeg x1)) = (2 : Int32) then (J3 (())) else some 0))
set_option maxRecDepth 20000 in
theorem wfX11_isClause {X : XT} {D : va_G} {cI cT : ClassId} {ad : Nat → Nat} {F : Nat} {σ : St} {a0 : Int32} {a1 : Int32} {r : Int32} (C : Cx X (gM D cI cT ad) cX11_isClause 4 RX11 0 0 0) (hr : RetZ X (gM D cI cT ad) cX11_isClause 4 0 r σ) (h : fX11_isClause F σ a0 a1 = some r) : WP X (gM D cI cT ad) 4 0 0 σ [(0, .ref (ad 0)), (1, .int a0), (2, .int a1)] [] := by
  unfold fX11_isClause at h
  refine w_bipush C 10 dX11_isClause_0 rfl (by decide) ?_
  refine w_iload_n C dX11_isClause_2 rfl 1 rfl ?_
  refine w_imul C dX11_isClause_3 rfl ?_
  refine w_iload_n C dX11_isClause_4 rfl 2 rfl ?_
  refine w_iadd C dX11_isClause_5 rfl ?_
  refine w_nm h (fun x1 h => ?_)
  refine w_istore_n C [(3, .int x1), (0, .ref (ad 0)), (1, .int a0), (2, .int a1)] dX11_isClause_6 rfl (by decide) rfl ?_
  refine w_aload_n C dX11_isClause_7 rfl 1 rfl ?_
  refine w_get C 0 11 (Nat.le_of_ble_eq_true rfl) rfl rfl inB_X11 (by decide) tw6_172 rfl dX11_isClause_8 rfl ?_
  refine w_iload_n C dX11_isClause_11 rfl 0 rfl ?_
  refine w_iald C 11 160 0 (Nat.le_of_ble_eq_true rfl) (fun _ => rfl) rfl h dX11_isClause_12 rfl (fun h => ?_)
  refine jn_w (fun v2 : Unit => WP X (gM D cI cT ad) 4 0 26 σ [(3, .int x1), (0, .ref (ad 0))] []) h (fun v2 h => ?_) (fun J3 hJ4 h => ?_)
  · refine w_aload_n C dX11_isClause_26 rfl 1 rfl ?_
    refine w_get C 0 13 (Nat.le_of_ble_eq_true rfl) rfl rfl inB_X11 (by decide) tw6_174 rfl dX11_isClause_27 rfl ?_
    refine w_iload_n C dX11_isClause_30 rfl 0 rfl ?_
    refine w_iald C 13 160 0 (Nat.le_of_ble_eq_true rfl) (fun _ => rfl) rfl h dX11_isClause_31 rfl (fun h => ?_)
    refine w_if_eq C (qt := 39) dX11_isClause_32 (by decide) rfl h (fun _ h => ?_) (fun _ h => ?_)
    · refine w_iconst C 0 dX11_isClause_39 rfl (by decide) ?_
      exact w_rz1 hr (by decide) h (by decide) dX11_isClause_40
    · refine w_iconst C 1 dX11_isClause_35 rfl (by decide) ?_
      refine w_goto (q := 40) C dX11_isClause_36 (by decide) ?_
      exact w_rz1 hr (by decide) h (by decide) dX11_isClause_40
  · refine w_if_eq C (qt := 26) dX11_isClause_13 (by decide) rfl h (fun _ h => ?_) (fun _ h => ?_)
    · exact w_sub (lv' := [(3, .int x1), (0, .ref (ad 0))]) [0, 1] rfl (hJ4 (()) h)
    · refine w_aload_n C dX11_isClause_16 rfl 1 rfl ?_
      refine w_get C 0 11 (Nat.le_of_ble_eq_true rfl) rfl rfl inB_X11 (by decide) tw6_172 rfl dX11_isClause_17 rfl ?_
      refine w_iload_n C dX11_isClause_20 rfl 0 rfl ?_
      refine w_iald C 11 160 0 (Nat.le_of_ble_eq_true rfl) (fun _ => rfl) rfl h dX11_isClause_21 rfl (fun h => ?_)
      refine w_iconst C 2 dX11_isClause_22 rfl (by decide) ?_
      refine w_icmp_ne C (qt := 39) dX11_isClause_23 (by decide) rfl h (fun _ h => ?_) (fun _ h => ?_)
      · refine w_iconst C 0 dX11_isClause_39 rfl (by decide) ?_
        exact w_rz1 hr (by decide) h (by decide) dX11_isClause_40
      · exact w_sub (lv' := [(3, .int x1), (0, .ref (ad 0))]) [0, 1] rfl (hJ4 (()) h)
theorem cfX11_isClause (D : va_G) (cI cT : ClassId) (ad : Nat → Nat) {l : Launch} (had : gAp (gM D cI cT ad)) {F : Nat} {σ : St} {a0 : Int32} {a1 : Int32} {r : Int32} (h : fX11_isClause F σ a0 a1 = some r) : MI l yX11_isClause (wB yX11_isClause cX11_isClause 4 (some .boolean)) 0 0 (gM D cI cT ad) [.ref (ad 0), .int a0, .int a1] σ r σ := mk_MZ had (by decide +kernel) (Nat.le_of_ble_eq_true rfl) (fun X hX C hr => wfX11_isClause C hr h)

def fX11_isOfHim (F : Nat) (σ : St) (a0 : Int32) (a1 : Int32) (a2 : Int32) : Option Int32 := nm ((10 * a0) + a1) fun x1 => ckI (x1) 160 (if (σ 12 (Int32.toNatClampNeg x1)) = (2 : Int32) then (some 1) else ckI (x1) 160 (if (σ 12 (Int32.toNatClampNeg x1)) = a2 then (some 1) else some 0))
set_option maxRecDepth 20000 in
theorem wfX11_isOfHim {X : XT} {D : va_G} {cI cT : ClassId} {ad : Nat → Nat} {F : Nat} {σ : St} {a0 : Int32} {a1 : Int32} {a2 : Int32} {r : Int32} (C : Cx X (gM D cI cT ad) cX11_isOfHim 5 RX11 0 0 0) (hr : RetZ X (gM D cI cT ad) cX11_isOfHim 5 0 r σ) (h : fX11_isOfHim F σ a0 a1 a2 = some r) : WP X (gM D cI cT ad) 5 0 0 σ [(0, .ref (ad 0)), (1, .int a0), (2, .int a1), (3, .int a2)] [] := by
  unfold fX11_isOfHim at h
  refine w_bipush C 10 dX11_isOfHim_0 rfl (by decide) ?_
  refine w_iload_n C dX11_isOfHim_2 rfl 1 rfl ?_
  refine w_imul C dX11_isOfHim_3 rfl ?_
  refine w_iload_n C dX11_isOfHim_4 rfl 2 rfl ?_
  refine w_iadd C dX11_isOfHim_5 rfl ?_
  refine w_nm h (fun x1 h => ?_)
  refine w_istore C [(4, .int x1), (0, .ref (ad 0)), (1, .int a0), (2, .int a1), (3, .int a2)] dX11_isOfHim_6 rfl (by decide) rfl ?_
  refine w_aload_n C dX11_isOfHim_8 rfl 1 rfl ?_
  refine w_get C 0 12 (Nat.le_of_ble_eq_true rfl) rfl rfl inB_X11 (by decide) tw6_173 rfl dX11_isOfHim_9 rfl ?_
  refine w_iload C dX11_isOfHim_12 rfl 0 rfl ?_
  refine w_iald C 12 160 0 (Nat.le_of_ble_eq_true rfl) (fun _ => rfl) rfl h dX11_isOfHim_14 rfl (fun h => ?_)
  refine w_iconst C 2 dX11_isOfHim_15 rfl (by decide) ?_
  refine w_icmp_eq C (qt := 30) dX11_isOfHim_16 (by decide) rfl h (fun _ h => ?_) (fun _ h => ?_)
  · refine w_iconst C 1 dX11_isOfHim_30 rfl (by decide) ?_
    refine w_goto (q := 35) C dX11_isOfHim_31 (by decide) ?_
    exact w_rz1 hr (by decide) h (by decide) dX11_isOfHim_35
  · refine w_aload_n C dX11_isOfHim_19 rfl 1 rfl ?_
    refine w_get C 0 12 (Nat.le_of_ble_eq_true rfl) rfl rfl inB_X11 (by decide) tw6_173 rfl dX11_isOfHim_20 rfl ?_
    refine w_iload C dX11_isOfHim_23 rfl 0 rfl ?_
    refine w_iald C 12 160 0 (Nat.le_of_ble_eq_true rfl) (fun _ => rfl) rfl h dX11_isOfHim_25 rfl (fun h => ?_)
    refine w_iload_n C dX11_isOfHim_26 rfl 4 rfl ?_
    refine w_icmp_ne C (qt := 34) dX11_isOfHim_27 (by decide) rfl h (fun _ h => ?_) (fun _ h => ?_)
    · refine w_iconst C 0 dX11_isOfHim_34 rfl (by decide) ?_
      exact w_rz1 hr (by decide) h (by decide) dX11_isOfHim_35
    · refine w_iconst C 1 dX11_isOfHim_30 rfl (by decide) ?_
      refine w_goto (q := 35) C dX11_isOfHim_31 (by decide) ?_
      exact w_rz1 hr (by decide) h (by decide) dX11_isOfHim_35
theorem cfX11_isOfHim (D : va_G) (cI cT : ClassId) (ad : Nat → Nat) {l : Launch} (had : gAp (gM D cI cT ad)) {F : Nat} {σ : St} {a0 : Int32} {a1 : Int32} {a2 : Int32} {r : Int32} (h : fX11_isOfHim F σ a0 a1 a2 = some r) : MI l yX11_isOfHim (wB yX11_isOfHim cX11_isOfHim 5 (some .boolean)) 0 0 (gM D cI cT ad) [.ref (ad 0), .int a0, .int a1, .int a2] σ r σ := mk_MZ had (by decide +kernel) (Nat.le_of_ble_eq_true rfl) (fun X hX C hr => wfX11_isOfHim C hr h)

def fX11_hasGlove (F : Nat) (σ : St) (a0 : Int32) (a1 : Int32) (a2 : Int32) : Option Int32 := lp (fun (K2 : Int32 → Option Int32) (v1 : Int32) => ckI (a0) 16 (if (σ 10 (Int32.toNatClampNeg a0)) ≤ v1 then (some 0) else ckI ((10 * a0) + v1) 160 (if (σ 11 (Int32.toNatClampNeg ((10 * a0) + v1))) = (3 : Int32) then (ckI ((10 * a0) + v1) 160 (if (σ 14 (Int32.toNatClampNeg ((10 * a0) + v1))) = a2 then (bd1 (fX11_isOfHim F σ a0 v1 a1) fun r4 => if r4 = 0 then (K2 (v1 + 1)) else some 1) else K2 (v1 + 1))) else K2 (v1 + 1)))) F 0
set_option maxRecDepth 20000 in
theorem wfX11_hasGlove {X : XT} {D : va_G} {cI cT : ClassId} {ad : Nat → Nat} {F : Nat} {σ : St} {a0 : Int32} {a1 : Int32} {a2 : Int32} {r : Int32} (C : Cx X (gM D cI cT ad) cX11_hasGlove 5 RX11 1 24 0) (hr : RetZ X (gM D cI cT ad) cX11_hasGlove 5 0 r σ) (h : fX11_hasGlove F σ a0 a1 a2 = some r) : WP X (gM D cI cT ad) 5 0 0 σ [(0, .ref (ad 0)), (1, .int a0), (2, .int a1), (3, .int a2)] [] := by
  unfold fX11_hasGlove at h
  refine w_iconst C 0 dX11_hasGlove_0 rfl (by decide) ?_
  refine w_istore C [(4, .int 0), (0, .ref (ad 0)), (1, .int a0), (2, .int a1), (3, .int a2)] dX11_hasGlove_1 rfl (by decide) rfl ?_
  refine w_sub (lv' := [(4, .int 0), (0, .ref (ad 0)), (1, .int a0), (2, .int a1), (3, .int a2)]) [0, 1, 2, 3, 4] rfl ?_
  refine lp_w (fun v1 : Int32 => WP X (gM D cI cT ad) 5 0 3 σ [(4, .int v1), (0, .ref (ad 0)), (1, .int a0), (2, .int a1), (3, .int a2)] []) (fun K2 hK3 v1 h => ?_) F _ h
  refine w_iload C dX11_hasGlove_3 rfl 0 rfl ?_
  refine w_aload_n C dX11_hasGlove_5 rfl 1 rfl ?_
  refine w_get C 0 10 (Nat.le_of_ble_eq_true rfl) rfl rfl inB_X11 (by decide) tw6_171 rfl dX11_hasGlove_6 rfl ?_
  refine w_iload_n C dX11_hasGlove_9 rfl 2 rfl ?_
  refine w_iald C 10 16 0 (Nat.le_of_ble_eq_true rfl) (fun _ => rfl) rfl h dX11_hasGlove_10 rfl (fun h => ?_)
  refine w_icmp_ge C (qt := 65) dX11_hasGlove_11 (by decide) rfl h (fun _ h => ?_) (fun _ h => ?_)
  · refine w_iconst C 0 dX11_hasGlove_65 rfl (by decide) ?_
    exact w_rz1 hr (by decide) h (by decide) dX11_hasGlove_66
  · refine w_aload_n C dX11_hasGlove_14 rfl 1 rfl ?_
    refine w_get C 0 11 (Nat.le_of_ble_eq_true rfl) rfl rfl inB_X11 (by decide) tw6_172 rfl dX11_hasGlove_15 rfl ?_
    refine w_bipush C 10 dX11_hasGlove_18 rfl (by decide) ?_
    refine w_iload_n C dX11_hasGlove_20 rfl 2 rfl ?_
    refine w_imul C dX11_hasGlove_21 rfl ?_
    refine w_iload C dX11_hasGlove_22 rfl 0 rfl ?_
    refine w_iadd C dX11_hasGlove_24 rfl ?_
    refine w_iald C 11 160 0 (Nat.le_of_ble_eq_true rfl) (fun _ => rfl) rfl h dX11_hasGlove_25 rfl (fun h => ?_)
    refine w_iconst C 3 dX11_hasGlove_26 rfl (by decide) ?_
    refine w_icmp_ne C (qt := 59) dX11_hasGlove_27 (by decide) rfl h (fun _ h => ?_) (fun _ h => ?_)
    · refine w_iinc (j := 0) C (v1 + 1) [(4, .int (v1 + 1)), (0, .ref (ad 0)), (1, .int a0), (2, .int a1), (3, .int a2)] dX11_hasGlove_59 rfl rfl rfl (by decide) rfl ?_
      refine w_goto (q := 3) C dX11_hasGlove_62 (by decide) ?_
      exact w_sub (lv' := [(4, .int (v1 + 1)), (0, .ref (ad 0)), (1, .int a0), (2, .int a1), (3, .int a2)]) [0, 1, 2, 3, 4] rfl (hK3 (v1 + 1) h)
    · refine w_aload_n C dX11_hasGlove_30 rfl 1 rfl ?_
      refine w_get C 0 14 (Nat.le_of_ble_eq_true rfl) rfl rfl inB_X11 (by decide) tw6_175 rfl dX11_hasGlove_31 rfl ?_
      refine w_bipush C 10 dX11_hasGlove_34 rfl (by decide) ?_
      refine w_iload_n C dX11_hasGlove_36 rfl 2 rfl ?_
      refine w_imul C dX11_hasGlove_37 rfl ?_
      refine w_iload C dX11_hasGlove_38 rfl 0 rfl ?_
      refine w_iadd C dX11_hasGlove_40 rfl ?_
      refine w_iald C 14 160 0 (Nat.le_of_ble_eq_true rfl) (fun _ => rfl) rfl h dX11_hasGlove_41 rfl (fun h => ?_)
      refine w_iload_n C dX11_hasGlove_42 rfl 4 rfl ?_
      refine w_icmp_ne C (qt := 59) dX11_hasGlove_43 (by decide) rfl h (fun _ h => ?_) (fun _ h => ?_)
      · refine w_iinc (j := 0) C (v1 + 1) [(4, .int (v1 + 1)), (0, .ref (ad 0)), (1, .int a0), (2, .int a1), (3, .int a2)] dX11_hasGlove_59 rfl rfl rfl (by decide) rfl ?_
        refine w_goto (q := 3) C dX11_hasGlove_62 (by decide) ?_
        exact w_sub (lv' := [(4, .int (v1 + 1)), (0, .ref (ad 0)), (1, .int a0), (2, .int a1), (3, .int a2)]) [0, 1, 2, 3, 4] rfl (hK3 (v1 + 1) h)
      · refine w_aload_n C dX11_hasGlove_46 rfl 1 rfl ?_
        refine w_iload_n C dX11_hasGlove_47 rfl 2 rfl ?_
        refine w_iload C dX11_hasGlove_48 rfl 0 rfl ?_
        refine w_iload_n C dX11_hasGlove_50 rfl 3 rfl ?_
        refine bd1_w h (fun r4 hc h => ?_)
        refine w_callVi C (n := 3) (As := [.int a0, .int v1, .int a1]) (st := []) 0 (Nat.le_of_ble_eq_true rfl) rfl rfl (cfX11_isOfHim D cI cT ad (l := X.2.1) C.2.2.1 hc) tw8_72 cy_X11_isOfHim (by decide +kernel) ⟨Nat.le_of_ble_eq_true rfl, Nat.le_of_ble_eq_true rfl⟩ (by decide) rfl rfl (Nat.le_of_ble_eq_true rfl) dX11_hasGlove_51 rfl ?_
        refine w_if_eq C (qt := 59) dX11_hasGlove_54 (by decide) rfl h (fun _ h => ?_) (fun _ h => ?_)
        · refine w_iinc (j := 0) C (v1 + 1) [(4, .int (v1 + 1)), (0, .ref (ad 0)), (1, .int a0), (2, .int a1), (3, .int a2)] dX11_hasGlove_59 rfl rfl rfl (by decide) rfl ?_
          refine w_goto (q := 3) C dX11_hasGlove_62 (by decide) ?_
          exact w_sub (lv' := [(4, .int (v1 + 1)), (0, .ref (ad 0)), (1, .int a0), (2, .int a1), (3, .int a2)]) [0, 1, 2, 3, 4] rfl (hK3 (v1 + 1) h)
        · refine w_iconst C 1 dX11_hasGlove_57 rfl (by decide) ?_
          exact w_rz1 hr (by decide) h (by decide) dX11_hasGlove_58
theorem cfX11_hasGlove (D : va_G) (cI cT : ClassId) (ad : Nat → Nat) {l : Launch} (had : gAp (gM D cI cT ad)) {F : Nat} {σ : St} {a0 : Int32} {a1 : Int32} {a2 : Int32} {r : Int32} (h : fX11_hasGlove F σ a0 a1 a2 = some r) : MI l yX11_hasGlove (wB yX11_hasGlove cX11_hasGlove 5 (some .boolean)) 1 24 (gM D cI cT ad) [.ref (ad 0), .int a0, .int a1, .int a2] σ r σ := mk_MZ had (by decide +kernel) (Nat.le_of_ble_eq_true rfl) (fun X hX C hr => wfX11_hasGlove C hr h)

def fX11_binds (F : Nat) (σ : St) (a0 : Int32) (a1 : Int32) (a2 : Int32) : Option Int32 := bd1 (fX11_isClause F σ a0 a1) fun r1 => if r1 = 0 then (some 0) else bd1 (fX11_isOfHim F σ a0 a1 a2) fun r2 => if r2 = 0 then (some 0) else ckI ((10 * a0) + a1) 160 (bd1 (fX11_hasGlove F σ a0 a2 (σ 14 (Int32.toNatClampNeg ((10 * a0) + a1)))) fun r3 => if r3 = 0 then (some 1) else some 0)
set_option maxRecDepth 20000 in
theorem wfX11_binds {X : XT} {D : va_G} {cI cT : ClassId} {ad : Nat → Nat} {F : Nat} {σ : St} {a0 : Int32} {a1 : Int32} {a2 : Int32} {r : Int32} (C : Cx X (gM D cI cT ad) cX11_binds 4 RX11 2 48 0) (hr : RetZ X (gM D cI cT ad) cX11_binds 4 0 r σ) (h : fX11_binds F σ a0 a1 a2 = some r) : WP X (gM D cI cT ad) 4 0 0 σ [(0, .ref (ad 0)), (1, .int a0), (2, .int a1), (3, .int a2)] [] := by
  unfold fX11_binds at h
  refine w_aload_n C dX11_binds_0 rfl 0 rfl ?_
  refine w_iload_n C dX11_binds_1 rfl 1 rfl ?_
  refine w_iload_n C dX11_binds_2 rfl 2 rfl ?_
  refine bd1_w h (fun r1 hc h => ?_)
  refine w_callVi C (n := 2) (As := [.int a0, .int a1]) (st := []) 0 (Nat.le_of_ble_eq_true rfl) rfl rfl (cfX11_isClause D cI cT ad (l := X.2.1) C.2.2.1 hc) tw8_68 cy_X11_isClause (by decide +kernel) ⟨Nat.le_of_ble_eq_true rfl, Nat.le_of_ble_eq_true rfl⟩ (by decide) rfl rfl (Nat.le_of_ble_eq_true rfl) dX11_binds_3 rfl ?_
  refine w_if_eq C (qt := 43) dX11_binds_6 (by decide) rfl h (fun _ h => ?_) (fun _ h => ?_)
  · refine w_iconst C 0 dX11_binds_43 rfl (by decide) ?_
    exact w_rz1 hr (by decide) h (by decide) dX11_binds_44
  · refine w_aload_n C dX11_binds_9 rfl 0 rfl ?_
    refine w_iload_n C dX11_binds_10 rfl 1 rfl ?_
    refine w_iload_n C dX11_binds_11 rfl 2 rfl ?_
    refine w_iload_n C dX11_binds_12 rfl 3 rfl ?_
    refine bd1_w h (fun r2 hc h => ?_)
    refine w_callVi C (n := 3) (As := [.int a0, .int a1, .int a2]) (st := []) 0 (Nat.le_of_ble_eq_true rfl) rfl rfl (cfX11_isOfHim D cI cT ad (l := X.2.1) C.2.2.1 hc) tw8_72 cy_X11_isOfHim (by decide +kernel) ⟨Nat.le_of_ble_eq_true rfl, Nat.le_of_ble_eq_true rfl⟩ (by decide) rfl rfl (Nat.le_of_ble_eq_true rfl) dX11_binds_13 rfl ?_
    refine w_if_eq C (qt := 43) dX11_binds_16 (by decide) rfl h (fun _ h => ?_) (fun _ h => ?_)
    · refine w_iconst C 0 dX11_binds_43 rfl (by decide) ?_
      exact w_rz1 hr (by decide) h (by decide) dX11_binds_44
    · refine w_aload_n C dX11_binds_19 rfl 0 rfl ?_
      refine w_iload_n C dX11_binds_20 rfl 1 rfl ?_
      refine w_iload_n C dX11_binds_21 rfl 3 rfl ?_
      refine w_aload_n C dX11_binds_22 rfl 0 rfl ?_
      refine w_get C 0 14 (Nat.le_of_ble_eq_true rfl) rfl rfl inB_X11 (by decide) tw6_175 rfl dX11_binds_23 rfl ?_
      refine w_bipush C 10 dX11_binds_26 rfl (by decide) ?_
      refine w_iload_n C dX11_binds_28 rfl 1 rfl ?_
      refine w_imul C dX11_binds_29 rfl ?_
      refine w_iload_n C dX11_binds_30 rfl 2 rfl ?_
      refine w_iadd C dX11_binds_31 rfl ?_
      refine w_iald C 14 160 0 (Nat.le_of_ble_eq_true rfl) (fun _ => rfl) rfl h dX11_binds_32 rfl (fun h => ?_)
      refine bd1_w h (fun r3 hc h => ?_)
      refine w_callVi C (n := 3) (As := [.int a0, .int a2, .int (σ 14 (Int32.toNatClampNeg ((10 * a0) + a1)))]) (st := []) 0 (Nat.le_of_ble_eq_true rfl) rfl rfl (cfX11_hasGlove D cI cT ad (l := X.2.1) C.2.2.1 hc) tw8_76 cy_X11_hasGlove (by decide +kernel) ⟨Nat.le_of_ble_eq_true rfl, Nat.le_of_ble_eq_true rfl⟩ (by decide) rfl rfl (Nat.le_of_ble_eq_true rfl) dX11_binds_33 rfl ?_
      refine w_if_ne C (qt := 43) dX11_binds_36 (by decide) rfl h (fun _ h => ?_) (fun _ h => ?_)
      · refine w_iconst C 0 dX11_binds_43 rfl (by decide) ?_
        exact w_rz1 hr (by decide) h (by decide) dX11_binds_44
      · refine w_iconst C 1 dX11_binds_39 rfl (by decide) ?_
        refine w_goto (q := 44) C dX11_binds_40 (by decide) ?_
        exact w_rz1 hr (by decide) h (by decide) dX11_binds_44
theorem cfX11_binds (D : va_G) (cI cT : ClassId) (ad : Nat → Nat) {l : Launch} (had : gAp (gM D cI cT ad)) {F : Nat} {σ : St} {a0 : Int32} {a1 : Int32} {a2 : Int32} {r : Int32} (h : fX11_binds F σ a0 a1 a2 = some r) : MI l yX11_binds (wB yX11_binds cX11_binds 4 (some .boolean)) 2 48 (gM D cI cT ad) [.ref (ad 0), .int a0, .int a1, .int a2] σ r σ := mk_MZ had (by decide +kernel) (Nat.le_of_ble_eq_true rfl) (fun X hX C hr => wfX11_binds C hr h)

def fX11_roleOf (F : Nat) (σ : St) (a0 : Int32) (a1 : Int32) : Option Int32 := ckI (a1) 16 (if (σ 7 (Int32.toNatClampNeg a1)) = a0 then (some 0) else ckI (a1) 16 (if (σ 8 (Int32.toNatClampNeg a1)) = a0 then (some 1) else some ((-1))))
set_option maxRecDepth 20000 in
theorem wfX11_roleOf {X : XT} {D : va_G} {cI cT : ClassId} {ad : Nat → Nat} {F : Nat} {σ : St} {a0 : Int32} {a1 : Int32} {r : Int32} (C : Cx X (gM D cI cT ad) cX11_roleOf 3 RX11 0 0 0) (hr : RetI X (gM D cI cT ad) cX11_roleOf 3 0 r σ) (h : fX11_roleOf F σ a0 a1 = some r) : WP X (gM D cI cT ad) 3 0 0 σ [(0, .ref (ad 0)), (1, .int a0), (2, .int a1)] [] := by
  unfold fX11_roleOf at h
  refine w_aload_n C dX11_roleOf_0 rfl 0 rfl ?_
  refine w_get C 0 7 (Nat.le_of_ble_eq_true rfl) rfl rfl inB_X11 (by decide) tw6_168 rfl dX11_roleOf_1 rfl ?_
  refine w_iload_n C dX11_roleOf_4 rfl 2 rfl ?_
  refine w_iald C 7 16 0 (Nat.le_of_ble_eq_true rfl) (fun _ => rfl) rfl h dX11_roleOf_5 rfl (fun h => ?_)
  refine w_iload_n C dX11_roleOf_6 rfl 1 rfl ?_
  refine w_icmp_ne C (qt := 14) dX11_roleOf_7 (by decide) rfl h (fun _ h => ?_) (fun _ h => ?_)
  · refine w_aload_n C dX11_roleOf_14 rfl 0 rfl ?_
    refine w_get C 0 8 (Nat.le_of_ble_eq_true rfl) rfl rfl inB_X11 (by decide) tw6_169 rfl dX11_roleOf_15 rfl ?_
    refine w_iload_n C dX11_roleOf_18 rfl 2 rfl ?_
    refine w_iald C 8 16 0 (Nat.le_of_ble_eq_true rfl) (fun _ => rfl) rfl h dX11_roleOf_19 rfl (fun h => ?_)
    refine w_iload_n C dX11_roleOf_20 rfl 1 rfl ?_
    refine w_icmp_ne C (qt := 28) dX11_roleOf_21 (by decide) rfl h (fun _ h => ?_) (fun _ h => ?_)
    · refine w_iconst C (-1) dX11_roleOf_28 rfl (by decide) ?_
      exact w_ri1 hr h (by decide) dX11_roleOf_29
    · refine w_iconst C 1 dX11_roleOf_24 rfl (by decide) ?_
      refine w_goto (q := 29) C dX11_roleOf_25 (by decide) ?_
      exact w_ri1 hr h (by decide) dX11_roleOf_29
  · refine w_iconst C 0 dX11_roleOf_10 rfl (by decide) ?_
    refine w_goto (q := 29) C dX11_roleOf_11 (by decide) ?_
    exact w_ri1 hr h (by decide) dX11_roleOf_29
theorem cfX11_roleOf (D : va_G) (cI cT : ClassId) (ad : Nat → Nat) {l : Launch} (had : gAp (gM D cI cT ad)) {F : Nat} {σ : St} {a0 : Int32} {a1 : Int32} {r : Int32} (h : fX11_roleOf F σ a0 a1 = some r) : MI l yX11_roleOf (wB yX11_roleOf cX11_roleOf 3 (some .int)) 0 0 (gM D cI cT ad) [.ref (ad 0), .int a0, .int a1] σ r σ := mk_MI had (by decide +kernel) (Nat.le_of_ble_eq_true rfl) (fun X hX C hr => wfX11_roleOf C hr h)

def fX11_leastBy (F : Nat) (σ : St) (a0 : Int32) (a1 : Int32) (a2 : Int32) : Option (Int32 × St) := bd1 (fX11_roleOf F σ a1 a0) fun r1 => lp (fun (K3 : (St × Int32 × Int32) → Option (Int32 × St)) (v2 : St × Int32 × Int32) => ckI (a0) 16 (if (v2.1 10 (Int32.toNatClampNeg a0)) ≤ v2.2.1 then (some (v2.2.2, v2.1)) else if r1 = (-1 : Int32) then (some (v2.2.2, v2.1)) else ckI ((10 * a0) + v2.2.1) 160 (if (v2.1 14 (Int32.toNatClampNeg ((10 * a0) + v2.2.1))) = a2 then (bd1 (fX11_binds F v2.1 a0 v2.2.1 r1) fun r5 => if r5 = 0 then (K3 ((v2.1, v2.2.1 + 1, v2.2.2))) else ckI (a0) 16 (bd2 (fX11_limitOf F v2.1 a0 v2.2.1 r1 (v2.1 9 (Int32.toNatClampNeg a0))) fun r6 u7 => if v2.2.2 = (-1 : Int32) then (K3 ((u7, v2.2.1 + 1, r6))) else nm (if r6 < v2.2.2 then r6 else v2.2.2) fun x8 => K3 ((u7, v2.2.1 + 1, x8)))) else K3 ((v2.1, v2.2.1 + 1, v2.2.2))))) F ((σ, 0, (-1)))
set_option maxRecDepth 20000 in
theorem wfX11_leastBy {X : XT} {D : va_G} {cI cT : ClassId} {ad : Nat → Nat} {F : Nat} {σ : St} {a0 : Int32} {a1 : Int32} {a2 : Int32} {r : Int32} {σ' : St} (C : Cx X (gM D cI cT ad) cX11_leastBy 8 RX11 3 71 0) (hr : RetI X (gM D cI cT ad) cX11_leastBy 8 0 r σ') (h : fX11_leastBy F σ a0 a1 a2 = some (r, σ')) : WP X (gM D cI cT ad) 8 0 0 σ [(0, .ref (ad 0)), (1, .int a0), (2, .int a1), (3, .int a2)] [] := by
  unfold fX11_leastBy at h
  refine w_aload_n C dX11_leastBy_0 rfl 0 rfl ?_
  refine w_iload_n C dX11_leastBy_1 rfl 2 rfl ?_
  refine w_iload_n C dX11_leastBy_2 rfl 1 rfl ?_
  refine bd1_w h (fun r1 hc h => ?_)
  refine w_callVi C (n := 2) (As := [.int a1, .int a0]) (st := []) 0 (Nat.le_of_ble_eq_true rfl) rfl rfl (cfX11_roleOf D cI cT ad (l := X.2.1) C.2.2.1 hc) tw8_60 cy_X11_roleOf (by decide +kernel) ⟨Nat.le_of_ble_eq_true rfl, Nat.le_of_ble_eq_true rfl⟩ (by decide) rfl rfl (Nat.le_of_ble_eq_true rfl) dX11_leastBy_3 rfl ?_
  refine w_istore C [(4, .int r1), (0, .ref (ad 0)), (1, .int a0), (2, .int a1), (3, .int a2)] dX11_leastBy_6 rfl (by decide) rfl ?_
  refine w_iconst C (-1) dX11_leastBy_8 rfl (by decide) ?_
  refine w_istore C [(5, .int ((-1))), (4, .int r1), (0, .ref (ad 0)), (1, .int a0), (2, .int a1), (3, .int a2)] dX11_leastBy_9 rfl (by decide) rfl ?_
  refine w_iconst C 0 dX11_leastBy_11 rfl (by decide) ?_
  refine w_istore C [(6, .int 0), (5, .int ((-1))), (4, .int r1), (0, .ref (ad 0)), (1, .int a0), (2, .int a1), (3, .int a2)] dX11_leastBy_12 rfl (by decide) rfl ?_
  refine w_sub (lv' := [(6, .int 0), (5, .int ((-1))), (4, .int r1), (0, .ref (ad 0)), (1, .int a0), (3, .int a2)]) [0, 1, 2, 3, 4, 6] rfl ?_
  refine lp_w (fun v2 : St × Int32 × Int32 => WP X (gM D cI cT ad) 8 0 14 v2.1 [(6, .int v2.2.1), (5, .int v2.2.2), (4, .int r1), (0, .ref (ad 0)), (1, .int a0), (3, .int a2)] []) (fun K3 hK4 v2 h => ?_) F _ h
  refine w_iload C dX11_leastBy_14 rfl 0 rfl ?_
  refine w_aload_n C dX11_leastBy_16 rfl 3 rfl ?_
  refine w_get C 0 10 (Nat.le_of_ble_eq_true rfl) rfl rfl inB_X11 (by decide) tw6_171 rfl dX11_leastBy_17 rfl ?_
  refine w_iload_n C dX11_leastBy_20 rfl 4 rfl ?_
  refine w_iald C 10 16 0 (Nat.le_of_ble_eq_true rfl) (fun _ => rfl) rfl h dX11_leastBy_21 rfl (fun h => ?_)
  refine w_icmp_ge C (qt := 105) dX11_leastBy_22 (by decide) rfl h (fun _ h => ?_) (fun _ h => ?_)
  · refine w_iload C dX11_leastBy_105 rfl 1 rfl ?_
    exact w_ri2 hr h (by decide) dX11_leastBy_107
  · refine w_iload C dX11_leastBy_25 rfl 2 rfl ?_
    refine w_iconst C (-1) dX11_leastBy_27 rfl (by decide) ?_
    refine w_icmp_eq C (qt := 105) dX11_leastBy_28 (by decide) rfl h (fun _ h => ?_) (fun _ h => ?_)
    · refine w_iload C dX11_leastBy_105 rfl 1 rfl ?_
      exact w_ri2 hr h (by decide) dX11_leastBy_107
    · refine w_aload_n C dX11_leastBy_31 rfl 3 rfl ?_
      refine w_get C 0 14 (Nat.le_of_ble_eq_true rfl) rfl rfl inB_X11 (by decide) tw6_175 rfl dX11_leastBy_32 rfl ?_
      refine w_bipush C 10 dX11_leastBy_35 rfl (by decide) ?_
      refine w_iload_n C dX11_leastBy_37 rfl 4 rfl ?_
      refine w_imul C dX11_leastBy_38 rfl ?_
      refine w_iload C dX11_leastBy_39 rfl 0 rfl ?_
      refine w_iadd C dX11_leastBy_41 rfl ?_
      refine w_iald C 14 160 0 (Nat.le_of_ble_eq_true rfl) (fun _ => rfl) rfl h dX11_leastBy_42 rfl (fun h => ?_)
      refine w_iload_n C dX11_leastBy_43 rfl 5 rfl ?_
      refine w_icmp_ne C (qt := 99) dX11_leastBy_44 (by decide) rfl h (fun _ h => ?_) (fun _ h => ?_)
      · refine w_iinc (j := 0) C (v2.2.1 + 1) [(6, .int (v2.2.1 + 1)), (5, .int v2.2.2), (4, .int r1), (0, .ref (ad 0)), (1, .int a0), (3, .int a2)] dX11_leastBy_99 rfl rfl rfl (by decide) rfl ?_
        refine w_goto (q := 14) C dX11_leastBy_102 (by decide) ?_
        exact w_sub (lv' := [(6, .int (v2.2.1 + 1)), (5, .int v2.2.2), (4, .int r1), (0, .ref (ad 0)), (1, .int a0), (3, .int a2)]) [0, 1, 2, 3, 4, 5] rfl (hK4 ((v2.1, v2.2.1 + 1, v2.2.2)) h)
      · refine w_aload_n C dX11_leastBy_47 rfl 3 rfl ?_
        refine w_iload_n C dX11_leastBy_48 rfl 4 rfl ?_
        refine w_iload C dX11_leastBy_49 rfl 0 rfl ?_
        refine w_iload C dX11_leastBy_51 rfl 2 rfl ?_
        refine bd1_w h (fun r5 hc h => ?_)
        refine w_callVi C (n := 3) (As := [.int a0, .int v2.2.1, .int r1]) (st := []) 0 (Nat.le_of_ble_eq_true rfl) rfl rfl (cfX11_binds D cI cT ad (l := X.2.1) C.2.2.1 hc) tw8_64 cy_X11_binds (by decide +kernel) ⟨Nat.le_of_ble_eq_true rfl, Nat.le_of_ble_eq_true rfl⟩ (by decide) rfl rfl (Nat.le_of_ble_eq_true rfl) dX11_leastBy_53 rfl ?_
        refine w_if_ne C (qt := 62) dX11_leastBy_56 (by decide) rfl h (fun _ h => ?_) (fun _ h => ?_)
        · refine w_aload_n C dX11_leastBy_62 rfl 3 rfl ?_
          refine w_iload_n C dX11_leastBy_63 rfl 4 rfl ?_
          refine w_iload C dX11_leastBy_64 rfl 0 rfl ?_
          refine w_iload C dX11_leastBy_66 rfl 2 rfl ?_
          refine w_aload_n C dX11_leastBy_68 rfl 3 rfl ?_
          refine w_get C 0 9 (Nat.le_of_ble_eq_true rfl) rfl rfl inB_X11 (by decide) tw6_170 rfl dX11_leastBy_69 rfl ?_
          refine w_iload_n C dX11_leastBy_72 rfl 4 rfl ?_
          refine w_iald C 9 16 0 (Nat.le_of_ble_eq_true rfl) (fun _ => rfl) rfl h dX11_leastBy_73 rfl (fun h => ?_)
          refine bd2_w h (fun r6 u7 hc h => ?_)
          refine w_callVi C (n := 4) (As := [.int a0, .int v2.2.1, .int r1, .int (v2.1 9 (Int32.toNatClampNeg a0))]) (st := []) 0 (Nat.le_of_ble_eq_true rfl) rfl rfl (cfX11_limitOf D cI cT ad (l := X.2.1) C.2.2.1 hc) tw8_80 cy_X11_limitOf (by decide +kernel) ⟨Nat.le_of_ble_eq_true rfl, Nat.le_of_ble_eq_true rfl⟩ (by decide) rfl rfl (Nat.le_of_ble_eq_true rfl) dX11_leastBy_74 rfl ?_
          refine w_istore C [(7, .int r6), (6, .int v2.2.1), (5, .int v2.2.2), (4, .int r1), (0, .ref (ad 0)), (1, .int a0), (3, .int a2)] dX11_leastBy_77 rfl (by decide) rfl ?_
          refine w_iload C dX11_leastBy_79 rfl 2 rfl ?_
          refine w_iconst C (-1) dX11_leastBy_81 rfl (by decide) ?_
          refine w_icmp_ne C (qt := 90) dX11_leastBy_82 (by decide) rfl h (fun _ h => ?_) (fun _ h => ?_)
          · refine w_iload C dX11_leastBy_90 rfl 2 rfl ?_
            refine w_iload C dX11_leastBy_92 rfl 0 rfl ?_
            refine w_mmin C (all4 tw7_136 tw3_112 tw1_17 tw3_113) ⟨Nat.le_of_ble_eq_true rfl, Nat.le_of_ble_eq_true rfl⟩ (by decide) dX11_leastBy_94 rfl ?_
            refine w_nm h (fun x8 h => ?_)
            refine w_istore C [(5, .int x8), (7, .int r6), (6, .int v2.2.1), (4, .int r1), (0, .ref (ad 0)), (1, .int a0), (3, .int a2)] dX11_leastBy_97 rfl (by decide) rfl ?_
            refine w_iinc (j := 2) C (v2.2.1 + 1) [(6, .int (v2.2.1 + 1)), (5, .int x8), (7, .int r6), (4, .int r1), (0, .ref (ad 0)), (1, .int a0), (3, .int a2)] dX11_leastBy_99 rfl rfl rfl (by decide) rfl ?_
            refine w_goto (q := 14) C dX11_leastBy_102 (by decide) ?_
            exact w_sub (lv' := [(6, .int (v2.2.1 + 1)), (5, .int x8), (4, .int r1), (0, .ref (ad 0)), (1, .int a0), (3, .int a2)]) [0, 1, 3, 4, 5, 6] rfl (hK4 ((u7, v2.2.1 + 1, x8)) h)
          · refine w_iload C dX11_leastBy_85 rfl 0 rfl ?_
            refine w_goto (q := 97) C dX11_leastBy_87 (by decide) ?_
            refine w_istore C [(5, .int r6), (7, .int r6), (6, .int v2.2.1), (4, .int r1), (0, .ref (ad 0)), (1, .int a0), (3, .int a2)] dX11_leastBy_97 rfl (by decide) rfl ?_
            refine w_iinc (j := 2) C (v2.2.1 + 1) [(6, .int (v2.2.1 + 1)), (5, .int r6), (7, .int r6), (4, .int r1), (0, .ref (ad 0)), (1, .int a0), (3, .int a2)] dX11_leastBy_99 rfl rfl rfl (by decide) rfl ?_
            refine w_goto (q := 14) C dX11_leastBy_102 (by decide) ?_
            exact w_sub (lv' := [(6, .int (v2.2.1 + 1)), (5, .int r6), (4, .int r1), (0, .ref (ad 0)), (1, .int a0), (3, .int a2)]) [0, 1, 3, 4, 5, 6] rfl (hK4 ((u7, v2.2.1 + 1, r6)) h)
        · refine w_goto (q := 99) C dX11_leastBy_59 (by decide) ?_
          refine w_iinc (j := 0) C (v2.2.1 + 1) [(6, .int (v2.2.1 + 1)), (5, .int v2.2.2), (4, .int r1), (0, .ref (ad 0)), (1, .int a0), (3, .int a2)] dX11_leastBy_99 rfl rfl rfl (by decide) rfl ?_
          refine w_goto (q := 14) C dX11_leastBy_102 (by decide) ?_
          exact w_sub (lv' := [(6, .int (v2.2.1 + 1)), (5, .int v2.2.2), (4, .int r1), (0, .ref (ad 0)), (1, .int a0), (3, .int a2)]) [0, 1, 2, 3, 4, 5] rfl (hK4 ((v2.1, v2.2.1 + 1, v2.2.2)) h)
theorem cfX11_leastBy (D : va_G) (cI cT : ClassId) (ad : Nat → Nat) {l : Launch} (had : gAp (gM D cI cT ad)) {F : Nat} {σ : St} {a0 : Int32} {a1 : Int32} {a2 : Int32} {r : Int32} {σ' : St} (h : fX11_leastBy F σ a0 a1 a2 = some (r, σ')) : MI l yX11_leastBy (wB yX11_leastBy cX11_leastBy 8 (some .int)) 3 71 (gM D cI cT ad) [.ref (ad 0), .int a0, .int a1, .int a2] σ r σ' := mk_MI had (by decide +kernel) (Nat.le_of_ble_eq_true rfl) (fun X hX C hr => wfX11_leastBy C hr h)

def fX11_boundBy (F : Nat) (σ : St) (a0 : Int32) (a1 : Int32) (a2 : Int32) : Option (Int32 × St) := lp (fun (K2 : (St × Int32 × Int32) → Option (Int32 × St)) (v1 : St × Int32 × Int32) => if (v1.1 5 1) ≤ v1.2.1 then (some (v1.2.2, v1.1)) else bd1 (fX11_isOf F v1.1 a0 v1.2.1) fun r4 => jn (fun v5 : St × Int32 => if v5.2 = (-1 : Int32) then (K2 ((v5.1, v1.2.1 + 1, v1.2.2))) else if v1.2.2 = (-1 : Int32) then (K2 ((v5.1, v1.2.1 + 1, v5.2))) else nm (if v5.2 < v1.2.2 then v5.2 else v1.2.2) fun x8 => K2 ((v5.1, v1.2.1 + 1, x8))) fun J6 => if r4 = 0 then (J6 ((v1.1, (-1)))) else bd2 (fX11_leastBy F v1.1 v1.2.1 a1 a2) fun r9 u10 => J6 ((u10, r9))) F ((σ, 0, (-1)))
set_option maxRecDepth 20000 in
theorem wfX11_boundBy {X : XT} {D : va_G} {cI cT : ClassId} {ad : Nat → Nat} {F : Nat} {σ : St} {a0 : Int32} {a1 : Int32} {a2 : Int32} {r : Int32} {σ' : St} (C : Cx X (gM D cI cT ad) cX11_boundBy 7 RX11 4 98 0) (hr : RetI X (gM D cI cT ad) cX11_boundBy 7 0 r σ') (h : fX11_boundBy F σ a0 a1 a2 = some (r, σ')) : WP X (gM D cI cT ad) 7 0 0 σ [(0, .ref (ad 0)), (1, .int a0), (2, .int a1), (3, .int a2)] [] := by
  unfold fX11_boundBy at h
  refine w_iconst C (-1) dX11_boundBy_0 rfl (by decide) ?_
  refine w_istore C [(4, .int ((-1))), (0, .ref (ad 0)), (1, .int a0), (2, .int a1), (3, .int a2)] dX11_boundBy_1 rfl (by decide) rfl ?_
  refine w_iconst C 0 dX11_boundBy_3 rfl (by decide) ?_
  refine w_istore C [(5, .int 0), (4, .int ((-1))), (0, .ref (ad 0)), (1, .int a0), (2, .int a1), (3, .int a2)] dX11_boundBy_4 rfl (by decide) rfl ?_
  refine w_sub (lv' := [(5, .int 0), (4, .int ((-1))), (0, .ref (ad 0)), (1, .int a0), (2, .int a1), (3, .int a2)]) [0, 1, 2, 3, 4, 5] rfl ?_
  refine lp_w (fun v1 : St × Int32 × Int32 => WP X (gM D cI cT ad) 7 0 6 v1.1 [(5, .int v1.2.1), (4, .int v1.2.2), (0, .ref (ad 0)), (1, .int a0), (2, .int a1), (3, .int a2)] []) (fun K2 hK3 v1 h => ?_) F _ h
  refine w_iload C dX11_boundBy_6 rfl 0 rfl ?_
  refine w_aload_n C dX11_boundBy_8 rfl 2 rfl ?_
  refine w_get C 0 5 (Nat.le_of_ble_eq_true rfl) rfl rfl inB_X11 (by decide) tw6_166 rfl dX11_boundBy_9 rfl ?_
  refine w_iconst C 1 dX11_boundBy_12 rfl (by decide) ?_
  refine w_ialdc C 5 8 0 1 (Nat.le_of_ble_eq_true rfl) (fun _ => rfl) rfl (by decide) (by show ¬ (_ ∨ _); decide) dX11_boundBy_13 rfl ?_
  refine w_icmp_ge C (qt := 72) dX11_boundBy_14 (by decide) rfl h (fun _ h => ?_) (fun _ h => ?_)
  · refine w_iload C dX11_boundBy_72 rfl 1 rfl ?_
    exact w_ri2 hr h (by decide) dX11_boundBy_74
  · refine w_iload_n C dX11_boundBy_17 rfl 3 rfl ?_
    refine w_iload C dX11_boundBy_18 rfl 0 rfl ?_
    refine bd1_w h (fun r4 hc h => ?_)
    refine w_callSi C (n := 2) (As := [.int a0, .int v1.2.1]) (st := []) (cfX11_isOf D cI cT ad (l := X.2.1) C.2.2.1 hc) tw8_9 cs_X11_isOf (by decide +kernel) ⟨Nat.le_of_ble_eq_true rfl, Nat.le_of_ble_eq_true rfl⟩ (by decide) rfl rfl (Nat.le_of_ble_eq_true rfl) dX11_boundBy_20 rfl ?_
    refine jn_w (fun v5 : St × Int32 => WP X (gM D cI cT ad) 7 0 38 v5.1 [(5, .int v1.2.1), (4, .int v1.2.2), (0, .ref (ad 0)), (1, .int a0), (2, .int a1), (3, .int a2)] [.int v5.2]) h (fun v5 h => ?_) (fun J6 hJ7 h => ?_)
    · refine w_istore C [(6, .int v5.2), (5, .int v1.2.1), (4, .int v1.2.2), (0, .ref (ad 0)), (1, .int a0), (2, .int a1), (3, .int a2)] dX11_boundBy_38 rfl (by decide) rfl ?_
      refine w_iload C dX11_boundBy_40 rfl 0 rfl ?_
      refine w_iconst C (-1) dX11_boundBy_42 rfl (by decide) ?_
      refine w_icmp_eq C (qt := 66) dX11_boundBy_43 (by decide) rfl h (fun _ h => ?_) (fun _ h => ?_)
      · refine w_iinc (j := 1) C (v1.2.1 + 1) [(5, .int (v1.2.1 + 1)), (6, .int v5.2), (4, .int v1.2.2), (0, .ref (ad 0)), (1, .int a0), (2, .int a1), (3, .int a2)] dX11_boundBy_66 rfl rfl rfl (by decide) rfl ?_
        refine w_goto (q := 6) C dX11_boundBy_69 (by decide) ?_
        exact w_sub (lv' := [(5, .int (v1.2.1 + 1)), (4, .int v1.2.2), (0, .ref (ad 0)), (1, .int a0), (2, .int a1), (3, .int a2)]) [0, 2, 3, 4, 5, 6] rfl (hK3 ((v5.1, v1.2.1 + 1, v1.2.2)) h)
      · refine w_iload C dX11_boundBy_46 rfl 2 rfl ?_
        refine w_iconst C (-1) dX11_boundBy_48 rfl (by decide) ?_
        refine w_icmp_ne C (qt := 57) dX11_boundBy_49 (by decide) rfl h (fun _ h => ?_) (fun _ h => ?_)
        · refine w_iload C dX11_boundBy_57 rfl 2 rfl ?_
          refine w_iload C dX11_boundBy_59 rfl 0 rfl ?_
          refine w_mmin C (all4 tw7_136 tw3_112 tw1_17 tw3_113) ⟨Nat.le_of_ble_eq_true rfl, Nat.le_of_ble_eq_true rfl⟩ (by decide) dX11_boundBy_61 rfl ?_
          refine w_nm h (fun x8 h => ?_)
          refine w_istore C [(4, .int x8), (6, .int v5.2), (5, .int v1.2.1), (0, .ref (ad 0)), (1, .int a0), (2, .int a1), (3, .int a2)] dX11_boundBy_64 rfl (by decide) rfl ?_
          refine w_iinc (j := 2) C (v1.2.1 + 1) [(5, .int (v1.2.1 + 1)), (4, .int x8), (6, .int v5.2), (0, .ref (ad 0)), (1, .int a0), (2, .int a1), (3, .int a2)] dX11_boundBy_66 rfl rfl rfl (by decide) rfl ?_
          refine w_goto (q := 6) C dX11_boundBy_69 (by decide) ?_
          exact w_sub (lv' := [(5, .int (v1.2.1 + 1)), (4, .int x8), (0, .ref (ad 0)), (1, .int a0), (2, .int a1), (3, .int a2)]) [0, 1, 3, 4, 5, 6] rfl (hK3 ((v5.1, v1.2.1 + 1, x8)) h)
        · refine w_iload C dX11_boundBy_52 rfl 0 rfl ?_
          refine w_goto (q := 64) C dX11_boundBy_54 (by decide) ?_
          refine w_istore C [(4, .int v5.2), (6, .int v5.2), (5, .int v1.2.1), (0, .ref (ad 0)), (1, .int a0), (2, .int a1), (3, .int a2)] dX11_boundBy_64 rfl (by decide) rfl ?_
          refine w_iinc (j := 2) C (v1.2.1 + 1) [(5, .int (v1.2.1 + 1)), (4, .int v5.2), (6, .int v5.2), (0, .ref (ad 0)), (1, .int a0), (2, .int a1), (3, .int a2)] dX11_boundBy_66 rfl rfl rfl (by decide) rfl ?_
          refine w_goto (q := 6) C dX11_boundBy_69 (by decide) ?_
          exact w_sub (lv' := [(5, .int (v1.2.1 + 1)), (4, .int v5.2), (0, .ref (ad 0)), (1, .int a0), (2, .int a1), (3, .int a2)]) [0, 1, 3, 4, 5, 6] rfl (hK3 ((v5.1, v1.2.1 + 1, v5.2)) h)
    · refine w_if_eq C (qt := 37) dX11_boundBy_23 (by decide) rfl h (fun _ h => ?_) (fun _ h => ?_)
      · refine w_iconst C (-1) dX11_boundBy_37 rfl (by decide) ?_
        exact w_sub (lv' := [(5, .int v1.2.1), (4, .int v1.2.2), (0, .ref (ad 0)), (1, .int a0), (2, .int a1), (3, .int a2)]) [0, 1, 2, 3, 4, 5] rfl (hJ7 ((v1.1, (-1))) h)
      · refine w_aload_n C dX11_boundBy_26 rfl 2 rfl ?_
        refine w_iload C dX11_boundBy_27 rfl 0 rfl ?_
        refine w_iload_n C dX11_boundBy_29 rfl 4 rfl ?_
        refine w_iload_n C dX11_boundBy_30 rfl 5 rfl ?_
        refine bd2_w h (fun r9 u10 hc h => ?_)
        refine w_callVi C (n := 3) (As := [.int v1.2.1, .int a1, .int a2]) (st := []) 0 (Nat.le_of_ble_eq_true rfl) rfl rfl (cfX11_leastBy D cI cT ad (l := X.2.1) C.2.2.1 hc) tw8_56 cy_X11_leastBy (by decide +kernel) ⟨Nat.le_of_ble_eq_true rfl, Nat.le_of_ble_eq_true rfl⟩ (by decide) rfl rfl (Nat.le_of_ble_eq_true rfl) dX11_boundBy_31 rfl ?_
        refine w_goto (q := 38) C dX11_boundBy_34 (by decide) ?_
        exact w_sub (lv' := [(5, .int v1.2.1), (4, .int v1.2.2), (0, .ref (ad 0)), (1, .int a0), (2, .int a1), (3, .int a2)]) [0, 1, 2, 3, 4, 5] rfl (hJ7 ((u10, r9)) h)
theorem cfX11_boundBy (D : va_G) (cI cT : ClassId) (ad : Nat → Nat) {l : Launch} (had : gAp (gM D cI cT ad)) {F : Nat} {σ : St} {a0 : Int32} {a1 : Int32} {a2 : Int32} {r : Int32} {σ' : St} (h : fX11_boundBy F σ a0 a1 a2 = some (r, σ')) : MI l yX11_boundBy (wB yX11_boundBy cX11_boundBy 7 (some .int)) 4 98 (gM D cI cT ad) [.ref (ad 0), .int a0, .int a1, .int a2] σ r σ' := mk_MI had (by decide +kernel) (Nat.le_of_ble_eq_true rfl) (fun X hX C hr => wfX11_boundBy C hr h)

def fX11_hasStamped (F : Nat) (σ : St) (a0 : Int32) (a1 : Int32) (a2 : Int32) (a3 : Int32) : Option (Int32 × St) := bd2 (fX11_boundBy F σ a0 a1 a2) fun r1 u2 => if r1 = (-1 : Int32) then (some (0, u2)) else if a3 ≤ r1 then (some (0, u2)) else some (1, u2)
set_option maxRecDepth 20000 in
theorem wfX11_hasStamped {X : XT} {D : va_G} {cI cT : ClassId} {ad : Nat → Nat} {F : Nat} {σ : St} {a0 : Int32} {a1 : Int32} {a2 : Int32} {a3 : Int32} {r : Int32} {σ' : St} (C : Cx X (gM D cI cT ad) cX11_hasStamped 6 RX11 5 124 0) (hr : RetZ X (gM D cI cT ad) cX11_hasStamped 6 0 r σ') (h : fX11_hasStamped F σ a0 a1 a2 a3 = some (r, σ')) : WP X (gM D cI cT ad) 6 0 0 σ [(0, .ref (ad 0)), (1, .int a0), (2, .int a1), (3, .int a2), (4, .int a3)] [] := by
  unfold fX11_hasStamped at h
  refine w_aload_n C dX11_hasStamped_0 rfl 0 rfl ?_
  refine w_iload_n C dX11_hasStamped_1 rfl 1 rfl ?_
  refine w_iload_n C dX11_hasStamped_2 rfl 2 rfl ?_
  refine w_iload_n C dX11_hasStamped_3 rfl 3 rfl ?_
  refine bd2_w h (fun r1 u2 hc h => ?_)
  refine w_callVi C (n := 3) (As := [.int a0, .int a1, .int a2]) (st := []) 0 (Nat.le_of_ble_eq_true rfl) rfl rfl (cfX11_boundBy D cI cT ad (l := X.2.1) C.2.2.1 hc) tw8_52 cy_X11_boundBy (by decide +kernel) ⟨Nat.le_of_ble_eq_true rfl, Nat.le_of_ble_eq_true rfl⟩ (by decide) rfl rfl (Nat.le_of_ble_eq_true rfl) dX11_hasStamped_4 rfl ?_
  refine w_istore C [(5, .int r1), (0, .ref (ad 0)), (1, .int a0), (2, .int a1), (3, .int a2), (4, .int a3)] dX11_hasStamped_7 rfl (by decide) rfl ?_
  refine w_iload C dX11_hasStamped_9 rfl 0 rfl ?_
  refine w_iconst C (-1) dX11_hasStamped_11 rfl (by decide) ?_
  refine w_icmp_eq C (qt := 26) dX11_hasStamped_12 (by decide) rfl h (fun _ h => ?_) (fun _ h => ?_)
  · refine w_iconst C 0 dX11_hasStamped_26 rfl (by decide) ?_
    exact w_rz2 hr (by decide) h (by decide) dX11_hasStamped_27
  · refine w_iload C dX11_hasStamped_15 rfl 5 rfl ?_
    refine w_iload C dX11_hasStamped_17 rfl 0 rfl ?_
    refine w_icmp_le C (qt := 26) dX11_hasStamped_19 (by decide) rfl h (fun _ h => ?_) (fun _ h => ?_)
    · refine w_iconst C 0 dX11_hasStamped_26 rfl (by decide) ?_
      exact w_rz2 hr (by decide) h (by decide) dX11_hasStamped_27
    · refine w_iconst C 1 dX11_hasStamped_22 rfl (by decide) ?_
      refine w_goto (q := 27) C dX11_hasStamped_23 (by decide) ?_
      exact w_rz2 hr (by decide) h (by decide) dX11_hasStamped_27
theorem cfX11_hasStamped (D : va_G) (cI cT : ClassId) (ad : Nat → Nat) {l : Launch} (had : gAp (gM D cI cT ad)) {F : Nat} {σ : St} {a0 : Int32} {a1 : Int32} {a2 : Int32} {a3 : Int32} {r : Int32} {σ' : St} (h : fX11_hasStamped F σ a0 a1 a2 a3 = some (r, σ')) : MI l yX11_hasStamped (wB yX11_hasStamped cX11_hasStamped 6 (some .boolean)) 5 124 (gM D cI cT ad) [.ref (ad 0), .int a0, .int a1, .int a2, .int a3] σ r σ' := mk_MZ had (by decide +kernel) (Nat.le_of_ble_eq_true rfl) (fun X hX C hr => wfX11_hasStamped C hr h)

def fX11_stamped (F : Nat) (σ : St) : Option (Int32 × St) := bd2 (fX11_binding F σ) fun r1 u2 => lp (fun (K4 : (St × Int32 × Int32) → Option (Int32 × St)) (v3 : St × Int32 × Int32) => if (v3.1 5 0) ≤ v3.2.1 then (some (v3.2.2, v3.1)) else lp (fun (K7 : (St × Int32 × Int32) → Option (Int32 × St)) (v6 : St × Int32 × Int32) => if (8 : Int32) ≤ v6.2.1 then (if v6.2.2 = 0 then (nm (v3.2.2 + 0) fun x9 => K4 ((v6.1, v3.2.1 + 1, x9))) else nm (v3.2.2 + 1) fun x10 => K4 ((v6.1, v3.2.1 + 1, x10))) else if v6.2.2 = 0 then (ckI ((8 * v3.2.1) + v6.2.1) 48 (bd2 (fX11_hasStamped F v6.1 r1 v3.2.1 v6.2.1 (v6.1 19 (Int32.toNatClampNeg ((8 * v3.2.1) + v6.2.1)))) fun r11 u12 => if r11 = 0 then (K7 ((u12, v6.2.1 + 1, 0))) else K7 ((u12, v6.2.1 + 1, 1)))) else K7 ((v6.1, v6.2.1 + 1, 1))) F ((v3.1, 0, 0))) F ((u2, 0, 0))
set_option maxRecDepth 20000 in
theorem wfX11_stamped {X : XT} {D : va_G} {cI cT : ClassId} {ad : Nat → Nat} {F : Nat} {σ : St}  {r : Int32} {σ' : St} (C : Cx X (gM D cI cT ad) cX11_stamped 6 RX11 7 162 0) (hr : RetI X (gM D cI cT ad) cX11_stamped 6 0 r σ') (h : fX11_stamped F σ = some (r, σ')) : WP X (gM D cI cT ad) 6 0 0 σ [(0, .ref (ad 0))] [] := by
  unfold fX11_stamped at h
  refine w_aload_n C dX11_stamped_0 rfl 0 rfl ?_
  refine bd2_w h (fun r1 u2 hc h => ?_)
  refine w_callVi C (n := 0) (As := []) (st := []) 0 (Nat.le_of_ble_eq_true rfl) rfl rfl (cfX11_binding D cI cT ad (l := X.2.1) C.2.2.1 hc) tw8_1 cy_X11_binding (by decide +kernel) ⟨Nat.le_of_ble_eq_true rfl, Nat.le_of_ble_eq_true rfl⟩ (by decide) rfl rfl (Nat.le_of_ble_eq_true rfl) dX11_stamped_1 rfl ?_
  refine w_istore_n C [(1, .int r1), (0, .ref (ad 0))] dX11_stamped_4 rfl (by decide) rfl ?_
  refine w_iconst C 0 dX11_stamped_5 rfl (by decide) ?_
  refine w_istore_n C [(2, .int 0), (1, .int r1), (0, .ref (ad 0))] dX11_stamped_6 rfl (by decide) rfl ?_
  refine w_iconst C 0 dX11_stamped_7 rfl (by decide) ?_
  refine w_istore_n C [(3, .int 0), (2, .int 0), (1, .int r1), (0, .ref (ad 0))] dX11_stamped_8 rfl (by decide) rfl ?_
  refine w_sub (lv' := [(3, .int 0), (2, .int 0), (1, .int r1), (0, .ref (ad 0))]) [0, 1, 2, 3] rfl ?_
  refine lp_w (fun v3 : St × Int32 × Int32 => WP X (gM D cI cT ad) 6 0 9 v3.1 [(3, .int v3.2.1), (2, .int v3.2.2), (1, .int r1), (0, .ref (ad 0))] []) (fun K4 hK5 v3 h => ?_) F _ h
  refine w_iload_n C dX11_stamped_9 rfl 0 rfl ?_
  refine w_aload_n C dX11_stamped_10 rfl 3 rfl ?_
  refine w_get C 0 5 (Nat.le_of_ble_eq_true rfl) rfl rfl inB_X11 (by decide) tw6_166 rfl dX11_stamped_11 rfl ?_
  refine w_iconst C 0 dX11_stamped_14 rfl (by decide) ?_
  refine w_ialdc C 5 8 0 0 (Nat.le_of_ble_eq_true rfl) (fun _ => rfl) rfl (by decide) (by show ¬ (_ ∨ _); decide) dX11_stamped_15 rfl ?_
  refine w_icmp_ge C (qt := 92) dX11_stamped_16 (by decide) rfl h (fun _ h => ?_) (fun _ h => ?_)
  · refine w_iload_n C dX11_stamped_92 rfl 1 rfl ?_
    exact w_ri2 hr h (by decide) dX11_stamped_93
  · refine w_iconst C 0 dX11_stamped_19 rfl (by decide) ?_
    refine w_istore C [(4, .int 0), (3, .int v3.2.1), (2, .int v3.2.2), (1, .int r1), (0, .ref (ad 0))] dX11_stamped_20 rfl (by decide) rfl ?_
    refine w_iconst C 0 dX11_stamped_22 rfl (by decide) ?_
    refine w_istore C [(5, .int 0), (4, .int 0), (3, .int v3.2.1), (2, .int v3.2.2), (1, .int r1), (0, .ref (ad 0))] dX11_stamped_23 rfl (by decide) rfl ?_
    refine w_sub (lv' := [(5, .int 0), (4, .int 0), (3, .int v3.2.1), (2, .int v3.2.2), (1, .int r1), (0, .ref (ad 0))]) [0, 1, 2, 3, 4, 5] rfl ?_
    refine lp_w (fun v6 : St × Int32 × Int32 => WP X (gM D cI cT ad) 6 0 25 v6.1 [(5, .int v6.2.1), (4, .int v6.2.2), (3, .int v3.2.1), (2, .int v3.2.2), (1, .int r1), (0, .ref (ad 0))] []) (fun K7 hK8 v6 h => ?_) F _ h
    refine w_iload C dX11_stamped_25 rfl 0 rfl ?_
    refine w_bipush C 8 dX11_stamped_27 rfl (by decide) ?_
    refine w_icmp_ge C (qt := 73) dX11_stamped_29 (by decide) rfl h (fun _ h => ?_) (fun _ h => ?_)
    · refine w_iload_n C dX11_stamped_73 rfl 3 rfl ?_
      refine w_iload C dX11_stamped_74 rfl 1 rfl ?_
      refine w_if_eq C (qt := 83) dX11_stamped_76 (by decide) rfl h (fun _ h => ?_) (fun _ h => ?_)
      · refine w_iconst C 0 dX11_stamped_83 rfl (by decide) ?_
        refine w_iadd C dX11_stamped_84 rfl ?_
        refine w_nm h (fun x9 h => ?_)
        refine w_istore_n C [(2, .int x9), (5, .int v6.2.1), (4, .int v6.2.2), (3, .int v3.2.1), (1, .int r1), (0, .ref (ad 0))] dX11_stamped_85 rfl (by decide) rfl ?_
        refine w_iinc (j := 3) C (v3.2.1 + 1) [(3, .int (v3.2.1 + 1)), (2, .int x9), (5, .int v6.2.1), (4, .int v6.2.2), (1, .int r1), (0, .ref (ad 0))] dX11_stamped_86 rfl rfl rfl (by decide) rfl ?_
        refine w_goto (q := 9) C dX11_stamped_89 (by decide) ?_
        exact w_sub (lv' := [(3, .int (v3.2.1 + 1)), (2, .int x9), (1, .int r1), (0, .ref (ad 0))]) [0, 1, 4, 5] rfl (hK5 ((v6.1, v3.2.1 + 1, x9)) h)
      · refine w_iconst C 1 dX11_stamped_79 rfl (by decide) ?_
        refine w_goto (q := 84) C dX11_stamped_80 (by decide) ?_
        refine w_iadd C dX11_stamped_84 rfl ?_
        refine w_nm h (fun x10 h => ?_)
        refine w_istore_n C [(2, .int x10), (5, .int v6.2.1), (4, .int v6.2.2), (3, .int v3.2.1), (1, .int r1), (0, .ref (ad 0))] dX11_stamped_85 rfl (by decide) rfl ?_
        refine w_iinc (j := 3) C (v3.2.1 + 1) [(3, .int (v3.2.1 + 1)), (2, .int x10), (5, .int v6.2.1), (4, .int v6.2.2), (1, .int r1), (0, .ref (ad 0))] dX11_stamped_86 rfl rfl rfl (by decide) rfl ?_
        refine w_goto (q := 9) C dX11_stamped_89 (by decide) ?_
        exact w_sub (lv' := [(3, .int (v3.2.1 + 1)), (2, .int x10), (1, .int r1), (0, .ref (ad 0))]) [0, 1, 4, 5] rfl (hK5 ((v6.1, v3.2.1 + 1, x10)) h)
    · refine w_iload C dX11_stamped_32 rfl 1 rfl ?_
      refine w_if_ne C (qt := 60) dX11_stamped_34 (by decide) rfl h (fun _ h => ?_) (fun _ h => ?_)
      · refine w_iconst C 1 dX11_stamped_60 rfl (by decide) ?_
        refine w_goto (q := 65) C dX11_stamped_61 (by decide) ?_
        refine w_istore C [(4, .int 1), (5, .int v6.2.1), (3, .int v3.2.1), (2, .int v3.2.2), (1, .int r1), (0, .ref (ad 0))] dX11_stamped_65 rfl (by decide) rfl ?_
        refine w_iinc (j := 1) C (v6.2.1 + 1) [(5, .int (v6.2.1 + 1)), (4, .int 1), (3, .int v3.2.1), (2, .int v3.2.2), (1, .int r1), (0, .ref (ad 0))] dX11_stamped_67 rfl rfl rfl (by decide) rfl ?_
        refine w_goto (q := 25) C dX11_stamped_70 (by decide) ?_
        exact w_sub (lv' := [(5, .int (v6.2.1 + 1)), (4, .int 1), (3, .int v3.2.1), (2, .int v3.2.2), (1, .int r1), (0, .ref (ad 0))]) [0, 1, 2, 3, 4, 5] rfl (hK8 ((v6.1, v6.2.1 + 1, 1)) h)
      · refine w_aload_n C dX11_stamped_37 rfl 5 rfl ?_
        refine w_iload_n C dX11_stamped_38 rfl 4 rfl ?_
        refine w_iload_n C dX11_stamped_39 rfl 2 rfl ?_
        refine w_iload C dX11_stamped_40 rfl 0 rfl ?_
        refine w_aload_n C dX11_stamped_42 rfl 5 rfl ?_
        refine w_get C 0 29 (Nat.le_of_ble_eq_true rfl) rfl rfl inB_X11 (by decide) tw6_190 rfl dX11_stamped_43 rfl ?_
        refine w_bipush C 8 dX11_stamped_46 rfl (by decide) ?_
        refine w_iload_n C dX11_stamped_48 rfl 2 rfl ?_
        refine w_imul C dX11_stamped_49 rfl ?_
        refine w_iload C dX11_stamped_50 rfl 0 rfl ?_
        refine w_iadd C dX11_stamped_52 rfl ?_
        refine w_iald C 19 48 0 (Nat.le_of_ble_eq_true rfl) (fun _ => rfl) rfl h dX11_stamped_53 rfl (fun h => ?_)
        refine bd2_w h (fun r11 u12 hc h => ?_)
        refine w_callVi C (n := 4) (As := [.int r1, .int v3.2.1, .int v6.2.1, .int (v6.1 19 (Int32.toNatClampNeg ((8 * v3.2.1) + v6.2.1)))]) (st := []) 0 (Nat.le_of_ble_eq_true rfl) rfl rfl (cfX11_hasStamped D cI cT ad (l := X.2.1) C.2.2.1 hc) tw8_48 cy_X11_hasStamped (by decide +kernel) ⟨Nat.le_of_ble_eq_true rfl, Nat.le_of_ble_eq_true rfl⟩ (by decide) rfl rfl (Nat.le_of_ble_eq_true rfl) dX11_stamped_54 rfl ?_
        refine w_if_eq C (qt := 64) dX11_stamped_57 (by decide) rfl h (fun _ h => ?_) (fun _ h => ?_)
        · refine w_iconst C 0 dX11_stamped_64 rfl (by decide) ?_
          refine w_istore C [(4, .int 0), (5, .int v6.2.1), (3, .int v3.2.1), (2, .int v3.2.2), (1, .int r1), (0, .ref (ad 0))] dX11_stamped_65 rfl (by decide) rfl ?_
          refine w_iinc (j := 1) C (v6.2.1 + 1) [(5, .int (v6.2.1 + 1)), (4, .int 0), (3, .int v3.2.1), (2, .int v3.2.2), (1, .int r1), (0, .ref (ad 0))] dX11_stamped_67 rfl rfl rfl (by decide) rfl ?_
          refine w_goto (q := 25) C dX11_stamped_70 (by decide) ?_
          exact w_sub (lv' := [(5, .int (v6.2.1 + 1)), (4, .int 0), (3, .int v3.2.1), (2, .int v3.2.2), (1, .int r1), (0, .ref (ad 0))]) [0, 1, 2, 3, 4, 5] rfl (hK8 ((u12, v6.2.1 + 1, 0)) h)
        · refine w_iconst C 1 dX11_stamped_60 rfl (by decide) ?_
          refine w_goto (q := 65) C dX11_stamped_61 (by decide) ?_
          refine w_istore C [(4, .int 1), (5, .int v6.2.1), (3, .int v3.2.1), (2, .int v3.2.2), (1, .int r1), (0, .ref (ad 0))] dX11_stamped_65 rfl (by decide) rfl ?_
          refine w_iinc (j := 1) C (v6.2.1 + 1) [(5, .int (v6.2.1 + 1)), (4, .int 1), (3, .int v3.2.1), (2, .int v3.2.2), (1, .int r1), (0, .ref (ad 0))] dX11_stamped_67 rfl rfl rfl (by decide) rfl ?_
          refine w_goto (q := 25) C dX11_stamped_70 (by decide) ?_
          exact w_sub (lv' := [(5, .int (v6.2.1 + 1)), (4, .int 1), (3, .int v3.2.1), (2, .int v3.2.2), (1, .int r1), (0, .ref (ad 0))]) [0, 1, 2, 3, 4, 5] rfl (hK8 ((u12, v6.2.1 + 1, 1)) h)
theorem cfX11_stamped (D : va_G) (cI cT : ClassId) (ad : Nat → Nat) {l : Launch} (had : gAp (gM D cI cT ad)) {F : Nat} {σ : St}  {r : Int32} {σ' : St} (h : fX11_stamped F σ = some (r, σ')) : MI l yX11_stamped (wB yX11_stamped cX11_stamped 6 (some .int)) 7 162 (gM D cI cT ad) [.ref (ad 0)] σ r σ' := mk_MI had (by decide +kernel) (Nat.le_of_ble_eq_true rfl) (fun X hX C hr => wfX11_stamped C hr h)

def fX11_bitsOf (F : Nat) (σ : St) (a0 : Int32) : Option Int32 := lp (fun (K2 : (Int32 × Int32) → Option Int32) (v1 : Int32 × Int32) => if v1.1 = 0 then (some v1.2) else nm (v1.1 &&& (v1.1 - 1)) fun x4 => K2 ((x4, v1.2 + 1))) F ((a0, 0))
set_option maxRecDepth 20000 in
theorem wfX11_bitsOf {X : XT} {D : va_G} {cI cT : ClassId} {ad : Nat → Nat} {F : Nat} {σ : St} {a0 : Int32} {r : Int32} (C : Cx X (gM D cI cT ad) cX11_bitsOf 3 RX11 0 0 0) (hr : RetI X (gM D cI cT ad) cX11_bitsOf 3 0 r σ) (h : fX11_bitsOf F σ a0 = some r) : WP X (gM D cI cT ad) 3 0 0 σ [(0, .int a0)] [] := by
  unfold fX11_bitsOf at h
  refine w_iconst C 0 dX11_bitsOf_0 rfl (by decide) ?_
  refine w_istore_n C [(1, .int 0), (0, .int a0)] dX11_bitsOf_1 rfl (by decide) rfl ?_
  refine w_iload_n C dX11_bitsOf_2 rfl 1 rfl ?_
  refine w_istore_n C [(2, .int a0), (1, .int 0), (0, .int a0)] dX11_bitsOf_3 rfl (by decide) rfl ?_
  refine w_sub (lv' := [(2, .int a0), (1, .int 0)]) [0, 1] rfl ?_
  refine lp_w (fun v1 : Int32 × Int32 => WP X (gM D cI cT ad) 3 0 4 σ [(2, .int v1.1), (1, .int v1.2)] []) (fun K2 hK3 v1 h => ?_) F _ h
  refine w_iload_n C dX11_bitsOf_4 rfl 0 rfl ?_
  refine w_if_eq C (qt := 20) dX11_bitsOf_5 (by decide) rfl h (fun _ h => ?_) (fun _ h => ?_)
  · refine w_iload_n C dX11_bitsOf_20 rfl 1 rfl ?_
    exact w_ri1 hr h (by decide) dX11_bitsOf_21
  · refine w_iinc (j := 1) C (v1.2 + 1) [(1, .int (v1.2 + 1)), (2, .int v1.1)] dX11_bitsOf_8 rfl rfl rfl (by decide) rfl ?_
    refine w_iload_n C dX11_bitsOf_11 rfl 1 rfl ?_
    refine w_iload_n C dX11_bitsOf_12 rfl 1 rfl ?_
    refine w_iconst C 1 dX11_bitsOf_13 rfl (by decide) ?_
    refine w_isub C dX11_bitsOf_14 rfl ?_
    refine w_iand C dX11_bitsOf_15 rfl ?_
    refine w_nm h (fun x4 h => ?_)
    refine w_istore_n C [(2, .int x4), (1, .int (v1.2 + 1))] dX11_bitsOf_16 rfl (by decide) rfl ?_
    refine w_goto (q := 4) C dX11_bitsOf_17 (by decide) ?_
    exact w_sub (lv' := [(2, .int x4), (1, .int (v1.2 + 1))]) [0, 1] rfl (hK3 ((x4, v1.2 + 1)) h)
theorem cfX11_bitsOf (D : va_G) (cI cT : ClassId) (ad : Nat → Nat) {l : Launch} (had : gAp (gM D cI cT ad)) {F : Nat} {σ : St} {a0 : Int32} {r : Int32} (h : fX11_bitsOf F σ a0 = some r) : MI l yX11_bitsOf (wB yX11_bitsOf cX11_bitsOf 3 (some .int)) 0 0 (gM D cI cT ad) [.int a0] σ r σ := mk_MI had (by decide +kernel) (Nat.le_of_ble_eq_true rfl) (fun X hX C hr => wfX11_bitsOf C hr h)

def fX11_count (F : Nat) (σ : St) (a0 : Int32) : Option (Int32 × St) := nm (up σ 0 4 0) fun u2 => if a0 = 0 then (ckI (a0) 8 (some (u2 5 (Int32.toNatClampNeg a0), u2))) else if a0 = 1 then (ckI (a0) 8 (some (u2 5 (Int32.toNatClampNeg a0), u2))) else if a0 = 2 then (ckI (a0) 8 (some (u2 5 (Int32.toNatClampNeg a0), u2))) else if a0 = 3 then (some (u2 0 31, u2)) else if a0 = 4 then (bd2 (fX11_binding F u2) fun r7 u8 => some (r7, u8)) else if a0 = 5 then (bd2 (fX11_stamped F u2) fun r10 u11 => some (r10, u11)) else if a0 = 6 then (some (u2 0 33, u2)) else if a0 = 7 then (some (u2 0 34, u2)) else if a0 = 8 then (some (u2 0 18, u2)) else if a0 = 9 then (ckI (a0 - 9) 3 (some (u2 16 (Int32.toNatClampNeg (a0 - 9)), u2))) else if a0 = 10 then (ckI (a0 - 9) 3 (some (u2 16 (Int32.toNatClampNeg (a0 - 9)), u2))) else if a0 = 11 then (ckI (a0 - 9) 3 (some (u2 16 (Int32.toNatClampNeg (a0 - 9)), u2))) else bd2 (fX11_fail F u2 1) fun r19 u20 => some (r19, u20)
set_option maxRecDepth 20000 in
theorem wfX11_count {X : XT} {D : va_G} {cI cT : ClassId} {ad : Nat → Nat} {F : Nat} {σ : St} {a0 : Int32} {r : Int32} {σ' : St} (C : Cx X (gM D cI cT ad) cX11_count 2 RX11 8 187 0) (hr : RetI X (gM D cI cT ad) cX11_count 2 0 r σ') (h : fX11_count F σ a0 = some (r, σ')) : WP X (gM D cI cT ad) 2 0 0 σ [(0, .ref (ad 0)), (1, .int a0)] [] := by
  unfold fX11_count at h
  refine w_aload_n C dX11_count_0 rfl 0 rfl ?_
  refine w_iconst C 0 dX11_count_1 rfl (by decide) ?_
  refine w_put C 0 4 0 (Nat.le_of_ble_eq_true rfl) rfl rfl inB_X11 tyX11_ok nmX11 (by decide) tw6_165 rfl rfl rfl (Nat.le_of_ble_eq_true rfl) rfl dX11_count_2 rfl ?_
  refine w_nst h (fun u2 h => ?_)
  refine w_iload_n C dX11_count_5 rfl 1 rfl ?_
  refine if_w h (fun e3 h => ?_) (fun e3 h => ?_)
  · refine w_tsIn (q := 68) C 0 e3 dX11_count_6 (by decide) (by decide) rfl (by decide) ?_
    refine w_aload_n C dX11_count_68 rfl 0 rfl ?_
    refine w_get C 0 5 (Nat.le_of_ble_eq_true rfl) rfl rfl inB_X11 (by decide) tw6_166 rfl dX11_count_69 rfl ?_
    refine w_iload_n C dX11_count_72 rfl 1 rfl ?_
    refine w_iald C 5 8 0 (Nat.le_of_ble_eq_true rfl) (fun _ => rfl) rfl h dX11_count_73 rfl (fun h => ?_)
    exact w_ri2 hr h (by decide) dX11_count_74
  refine if_w h (fun e4 h => ?_) (fun e4 h => ?_)
  · refine w_tsIn (q := 68) C 1 e4 dX11_count_6 (by decide) (by decide) rfl (by decide) ?_
    refine w_aload_n C dX11_count_68 rfl 0 rfl ?_
    refine w_get C 0 5 (Nat.le_of_ble_eq_true rfl) rfl rfl inB_X11 (by decide) tw6_166 rfl dX11_count_69 rfl ?_
    refine w_iload_n C dX11_count_72 rfl 1 rfl ?_
    refine w_iald C 5 8 0 (Nat.le_of_ble_eq_true rfl) (fun _ => rfl) rfl h dX11_count_73 rfl (fun h => ?_)
    exact w_ri2 hr h (by decide) dX11_count_74
  refine if_w h (fun e5 h => ?_) (fun e5 h => ?_)
  · refine w_tsIn (q := 68) C 2 e5 dX11_count_6 (by decide) (by decide) rfl (by decide) ?_
    refine w_aload_n C dX11_count_68 rfl 0 rfl ?_
    refine w_get C 0 5 (Nat.le_of_ble_eq_true rfl) rfl rfl inB_X11 (by decide) tw6_166 rfl dX11_count_69 rfl ?_
    refine w_iload_n C dX11_count_72 rfl 1 rfl ?_
    refine w_iald C 5 8 0 (Nat.le_of_ble_eq_true rfl) (fun _ => rfl) rfl h dX11_count_73 rfl (fun h => ?_)
    exact w_ri2 hr h (by decide) dX11_count_74
  refine if_w h (fun e6 h => ?_) (fun e6 h => ?_)
  · refine w_tsIn (q := 75) C 3 e6 dX11_count_6 (by decide) (by decide) rfl (by decide) ?_
    refine w_aload_n C dX11_count_75 rfl 0 rfl ?_
    refine w_get C 0 31 (Nat.le_of_ble_eq_true rfl) rfl rfl inB_X11 (by decide) tw6_192 rfl dX11_count_76 rfl ?_
    exact w_ri2 hr h (by decide) dX11_count_79
  refine if_w h (fun e9 h => ?_) (fun e9 h => ?_)
  · refine w_tsIn (q := 80) C 4 e9 dX11_count_6 (by decide) (by decide) rfl (by decide) ?_
    refine w_aload_n C dX11_count_80 rfl 0 rfl ?_
    refine bd2_w h (fun r7 u8 hc h => ?_)
    refine w_callVi C (n := 0) (As := []) (st := []) 0 (Nat.le_of_ble_eq_true rfl) rfl rfl (cfX11_binding D cI cT ad (l := X.2.1) C.2.2.1 hc) tw8_1 cy_X11_binding (by decide +kernel) ⟨Nat.le_of_ble_eq_true rfl, Nat.le_of_ble_eq_true rfl⟩ (by decide) rfl rfl (Nat.le_of_ble_eq_true rfl) dX11_count_81 rfl ?_
    exact w_ri2 hr h (by decide) dX11_count_84
  refine if_w h (fun e12 h => ?_) (fun e12 h => ?_)
  · refine w_tsIn (q := 85) C 5 e12 dX11_count_6 (by decide) (by decide) rfl (by decide) ?_
    refine w_aload_n C dX11_count_85 rfl 0 rfl ?_
    refine bd2_w h (fun r10 u11 hc h => ?_)
    refine w_callVi C (n := 0) (As := []) (st := []) 0 (Nat.le_of_ble_eq_true rfl) rfl rfl (cfX11_stamped D cI cT ad (l := X.2.1) C.2.2.1 hc) tw8_44 cy_X11_stamped (by decide +kernel) ⟨Nat.le_of_ble_eq_true rfl, Nat.le_of_ble_eq_true rfl⟩ (by decide) rfl rfl (Nat.le_of_ble_eq_true rfl) dX11_count_86 rfl ?_
    exact w_ri2 hr h (by decide) dX11_count_89
  refine if_w h (fun e13 h => ?_) (fun e13 h => ?_)
  · refine w_tsIn (q := 90) C 6 e13 dX11_count_6 (by decide) (by decide) rfl (by decide) ?_
    refine w_aload_n C dX11_count_90 rfl 0 rfl ?_
    refine w_get C 0 33 (Nat.le_of_ble_eq_true rfl) rfl rfl inB_X11 (by decide) tw6_194 rfl dX11_count_91 rfl ?_
    exact w_ri2 hr h (by decide) dX11_count_94
  refine if_w h (fun e14 h => ?_) (fun e14 h => ?_)
  · refine w_tsIn (q := 95) C 7 e14 dX11_count_6 (by decide) (by decide) rfl (by decide) ?_
    refine w_aload_n C dX11_count_95 rfl 0 rfl ?_
    refine w_get C 0 34 (Nat.le_of_ble_eq_true rfl) rfl rfl inB_X11 (by decide) tw6_195 rfl dX11_count_96 rfl ?_
    exact w_ri2 hr h (by decide) dX11_count_99
  refine if_w h (fun e15 h => ?_) (fun e15 h => ?_)
  · refine w_tsIn (q := 100) C 8 e15 dX11_count_6 (by decide) (by decide) rfl (by decide) ?_
    refine w_aload_n C dX11_count_100 rfl 0 rfl ?_
    refine w_get C 0 18 (Nat.le_of_ble_eq_true rfl) rfl rfl inB_X11 (by decide) tw6_179 rfl dX11_count_101 rfl ?_
    exact w_ri2 hr h (by decide) dX11_count_104
  refine if_w h (fun e16 h => ?_) (fun e16 h => ?_)
  · refine w_tsIn (q := 105) C 9 e16 dX11_count_6 (by decide) (by decide) rfl (by decide) ?_
    refine w_aload_n C dX11_count_105 rfl 0 rfl ?_
    refine w_get C 0 16 (Nat.le_of_ble_eq_true rfl) rfl rfl inB_X11 (by decide) tw6_177 rfl dX11_count_106 rfl ?_
    refine w_iload_n C dX11_count_109 rfl 1 rfl ?_
    refine w_bipush C 9 dX11_count_110 rfl (by decide) ?_
    refine w_isub C dX11_count_112 rfl ?_
    refine w_iald C 16 3 0 (Nat.le_of_ble_eq_true rfl) (fun _ => rfl) rfl h dX11_count_113 rfl (fun h => ?_)
    exact w_ri2 hr h (by decide) dX11_count_114
  refine if_w h (fun e17 h => ?_) (fun e17 h => ?_)
  · refine w_tsIn (q := 105) C 10 e17 dX11_count_6 (by decide) (by decide) rfl (by decide) ?_
    refine w_aload_n C dX11_count_105 rfl 0 rfl ?_
    refine w_get C 0 16 (Nat.le_of_ble_eq_true rfl) rfl rfl inB_X11 (by decide) tw6_177 rfl dX11_count_106 rfl ?_
    refine w_iload_n C dX11_count_109 rfl 1 rfl ?_
    refine w_bipush C 9 dX11_count_110 rfl (by decide) ?_
    refine w_isub C dX11_count_112 rfl ?_
    refine w_iald C 16 3 0 (Nat.le_of_ble_eq_true rfl) (fun _ => rfl) rfl h dX11_count_113 rfl (fun h => ?_)
    exact w_ri2 hr h (by decide) dX11_count_114
  refine if_w h (fun e18 h => ?_) (fun e18 h => ?_)
  · refine w_tsIn (q := 105) C 11 e18 dX11_count_6 (by decide) (by decide) rfl (by decide) ?_
    refine w_aload_n C dX11_count_105 rfl 0 rfl ?_
    refine w_get C 0 16 (Nat.le_of_ble_eq_true rfl) rfl rfl inB_X11 (by decide) tw6_177 rfl dX11_count_106 rfl ?_
    refine w_iload_n C dX11_count_109 rfl 1 rfl ?_
    refine w_bipush C 9 dX11_count_110 rfl (by decide) ?_
    refine w_isub C dX11_count_112 rfl ?_
    refine w_iald C 16 3 0 (Nat.le_of_ble_eq_true rfl) (fun _ => rfl) rfl h dX11_count_113 rfl (fun h => ?_)
    exact w_ri2 hr h (by decide) dX11_count_114
  refine w_tsOut (q := 115) C dX11_count_6 (ts_out (x := a0) (0) 11 (by decide) (fun k hk => by
    have hk : k = 0 ∨ k = 1 ∨ k = 2 ∨ k = 3 ∨ k = 4 ∨ k = 5 ∨ k = 6 ∨ k = 7 ∨ k = 8 ∨ k = 9 ∨ k = 10 ∨ k = 11 := by omega
    rcases hk with rfl | rfl | rfl | rfl | rfl | rfl | rfl | rfl | rfl | rfl | rfl | rfl
    · exact e3
    · exact e4
    · exact e5
    · exact e6
    · exact e9
    · exact e12
    · exact e13
    · exact e14
    · exact e15
    · exact e16
    · exact e17
    · exact e18)) (by decide) ?_
  refine w_aload_n C dX11_count_115 rfl 0 rfl ?_
  refine w_iconst C 1 dX11_count_116 rfl (by decide) ?_
  refine bd2_w h (fun r19 u20 hc h => ?_)
  refine w_callVi C (n := 1) (As := [.int 1]) (st := []) 0 (Nat.le_of_ble_eq_true rfl) rfl rfl (cfX11_fail D cI cT ad (l := X.2.1) C.2.2.1 hc) tw7_117 cy_X11_fail (by decide +kernel) ⟨Nat.le_of_ble_eq_true rfl, Nat.le_of_ble_eq_true rfl⟩ (by decide) rfl rfl (Nat.le_of_ble_eq_true rfl) dX11_count_117 rfl ?_
  exact w_ri2 hr h (by decide) dX11_count_120
theorem cfX11_count (D : va_G) (cI cT : ClassId) (ad : Nat → Nat) {l : Launch} (had : gAp (gM D cI cT ad)) {F : Nat} {σ : St} {a0 : Int32} {r : Int32} {σ' : St} (h : fX11_count F σ a0 = some (r, σ')) : MI l yX11_count (wB yX11_count cX11_count 2 (some .int)) 8 187 (gM D cI cT ad) [.ref (ad 0), .int a0] σ r σ' := mk_MI had (by decide +kernel) (Nat.le_of_ble_eq_true rfl) (fun X hX C hr => wfX11_count C hr h)

def fX11_knees (F : Nat) (σ : St) (a0 : Int32) : Option (Int32 × St) := nm (up σ 0 4 0) fun u2 => bd1 (fX11_isValley F u2 a0) fun r3 => if r3 = 0 then (bd2 (fX11_fail F u2 1) fun r4 u5 => some (r4, u5)) else ckI (a0) 12 (some (u2 6 (Int32.toNatClampNeg a0), u2))
set_option maxRecDepth 20000 in
theorem wfX11_knees {X : XT} {D : va_G} {cI cT : ClassId} {ad : Nat → Nat} {F : Nat} {σ : St} {a0 : Int32} {r : Int32} {σ' : St} (C : Cx X (gM D cI cT ad) cX11_knees 2 RX11 2 46 0) (hr : RetI X (gM D cI cT ad) cX11_knees 2 0 r σ') (h : fX11_knees F σ a0 = some (r, σ')) : WP X (gM D cI cT ad) 2 0 0 σ [(0, .ref (ad 0)), (1, .int a0)] [] := by
  unfold fX11_knees at h
  refine w_aload_n C dX11_knees_0 rfl 0 rfl ?_
  refine w_iconst C 0 dX11_knees_1 rfl (by decide) ?_
  refine w_put C 0 4 0 (Nat.le_of_ble_eq_true rfl) rfl rfl inB_X11 tyX11_ok nmX11 (by decide) tw6_165 rfl rfl rfl (Nat.le_of_ble_eq_true rfl) rfl dX11_knees_2 rfl ?_
  refine w_nst h (fun u2 h => ?_)
  refine w_aload_n C dX11_knees_5 rfl 0 rfl ?_
  refine w_iload_n C dX11_knees_6 rfl 1 rfl ?_
  refine bd1_w h (fun r3 hc h => ?_)
  refine w_callVi C (n := 1) (As := [.int a0]) (st := []) 0 (Nat.le_of_ble_eq_true rfl) rfl rfl (cfX11_isValley D cI cT ad (l := X.2.1) C.2.2.1 hc) tw8_95 cy_X11_isValley (by decide +kernel) ⟨Nat.le_of_ble_eq_true rfl, Nat.le_of_ble_eq_true rfl⟩ (by decide) rfl rfl (Nat.le_of_ble_eq_true rfl) dX11_knees_7 rfl ?_
  refine w_if_eq C (qt := 22) dX11_knees_10 (by decide) rfl h (fun _ h => ?_) (fun _ h => ?_)
  · refine w_aload_n C dX11_knees_22 rfl 0 rfl ?_
    refine w_iconst C 1 dX11_knees_23 rfl (by decide) ?_
    refine bd2_w h (fun r4 u5 hc h => ?_)
    refine w_callVi C (n := 1) (As := [.int 1]) (st := []) 0 (Nat.le_of_ble_eq_true rfl) rfl rfl (cfX11_fail D cI cT ad (l := X.2.1) C.2.2.1 hc) tw7_117 cy_X11_fail (by decide +kernel) ⟨Nat.le_of_ble_eq_true rfl, Nat.le_of_ble_eq_true rfl⟩ (by decide) rfl rfl (Nat.le_of_ble_eq_true rfl) dX11_knees_24 rfl ?_
    exact w_ri2 hr h (by decide) dX11_knees_27
  · refine w_aload_n C dX11_knees_13 rfl 0 rfl ?_
    refine w_get C 0 6 (Nat.le_of_ble_eq_true rfl) rfl rfl inB_X11 (by decide) tw6_167 rfl dX11_knees_14 rfl ?_
    refine w_iload_n C dX11_knees_17 rfl 1 rfl ?_
    refine w_iald C 6 12 0 (Nat.le_of_ble_eq_true rfl) (fun _ => rfl) rfl h dX11_knees_18 rfl (fun h => ?_)
    refine w_goto (q := 27) C dX11_knees_19 (by decide) ?_
    exact w_ri2 hr h (by decide) dX11_knees_27
theorem cfX11_knees (D : va_G) (cI cT : ClassId) (ad : Nat → Nat) {l : Launch} (had : gAp (gM D cI cT ad)) {F : Nat} {σ : St} {a0 : Int32} {r : Int32} {σ' : St} (h : fX11_knees F σ a0 = some (r, σ')) : MI l yX11_knees (wB yX11_knees cX11_knees 2 (some .int)) 2 46 (gM D cI cT ad) [.ref (ad 0), .int a0] σ r σ' := mk_MI had (by decide +kernel) (Nat.le_of_ble_eq_true rfl) (fun X hX C hr => wfX11_knees C hr h)

def fX11_dance (F : Nat) (σ : St) (a0 : Int32) (a1 : Int32) : Option (Int32 × St) := nm (up σ 0 4 0) fun u2 => bd1 (fX11_isDance F u2 a0) fun r3 => if r3 = 0 then (bd2 (fX11_fail F u2 1) fun r19 u20 => some (r19, u20)) else if a1 = 0 then (ckI (a0) 16 (some (u2 7 (Int32.toNatClampNeg a0), u2))) else if a1 = 1 then (ckI (a0) 16 (some (u2 8 (Int32.toNatClampNeg a0), u2))) else if a1 = 2 then (ckI (a0) 16 (some (u2 9 (Int32.toNatClampNeg a0), u2))) else if a1 = 3 then (ckI (a0) 16 (some (u2 10 (Int32.toNatClampNeg a0), u2))) else if a1 = 4 then (ckI (a0) 8 (some ((u2 0 31) - (u2 18 (Int32.toNatClampNeg a0)), u2))) else if a1 = 5 then (bd1 (fX11_isOf F u2 (u2 0 32) a0) fun r9 => if r9 = 0 then (some (0, u2)) else some (1, u2)) else if a1 = 6 then (bd2 (fX11_isBinding F u2 a0) fun r11 u12 => if r11 = 0 then (some (0, u12)) else some (1, u12)) else if a1 = 7 then (ckI (a0) 16 (bd2 (fX11_danceTo F u2 a0 (u2 10 (Int32.toNatClampNeg a0))) fun r14 u15 => ckI (a0) 16 (if r14 = (u15 10 (Int32.toNatClampNeg a0)) then (some ((-1), u15)) else some (r14, u15)))) else bd2 (fX11_fail F u2 1) fun r17 u18 => some (r17, u18)
set_option maxRecDepth 20000 in
theorem wfX11_dance {X : XT} {D : va_G} {cI cT : ClassId} {ad : Nat → Nat} {F : Nat} {σ : St} {a0 : Int32} {a1 : Int32} {r : Int32} {σ' : St} (C : Cx X (gM D cI cT ad) cX11_dance 4 RX11 6 140 0) (hr : RetI X (gM D cI cT ad) cX11_dance 4 0 r σ') (h : fX11_dance F σ a0 a1 = some (r, σ')) : WP X (gM D cI cT ad) 4 0 0 σ [(0, .ref (ad 0)), (1, .int a0), (2, .int a1)] [] := by
  unfold fX11_dance at h
  refine w_aload_n C dX11_dance_0 rfl 0 rfl ?_
  refine w_iconst C 0 dX11_dance_1 rfl (by decide) ?_
  refine w_put C 0 4 0 (Nat.le_of_ble_eq_true rfl) rfl rfl inB_X11 tyX11_ok nmX11 (by decide) tw6_165 rfl rfl rfl (Nat.le_of_ble_eq_true rfl) rfl dX11_dance_2 rfl ?_
  refine w_nst h (fun u2 h => ?_)
  refine w_aload_n C dX11_dance_5 rfl 0 rfl ?_
  refine w_iload_n C dX11_dance_6 rfl 1 rfl ?_
  refine bd1_w h (fun r3 hc h => ?_)
  refine w_callVi C (n := 1) (As := [.int a0]) (st := []) 0 (Nat.le_of_ble_eq_true rfl) rfl rfl (cfX11_isDance D cI cT ad (l := X.2.1) C.2.2.1 hc) tw8_106 cy_X11_isDance (by decide +kernel) ⟨Nat.le_of_ble_eq_true rfl, Nat.le_of_ble_eq_true rfl⟩ (by decide) rfl rfl (Nat.le_of_ble_eq_true rfl) dX11_dance_7 rfl ?_
  refine w_if_ne C (qt := 19) dX11_dance_10 (by decide) rfl h (fun _ h => ?_) (fun _ h => ?_)
  · refine w_iload_n C dX11_dance_19 rfl 2 rfl ?_
    refine if_w h (fun e4 h => ?_) (fun e4 h => ?_)
    · refine w_tsIn (q := 68) C 0 e4 dX11_dance_20 (by decide) (by decide) rfl (by decide) ?_
      refine w_aload_n C dX11_dance_68 rfl 0 rfl ?_
      refine w_get C 0 7 (Nat.le_of_ble_eq_true rfl) rfl rfl inB_X11 (by decide) tw6_168 rfl dX11_dance_69 rfl ?_
      refine w_iload_n C dX11_dance_72 rfl 1 rfl ?_
      refine w_iald C 7 16 0 (Nat.le_of_ble_eq_true rfl) (fun _ => rfl) rfl h dX11_dance_73 rfl (fun h => ?_)
      exact w_ri2 hr h (by decide) dX11_dance_74
    refine if_w h (fun e5 h => ?_) (fun e5 h => ?_)
    · refine w_tsIn (q := 75) C 1 e5 dX11_dance_20 (by decide) (by decide) rfl (by decide) ?_
      refine w_aload_n C dX11_dance_75 rfl 0 rfl ?_
      refine w_get C 0 8 (Nat.le_of_ble_eq_true rfl) rfl rfl inB_X11 (by decide) tw6_169 rfl dX11_dance_76 rfl ?_
      refine w_iload_n C dX11_dance_79 rfl 1 rfl ?_
      refine w_iald C 8 16 0 (Nat.le_of_ble_eq_true rfl) (fun _ => rfl) rfl h dX11_dance_80 rfl (fun h => ?_)
      exact w_ri2 hr h (by decide) dX11_dance_81
    refine if_w h (fun e6 h => ?_) (fun e6 h => ?_)
    · refine w_tsIn (q := 82) C 2 e6 dX11_dance_20 (by decide) (by decide) rfl (by decide) ?_
      refine w_aload_n C dX11_dance_82 rfl 0 rfl ?_
      refine w_get C 0 9 (Nat.le_of_ble_eq_true rfl) rfl rfl inB_X11 (by decide) tw6_170 rfl dX11_dance_83 rfl ?_
      refine w_iload_n C dX11_dance_86 rfl 1 rfl ?_
      refine w_iald C 9 16 0 (Nat.le_of_ble_eq_true rfl) (fun _ => rfl) rfl h dX11_dance_87 rfl (fun h => ?_)
      exact w_ri2 hr h (by decide) dX11_dance_88
    refine if_w h (fun e7 h => ?_) (fun e7 h => ?_)
    · refine w_tsIn (q := 89) C 3 e7 dX11_dance_20 (by decide) (by decide) rfl (by decide) ?_
      refine w_aload_n C dX11_dance_89 rfl 0 rfl ?_
      refine w_get C 0 10 (Nat.le_of_ble_eq_true rfl) rfl rfl inB_X11 (by decide) tw6_171 rfl dX11_dance_90 rfl ?_
      refine w_iload_n C dX11_dance_93 rfl 1 rfl ?_
      refine w_iald C 10 16 0 (Nat.le_of_ble_eq_true rfl) (fun _ => rfl) rfl h dX11_dance_94 rfl (fun h => ?_)
      exact w_ri2 hr h (by decide) dX11_dance_95
    refine if_w h (fun e8 h => ?_) (fun e8 h => ?_)
    · refine w_tsIn (q := 96) C 4 e8 dX11_dance_20 (by decide) (by decide) rfl (by decide) ?_
      refine w_aload_n C dX11_dance_96 rfl 0 rfl ?_
      refine w_get C 0 31 (Nat.le_of_ble_eq_true rfl) rfl rfl inB_X11 (by decide) tw6_192 rfl dX11_dance_97 rfl ?_
      refine w_aload_n C dX11_dance_100 rfl 0 rfl ?_
      refine w_get C 0 28 (Nat.le_of_ble_eq_true rfl) rfl rfl inB_X11 (by decide) tw6_189 rfl dX11_dance_101 rfl ?_
      refine w_iload_n C dX11_dance_104 rfl 1 rfl ?_
      refine w_iald C 18 8 0 (Nat.le_of_ble_eq_true rfl) (fun _ => rfl) rfl h dX11_dance_105 rfl (fun h => ?_)
      refine w_isub C dX11_dance_106 rfl ?_
      exact w_ri2 hr h (by decide) dX11_dance_107
    refine if_w h (fun e10 h => ?_) (fun e10 h => ?_)
    · refine w_tsIn (q := 108) C 5 e10 dX11_dance_20 (by decide) (by decide) rfl (by decide) ?_
      refine w_aload_n C dX11_dance_108 rfl 0 rfl ?_
      refine w_get C 0 32 (Nat.le_of_ble_eq_true rfl) rfl rfl inB_X11 (by decide) tw6_193 rfl dX11_dance_109 rfl ?_
      refine w_iload_n C dX11_dance_112 rfl 1 rfl ?_
      refine bd1_w h (fun r9 hc h => ?_)
      refine w_callSi C (n := 2) (As := [.int (u2 0 32), .int a0]) (st := []) (cfX11_isOf D cI cT ad (l := X.2.1) C.2.2.1 hc) tw8_9 cs_X11_isOf (by decide +kernel) ⟨Nat.le_of_ble_eq_true rfl, Nat.le_of_ble_eq_true rfl⟩ (by decide) rfl rfl (Nat.le_of_ble_eq_true rfl) dX11_dance_113 rfl ?_
      refine w_if_eq C (qt := 123) dX11_dance_116 (by decide) rfl h (fun _ h => ?_) (fun _ h => ?_)
      · refine w_iconst C 0 dX11_dance_123 rfl (by decide) ?_
        exact w_ri2 hr h (by decide) dX11_dance_124
      · refine w_iconst C 1 dX11_dance_119 rfl (by decide) ?_
        refine w_goto (q := 124) C dX11_dance_120 (by decide) ?_
        exact w_ri2 hr h (by decide) dX11_dance_124
    refine if_w h (fun e13 h => ?_) (fun e13 h => ?_)
    · refine w_tsIn (q := 125) C 6 e13 dX11_dance_20 (by decide) (by decide) rfl (by decide) ?_
      refine w_aload_n C dX11_dance_125 rfl 0 rfl ?_
      refine w_iload_n C dX11_dance_126 rfl 1 rfl ?_
      refine bd2_w h (fun r11 u12 hc h => ?_)
      refine w_callVi C (n := 1) (As := [.int a0]) (st := []) 0 (Nat.le_of_ble_eq_true rfl) rfl rfl (cfX11_isBinding D cI cT ad (l := X.2.1) C.2.2.1 hc) tw8_5 cy_X11_isBinding (by decide +kernel) ⟨Nat.le_of_ble_eq_true rfl, Nat.le_of_ble_eq_true rfl⟩ (by decide) rfl rfl (Nat.le_of_ble_eq_true rfl) dX11_dance_127 rfl ?_
      refine w_if_eq C (qt := 137) dX11_dance_130 (by decide) rfl h (fun _ h => ?_) (fun _ h => ?_)
      · refine w_iconst C 0 dX11_dance_137 rfl (by decide) ?_
        exact w_ri2 hr h (by decide) dX11_dance_138
      · refine w_iconst C 1 dX11_dance_133 rfl (by decide) ?_
        refine w_goto (q := 138) C dX11_dance_134 (by decide) ?_
        exact w_ri2 hr h (by decide) dX11_dance_138
    refine if_w h (fun e16 h => ?_) (fun e16 h => ?_)
    · refine w_tsIn (q := 139) C 7 e16 dX11_dance_20 (by decide) (by decide) rfl (by decide) ?_
      refine w_aload_n C dX11_dance_139 rfl 0 rfl ?_
      refine w_iload_n C dX11_dance_140 rfl 1 rfl ?_
      refine w_aload_n C dX11_dance_141 rfl 0 rfl ?_
      refine w_get C 0 10 (Nat.le_of_ble_eq_true rfl) rfl rfl inB_X11 (by decide) tw6_171 rfl dX11_dance_142 rfl ?_
      refine w_iload_n C dX11_dance_145 rfl 1 rfl ?_
      refine w_iald C 10 16 0 (Nat.le_of_ble_eq_true rfl) (fun _ => rfl) rfl h dX11_dance_146 rfl (fun h => ?_)
      refine bd2_w h (fun r14 u15 hc h => ?_)
      refine w_callVi C (n := 2) (As := [.int a0, .int (u2 10 (Int32.toNatClampNeg a0))]) (st := []) 0 (Nat.le_of_ble_eq_true rfl) rfl rfl (cfX11_danceTo D cI cT ad (l := X.2.1) C.2.2.1 hc) tw8_16 cy_X11_danceTo (by decide +kernel) ⟨Nat.le_of_ble_eq_true rfl, Nat.le_of_ble_eq_true rfl⟩ (by decide) rfl rfl (Nat.le_of_ble_eq_true rfl) dX11_dance_147 rfl ?_
      refine w_istore_n C [(3, .int r14), (0, .ref (ad 0)), (1, .int a0), (2, .int a1)] dX11_dance_150 rfl (by decide) rfl ?_
      refine w_iload_n C dX11_dance_151 rfl 0 rfl ?_
      refine w_aload_n C dX11_dance_152 rfl 1 rfl ?_
      refine w_get C 0 10 (Nat.le_of_ble_eq_true rfl) rfl rfl inB_X11 (by decide) tw6_171 rfl dX11_dance_153 rfl ?_
      refine w_iload_n C dX11_dance_156 rfl 2 rfl ?_
      refine w_iald C 10 16 0 (Nat.le_of_ble_eq_true rfl) (fun _ => rfl) rfl h dX11_dance_157 rfl (fun h => ?_)
      refine w_icmp_ne C (qt := 165) dX11_dance_158 (by decide) rfl h (fun _ h => ?_) (fun _ h => ?_)
      · refine w_iload_n C dX11_dance_165 rfl 0 rfl ?_
        exact w_ri2 hr h (by decide) dX11_dance_166
      · refine w_iconst C (-1) dX11_dance_161 rfl (by decide) ?_
        refine w_goto (q := 166) C dX11_dance_162 (by decide) ?_
        exact w_ri2 hr h (by decide) dX11_dance_166
    refine w_tsOut (q := 167) C dX11_dance_20 (ts_out (x := a1) (0) 7 (by decide) (fun k hk => by
      have hk : k = 0 ∨ k = 1 ∨ k = 2 ∨ k = 3 ∨ k = 4 ∨ k = 5 ∨ k = 6 ∨ k = 7 := by omega
      rcases hk with rfl | rfl | rfl | rfl | rfl | rfl | rfl | rfl
      · exact e4
      · exact e5
      · exact e6
      · exact e7
      · exact e8
      · exact e10
      · exact e13
      · exact e16)) (by decide) ?_
    refine w_aload_n C dX11_dance_167 rfl 0 rfl ?_
    refine w_iconst C 1 dX11_dance_168 rfl (by decide) ?_
    refine bd2_w h (fun r17 u18 hc h => ?_)
    refine w_callVi C (n := 1) (As := [.int 1]) (st := []) 0 (Nat.le_of_ble_eq_true rfl) rfl rfl (cfX11_fail D cI cT ad (l := X.2.1) C.2.2.1 hc) tw7_117 cy_X11_fail (by decide +kernel) ⟨Nat.le_of_ble_eq_true rfl, Nat.le_of_ble_eq_true rfl⟩ (by decide) rfl rfl (Nat.le_of_ble_eq_true rfl) dX11_dance_169 rfl ?_
    exact w_ri2 hr h (by decide) dX11_dance_172
  · refine w_aload_n C dX11_dance_13 rfl 0 rfl ?_
    refine w_iconst C 1 dX11_dance_14 rfl (by decide) ?_
    refine bd2_w h (fun r19 u20 hc h => ?_)
    refine w_callVi C (n := 1) (As := [.int 1]) (st := []) 0 (Nat.le_of_ble_eq_true rfl) rfl rfl (cfX11_fail D cI cT ad (l := X.2.1) C.2.2.1 hc) tw7_117 cy_X11_fail (by decide +kernel) ⟨Nat.le_of_ble_eq_true rfl, Nat.le_of_ble_eq_true rfl⟩ (by decide) rfl rfl (Nat.le_of_ble_eq_true rfl) dX11_dance_15 rfl ?_
    exact w_ri2 hr h (by decide) dX11_dance_18
theorem cfX11_dance (D : va_G) (cI cT : ClassId) (ad : Nat → Nat) {l : Launch} (had : gAp (gM D cI cT ad)) {F : Nat} {σ : St} {a0 : Int32} {a1 : Int32} {r : Int32} {σ' : St} (h : fX11_dance F σ a0 a1 = some (r, σ')) : MI l yX11_dance (wB yX11_dance cX11_dance 4 (some .int)) 6 140 (gM D cI cT ad) [.ref (ad 0), .int a0, .int a1] σ r σ' := mk_MI had (by decide +kernel) (Nat.le_of_ble_eq_true rfl) (fun X hX C hr => wfX11_dance C hr h)

def fX11_step (F : Nat) (σ : St) (a0 : Int32) (a1 : Int32) (a2 : Int32) : Option (Int32 × St) := nm (up σ 0 4 0) fun u2 => bd1 (fX11_isStep F u2 a0 a1) fun r3 => jn (fun v4 : Unit => bd2 (fX11_fail F u2 1) fun r7 u8 => some (r7, u8)) fun J5 => if r3 = 0 then (J5 (())) else bd1 (fX11_isIn F u2 (Int32.toInt64 a2) 0 3) fun r9 => if r9 = 0 then (J5 (())) else nm ((10 * a0) + a1) fun x10 => if a2 = 0 then (ckI (x10) 160 (some (u2 11 (Int32.toNatClampNeg x10), u2))) else if a2 = (1 : Int32) then (ckI (x10) 160 (some (u2 12 (Int32.toNatClampNeg x10), u2))) else if a2 = (2 : Int32) then (ckI (x10) 160 (some (u2 13 (Int32.toNatClampNeg x10), u2))) else ckI (x10) 160 (some (u2 14 (Int32.toNatClampNeg x10), u2))
set_option maxRecDepth 20000 in
theorem wfX11_step {X : XT} {D : va_G} {cI cT : ClassId} {ad : Nat → Nat} {F : Nat} {σ : St} {a0 : Int32} {a1 : Int32} {a2 : Int32} {r : Int32} {σ' : St} (C : Cx X (gM D cI cT ad) cX11_step 5 RX11 3 68 0) (hr : RetI X (gM D cI cT ad) cX11_step 5 0 r σ') (h : fX11_step F σ a0 a1 a2 = some (r, σ')) : WP X (gM D cI cT ad) 5 0 0 σ [(0, .ref (ad 0)), (1, .int a0), (2, .int a1), (3, .int a2)] [] := by
  unfold fX11_step at h
  refine w_aload_n C dX11_step_0 rfl 0 rfl ?_
  refine w_iconst C 0 dX11_step_1 rfl (by decide) ?_
  refine w_put C 0 4 0 (Nat.le_of_ble_eq_true rfl) rfl rfl inB_X11 tyX11_ok nmX11 (by decide) tw6_165 rfl rfl rfl (Nat.le_of_ble_eq_true rfl) rfl dX11_step_2 rfl ?_
  refine w_nst h (fun u2 h => ?_)
  refine w_aload_n C dX11_step_5 rfl 0 rfl ?_
  refine w_iload_n C dX11_step_6 rfl 1 rfl ?_
  refine w_iload_n C dX11_step_7 rfl 2 rfl ?_
  refine bd1_w h (fun r3 hc h => ?_)
  refine w_callVi C (n := 2) (As := [.int a0, .int a1]) (st := []) 0 (Nat.le_of_ble_eq_true rfl) rfl rfl (cfX11_isStep D cI cT ad (l := X.2.1) C.2.2.1 hc) tw8_114 cy_X11_isStep (by decide +kernel) ⟨Nat.le_of_ble_eq_true rfl, Nat.le_of_ble_eq_true rfl⟩ (by decide) rfl rfl (Nat.le_of_ble_eq_true rfl) dX11_step_8 rfl ?_
  refine jn_w (fun v4 : Unit => WP X (gM D cI cT ad) 5 0 26 u2 [(0, .ref (ad 0))] []) h (fun v4 h => ?_) (fun J5 hJ6 h => ?_)
  · refine w_aload_n C dX11_step_26 rfl 0 rfl ?_
    refine w_iconst C 1 dX11_step_27 rfl (by decide) ?_
    refine bd2_w h (fun r7 u8 hc h => ?_)
    refine w_callVi C (n := 1) (As := [.int 1]) (st := []) 0 (Nat.le_of_ble_eq_true rfl) rfl rfl (cfX11_fail D cI cT ad (l := X.2.1) C.2.2.1 hc) tw7_117 cy_X11_fail (by decide +kernel) ⟨Nat.le_of_ble_eq_true rfl, Nat.le_of_ble_eq_true rfl⟩ (by decide) rfl rfl (Nat.le_of_ble_eq_true rfl) dX11_step_28 rfl ?_
    exact w_ri2 hr h (by decide) dX11_step_31
  · refine w_if_eq C (qt := 26) dX11_step_11 (by decide) rfl h (fun _ h => ?_) (fun _ h => ?_)
    · exact w_sub (lv' := [(0, .ref (ad 0))]) [0] rfl (hJ6 (()) h)
    · refine w_iload_n C dX11_step_14 rfl 3 rfl ?_
      refine w_i2l C dX11_step_15 rfl ?_
      refine w_lconst C 0 dX11_step_16 rfl (by decide) ?_
      refine w_ldc2 C (3) dX11_step_17 rfl tw8_118 ?_
      refine bd1_w h (fun r9 hc h => ?_)
      refine w_callSi C (n := 3) (As := [.long (Int32.toInt64 a2), .long 0, .long 3]) (st := []) (cfX11_isIn D cI cT ad (l := X.2.1) C.2.2.1 hc) tw8_99 cs_X11_isIn (by decide +kernel) ⟨Nat.le_of_ble_eq_true rfl, Nat.le_of_ble_eq_true rfl⟩ (by decide) rfl rfl (Nat.le_of_ble_eq_true rfl) dX11_step_20 rfl ?_
      refine w_if_ne C (qt := 32) dX11_step_23 (by decide) rfl h (fun _ h => ?_) (fun _ h => ?_)
      · refine w_bipush C 10 dX11_step_32 rfl (by decide) ?_
        refine w_iload_n C dX11_step_34 rfl 1 rfl ?_
        refine w_imul C dX11_step_35 rfl ?_
        refine w_iload_n C dX11_step_36 rfl 2 rfl ?_
        refine w_iadd C dX11_step_37 rfl ?_
        refine w_nm h (fun x10 h => ?_)
        refine w_istore C [(4, .int x10), (0, .ref (ad 0)), (1, .int a0), (2, .int a1), (3, .int a2)] dX11_step_38 rfl (by decide) rfl ?_
        refine w_iload_n C dX11_step_40 rfl 4 rfl ?_
        refine w_if_ne C (qt := 54) dX11_step_41 (by decide) rfl h (fun _ h => ?_) (fun _ h => ?_)
        · refine w_iload_n C dX11_step_54 rfl 4 rfl ?_
          refine w_iconst C 1 dX11_step_55 rfl (by decide) ?_
          refine w_icmp_ne C (qt := 69) dX11_step_56 (by decide) rfl h (fun _ h => ?_) (fun _ h => ?_)
          · refine w_iload_n C dX11_step_69 rfl 4 rfl ?_
            refine w_iconst C 2 dX11_step_70 rfl (by decide) ?_
            refine w_icmp_ne C (qt := 84) dX11_step_71 (by decide) rfl h (fun _ h => ?_) (fun _ h => ?_)
            · refine w_aload_n C dX11_step_84 rfl 1 rfl ?_
              refine w_get C 0 14 (Nat.le_of_ble_eq_true rfl) rfl rfl inB_X11 (by decide) tw6_175 rfl dX11_step_85 rfl ?_
              refine w_iload C dX11_step_88 rfl 0 rfl ?_
              refine w_iald C 14 160 0 (Nat.le_of_ble_eq_true rfl) (fun _ => rfl) rfl h dX11_step_90 rfl (fun h => ?_)
              exact w_ri2 hr h (by decide) dX11_step_91
            · refine w_aload_n C dX11_step_74 rfl 1 rfl ?_
              refine w_get C 0 13 (Nat.le_of_ble_eq_true rfl) rfl rfl inB_X11 (by decide) tw6_174 rfl dX11_step_75 rfl ?_
              refine w_iload C dX11_step_78 rfl 0 rfl ?_
              refine w_iald C 13 160 0 (Nat.le_of_ble_eq_true rfl) (fun _ => rfl) rfl h dX11_step_80 rfl (fun h => ?_)
              refine w_goto (q := 91) C dX11_step_81 (by decide) ?_
              exact w_ri2 hr h (by decide) dX11_step_91
          · refine w_aload_n C dX11_step_59 rfl 1 rfl ?_
            refine w_get C 0 12 (Nat.le_of_ble_eq_true rfl) rfl rfl inB_X11 (by decide) tw6_173 rfl dX11_step_60 rfl ?_
            refine w_iload C dX11_step_63 rfl 0 rfl ?_
            refine w_iald C 12 160 0 (Nat.le_of_ble_eq_true rfl) (fun _ => rfl) rfl h dX11_step_65 rfl (fun h => ?_)
            refine w_goto (q := 91) C dX11_step_66 (by decide) ?_
            exact w_ri2 hr h (by decide) dX11_step_91
        · refine w_aload_n C dX11_step_44 rfl 1 rfl ?_
          refine w_get C 0 11 (Nat.le_of_ble_eq_true rfl) rfl rfl inB_X11 (by decide) tw6_172 rfl dX11_step_45 rfl ?_
          refine w_iload C dX11_step_48 rfl 0 rfl ?_
          refine w_iald C 11 160 0 (Nat.le_of_ble_eq_true rfl) (fun _ => rfl) rfl h dX11_step_50 rfl (fun h => ?_)
          refine w_goto (q := 91) C dX11_step_51 (by decide) ?_
          exact w_ri2 hr h (by decide) dX11_step_91
      · exact w_sub (lv' := [(0, .ref (ad 0))]) [0] rfl (hJ6 (()) h)
theorem cfX11_step (D : va_G) (cI cT : ClassId) (ad : Nat → Nat) {l : Launch} (had : gAp (gM D cI cT ad)) {F : Nat} {σ : St} {a0 : Int32} {a1 : Int32} {a2 : Int32} {r : Int32} {σ' : St} (h : fX11_step F σ a0 a1 a2 = some (r, σ')) : MI l yX11_step (wB yX11_step cX11_step 5 (some .int)) 3 68 (gM D cI cT ad) [.ref (ad 0), .int a0, .int a1, .int a2] σ r σ' := mk_MI had (by decide +kernel) (Nat.le_of_ble_eq_true rfl) (fun X hX C hr => wfX11_step C hr h)

def fX11_where (F : Nat) (σ : St) (a0 : Int32) (a1 : Int32) (a2 : Int32) (a3 : Int32) : Option (Int32 × St) := nm (up σ 0 4 0) fun u2 => bd1 (fX11_isDance F u2 a0) fun r3 => jn (fun v4 : St => bd2 (fX11_fail F v4 1) fun r7 u8 => some (r7, u8)) fun J5 => if r3 = 0 then (J5 u2) else ckI (a0) 16 (bd1 (fX11_isIn F u2 (Int32.toInt64 a1) (-1) (Int32.toInt64 ((u2 10 (Int32.toNatClampNeg a0)) - 1))) fun r9 => if r9 = 0 then (J5 u2) else if a2 < 0 then (J5 u2) else if (1 : Int32) < a2 then (J5 u2) else bd1 (fX11_isIn F u2 (Int32.toInt64 a3) 0 2) fun r10 => if r10 = 0 then (J5 u2) else bd2 (fX11_danceTo F u2 a0 (a1 + 1)) fun r11 u12 => if r11 = (a1 + 1) then (if a3 = 0 then (ckI (a2) 2 (some (u12 21 (Int32.toNatClampNeg a2), u12))) else if a3 = (1 : Int32) then (ckI (a2) 2 (some (u12 22 (Int32.toNatClampNeg a2), u12))) else ckI (a2) 2 (some (u12 23 (Int32.toNatClampNeg a2), u12))) else J5 u12)
set_option maxRecDepth 20000 in
theorem wfX11_where {X : XT} {D : va_G} {cI cT : ClassId} {ad : Nat → Nat} {F : Nat} {σ : St} {a0 : Int32} {a1 : Int32} {a2 : Int32} {a3 : Int32} {r : Int32} {σ' : St} (C : Cx X (gM D cI cT ad) cX11_where 5 RX11 4 98 0) (hr : RetI X (gM D cI cT ad) cX11_where 5 0 r σ') (h : fX11_where F σ a0 a1 a2 a3 = some (r, σ')) : WP X (gM D cI cT ad) 5 0 0 σ [(0, .ref (ad 0)), (1, .int a0), (2, .int a1), (3, .int a2), (4, .int a3)] [] := by
  unfold fX11_where at h
  refine w_aload_n C dX11_where_0 rfl 0 rfl ?_
  refine w_iconst C 0 dX11_where_1 rfl (by decide) ?_
  refine w_put C 0 4 0 (Nat.le_of_ble_eq_true rfl) rfl rfl inB_X11 tyX11_ok nmX11 (by decide) tw6_165 rfl rfl rfl (Nat.le_of_ble_eq_true rfl) rfl dX11_where_2 rfl ?_
  refine w_nst h (fun u2 h => ?_)
  refine w_aload_n C dX11_where_5 rfl 0 rfl ?_
  refine w_iload_n C dX11_where_6 rfl 1 rfl ?_
  refine bd1_w h (fun r3 hc h => ?_)
  refine w_callVi C (n := 1) (As := [.int a0]) (st := []) 0 (Nat.le_of_ble_eq_true rfl) rfl rfl (cfX11_isDance D cI cT ad (l := X.2.1) C.2.2.1 hc) tw8_106 cy_X11_isDance (by decide +kernel) ⟨Nat.le_of_ble_eq_true rfl, Nat.le_of_ble_eq_true rfl⟩ (by decide) rfl rfl (Nat.le_of_ble_eq_true rfl) dX11_where_7 rfl ?_
  refine jn_w (fun v4 : St => WP X (gM D cI cT ad) 5 0 69 v4 [(0, .ref (ad 0))] []) h (fun v4 h => ?_) (fun J5 hJ6 h => ?_)
  · refine w_aload_n C dX11_where_69 rfl 0 rfl ?_
    refine w_iconst C 1 dX11_where_70 rfl (by decide) ?_
    refine bd2_w h (fun r7 u8 hc h => ?_)
    refine w_callVi C (n := 1) (As := [.int 1]) (st := []) 0 (Nat.le_of_ble_eq_true rfl) rfl rfl (cfX11_fail D cI cT ad (l := X.2.1) C.2.2.1 hc) tw7_117 cy_X11_fail (by decide +kernel) ⟨Nat.le_of_ble_eq_true rfl, Nat.le_of_ble_eq_true rfl⟩ (by decide) rfl rfl (Nat.le_of_ble_eq_true rfl) dX11_where_71 rfl ?_
    exact w_ri2 hr h (by decide) dX11_where_74
  · refine w_if_eq C (qt := 69) dX11_where_10 (by decide) rfl h (fun _ h => ?_) (fun _ h => ?_)
    · exact w_sub (lv' := [(0, .ref (ad 0))]) [0] rfl (hJ6 u2 h)
    · refine w_iload_n C dX11_where_13 rfl 2 rfl ?_
      refine w_i2l C dX11_where_14 rfl ?_
      refine w_ldc2 C (-1) dX11_where_15 rfl tw8_123 ?_
      refine w_aload_n C dX11_where_18 rfl 0 rfl ?_
      refine w_get C 0 10 (Nat.le_of_ble_eq_true rfl) rfl rfl inB_X11 (by decide) tw6_171 rfl dX11_where_19 rfl ?_
      refine w_iload_n C dX11_where_22 rfl 1 rfl ?_
      refine w_iald C 10 16 0 (Nat.le_of_ble_eq_true rfl) (fun _ => rfl) rfl h dX11_where_23 rfl (fun h => ?_)
      refine w_iconst C 1 dX11_where_24 rfl (by decide) ?_
      refine w_isub C dX11_where_25 rfl ?_
      refine w_i2l C dX11_where_26 rfl ?_
      refine bd1_w h (fun r9 hc h => ?_)
      refine w_callSi C (n := 3) (As := [.long (Int32.toInt64 a1), .long (-1), .long (Int32.toInt64 ((u2 10 (Int32.toNatClampNeg a0)) - 1))]) (st := []) (cfX11_isIn D cI cT ad (l := X.2.1) C.2.2.1 hc) tw8_99 cs_X11_isIn (by decide +kernel) ⟨Nat.le_of_ble_eq_true rfl, Nat.le_of_ble_eq_true rfl⟩ (by decide) rfl rfl (Nat.le_of_ble_eq_true rfl) dX11_where_27 rfl ?_
      refine w_if_eq C (qt := 69) dX11_where_30 (by decide) rfl h (fun _ h => ?_) (fun _ h => ?_)
      · exact w_sub (lv' := [(0, .ref (ad 0))]) [0] rfl (hJ6 u2 h)
      · refine w_iload_n C dX11_where_33 rfl 3 rfl ?_
        refine w_if_lt C (qt := 69) dX11_where_34 (by decide) rfl h (fun _ h => ?_) (fun _ h => ?_)
        · exact w_sub (lv' := [(0, .ref (ad 0))]) [0] rfl (hJ6 u2 h)
        · refine w_iload_n C dX11_where_37 rfl 3 rfl ?_
          refine w_iconst C 1 dX11_where_38 rfl (by decide) ?_
          refine w_icmp_gt C (qt := 69) dX11_where_39 (by decide) rfl h (fun _ h => ?_) (fun _ h => ?_)
          · exact w_sub (lv' := [(0, .ref (ad 0))]) [0] rfl (hJ6 u2 h)
          · refine w_iload C dX11_where_42 rfl 4 rfl ?_
            refine w_i2l C dX11_where_44 rfl ?_
            refine w_lconst C 0 dX11_where_45 rfl (by decide) ?_
            refine w_ldc2 C (2) dX11_where_46 rfl tw8_124 ?_
            refine bd1_w h (fun r10 hc h => ?_)
            refine w_callSi C (n := 3) (As := [.long (Int32.toInt64 a3), .long 0, .long 2]) (st := []) (cfX11_isIn D cI cT ad (l := X.2.1) C.2.2.1 hc) tw8_99 cs_X11_isIn (by decide +kernel) ⟨Nat.le_of_ble_eq_true rfl, Nat.le_of_ble_eq_true rfl⟩ (by decide) rfl rfl (Nat.le_of_ble_eq_true rfl) dX11_where_49 rfl ?_
            refine w_if_eq C (qt := 69) dX11_where_52 (by decide) rfl h (fun _ h => ?_) (fun _ h => ?_)
            · exact w_sub (lv' := [(0, .ref (ad 0))]) [0] rfl (hJ6 u2 h)
            · refine w_aload_n C dX11_where_55 rfl 0 rfl ?_
              refine w_iload_n C dX11_where_56 rfl 1 rfl ?_
              refine w_iload_n C dX11_where_57 rfl 2 rfl ?_
              refine w_iconst C 1 dX11_where_58 rfl (by decide) ?_
              refine w_iadd C dX11_where_59 rfl ?_
              refine bd2_w h (fun r11 u12 hc h => ?_)
              refine w_callVi C (n := 2) (As := [.int a0, .int (a1 + 1)]) (st := []) 0 (Nat.le_of_ble_eq_true rfl) rfl rfl (cfX11_danceTo D cI cT ad (l := X.2.1) C.2.2.1 hc) tw8_16 cy_X11_danceTo (by decide +kernel) ⟨Nat.le_of_ble_eq_true rfl, Nat.le_of_ble_eq_true rfl⟩ (by decide) rfl rfl (Nat.le_of_ble_eq_true rfl) dX11_where_60 rfl ?_
              refine w_iload_n C dX11_where_63 rfl 2 rfl ?_
              refine w_iconst C 1 dX11_where_64 rfl (by decide) ?_
              refine w_iadd C dX11_where_65 rfl ?_
              refine w_icmp_eq C (qt := 75) dX11_where_66 (by decide) rfl h (fun _ h => ?_) (fun _ h => ?_)
              · refine w_iload C dX11_where_75 rfl 4 rfl ?_
                refine w_if_ne C (qt := 89) dX11_where_77 (by decide) rfl h (fun _ h => ?_) (fun _ h => ?_)
                · refine w_iload C dX11_where_89 rfl 4 rfl ?_
                  refine w_iconst C 1 dX11_where_91 rfl (by decide) ?_
                  refine w_icmp_ne C (qt := 104) dX11_where_92 (by decide) rfl h (fun _ h => ?_) (fun _ h => ?_)
                  · refine w_aload_n C dX11_where_104 rfl 0 rfl ?_
                    refine w_get C 0 37 (Nat.le_of_ble_eq_true rfl) rfl rfl inB_X11 (by decide) tw6_198 rfl dX11_where_105 rfl ?_
                    refine w_iload_n C dX11_where_108 rfl 3 rfl ?_
                    refine w_iald C 23 2 0 (Nat.le_of_ble_eq_true rfl) (fun _ => rfl) rfl h dX11_where_109 rfl (fun h => ?_)
                    exact w_ri2 hr h (by decide) dX11_where_110
                  · refine w_aload_n C dX11_where_95 rfl 0 rfl ?_
                    refine w_get C 0 36 (Nat.le_of_ble_eq_true rfl) rfl rfl inB_X11 (by decide) tw6_197 rfl dX11_where_96 rfl ?_
                    refine w_iload_n C dX11_where_99 rfl 3 rfl ?_
                    refine w_iald C 22 2 0 (Nat.le_of_ble_eq_true rfl) (fun _ => rfl) rfl h dX11_where_100 rfl (fun h => ?_)
                    refine w_goto (q := 110) C dX11_where_101 (by decide) ?_
                    exact w_ri2 hr h (by decide) dX11_where_110
                · refine w_aload_n C dX11_where_80 rfl 0 rfl ?_
                  refine w_get C 0 35 (Nat.le_of_ble_eq_true rfl) rfl rfl inB_X11 (by decide) tw6_196 rfl dX11_where_81 rfl ?_
                  refine w_iload_n C dX11_where_84 rfl 3 rfl ?_
                  refine w_iald C 21 2 0 (Nat.le_of_ble_eq_true rfl) (fun _ => rfl) rfl h dX11_where_85 rfl (fun h => ?_)
                  refine w_goto (q := 110) C dX11_where_86 (by decide) ?_
                  exact w_ri2 hr h (by decide) dX11_where_110
              · exact w_sub (lv' := [(0, .ref (ad 0))]) [0] rfl (hJ6 u12 h)
theorem cfX11_where (D : va_G) (cI cT : ClassId) (ad : Nat → Nat) {l : Launch} (had : gAp (gM D cI cT ad)) {F : Nat} {σ : St} {a0 : Int32} {a1 : Int32} {a2 : Int32} {a3 : Int32} {r : Int32} {σ' : St} (h : fX11_where F σ a0 a1 a2 a3 = some (r, σ')) : MI l yX11_where (wB yX11_where cX11_where 5 (some .int)) 4 98 (gM D cI cT ad) [.ref (ad 0), .int a0, .int a1, .int a2, .int a3] σ r σ' := mk_MI had (by decide +kernel) (Nat.le_of_ble_eq_true rfl) (fun X hX C hr => wfX11_where C hr h)

def fX11_bound (F : Nat) (σ : St) (a0 : Int32) (a1 : Int32) : Option (Int32 × St) := nm (up σ 0 4 0) fun u2 => bd1 (fX11_isValley F u2 a0) fun r3 => jn (fun v4 : Unit => bd2 (fX11_fail F u2 1) fun r7 u8 => some (r7, u8)) fun J5 => if r3 = 0 then (J5 (())) else bd1 (fX11_isAbout F u2 a1) fun r9 => if r9 = 0 then (J5 (())) else bd2 (fX11_binding F u2) fun r10 u11 => bd2 (fX11_boundBy F u11 r10 a0 a1) fun r12 u13 => some (r12, u13)
set_option maxRecDepth 20000 in
theorem wfX11_bound {X : XT} {D : va_G} {cI cT : ClassId} {ad : Nat → Nat} {F : Nat} {σ : St} {a0 : Int32} {a1 : Int32} {r : Int32} {σ' : St} (C : Cx X (gM D cI cT ad) cX11_bound 3 RX11 7 162 0) (hr : RetI X (gM D cI cT ad) cX11_bound 3 0 r σ') (h : fX11_bound F σ a0 a1 = some (r, σ')) : WP X (gM D cI cT ad) 3 0 0 σ [(0, .ref (ad 0)), (1, .int a0), (2, .int a1)] [] := by
  unfold fX11_bound at h
  refine w_aload_n C dX11_bound_0 rfl 0 rfl ?_
  refine w_iconst C 0 dX11_bound_1 rfl (by decide) ?_
  refine w_put C 0 4 0 (Nat.le_of_ble_eq_true rfl) rfl rfl inB_X11 tyX11_ok nmX11 (by decide) tw6_165 rfl rfl rfl (Nat.le_of_ble_eq_true rfl) rfl dX11_bound_2 rfl ?_
  refine w_nst h (fun u2 h => ?_)
  refine w_aload_n C dX11_bound_5 rfl 0 rfl ?_
  refine w_iload_n C dX11_bound_6 rfl 1 rfl ?_
  refine bd1_w h (fun r3 hc h => ?_)
  refine w_callVi C (n := 1) (As := [.int a0]) (st := []) 0 (Nat.le_of_ble_eq_true rfl) rfl rfl (cfX11_isValley D cI cT ad (l := X.2.1) C.2.2.1 hc) tw8_95 cy_X11_isValley (by decide +kernel) ⟨Nat.le_of_ble_eq_true rfl, Nat.le_of_ble_eq_true rfl⟩ (by decide) rfl rfl (Nat.le_of_ble_eq_true rfl) dX11_bound_7 rfl ?_
  refine jn_w (fun v4 : Unit => WP X (gM D cI cT ad) 3 0 33 u2 [(0, .ref (ad 0))] []) h (fun v4 h => ?_) (fun J5 hJ6 h => ?_)
  · refine w_aload_n C dX11_bound_33 rfl 0 rfl ?_
    refine w_iconst C 1 dX11_bound_34 rfl (by decide) ?_
    refine bd2_w h (fun r7 u8 hc h => ?_)
    refine w_callVi C (n := 1) (As := [.int 1]) (st := []) 0 (Nat.le_of_ble_eq_true rfl) rfl rfl (cfX11_fail D cI cT ad (l := X.2.1) C.2.2.1 hc) tw7_117 cy_X11_fail (by decide +kernel) ⟨Nat.le_of_ble_eq_true rfl, Nat.le_of_ble_eq_true rfl⟩ (by decide) rfl rfl (Nat.le_of_ble_eq_true rfl) dX11_bound_35 rfl ?_
    exact w_ri2 hr h (by decide) dX11_bound_38
  · refine w_if_eq C (qt := 33) dX11_bound_10 (by decide) rfl h (fun _ h => ?_) (fun _ h => ?_)
    · exact w_sub (lv' := [(0, .ref (ad 0))]) [0] rfl (hJ6 (()) h)
    · refine w_iload_n C dX11_bound_13 rfl 2 rfl ?_
      refine bd1_w h (fun r9 hc h => ?_)
      refine w_callSi C (n := 1) (As := [.int a1]) (st := []) (cfX11_isAbout D cI cT ad (l := X.2.1) C.2.2.1 hc) tw8_129 cs_X11_isAbout (by decide +kernel) ⟨Nat.le_of_ble_eq_true rfl, Nat.le_of_ble_eq_true rfl⟩ (by decide) rfl rfl (Nat.le_of_ble_eq_true rfl) dX11_bound_14 rfl ?_
      refine w_if_eq C (qt := 33) dX11_bound_17 (by decide) rfl h (fun _ h => ?_) (fun _ h => ?_)
      · exact w_sub (lv' := [(0, .ref (ad 0))]) [0] rfl (hJ6 (()) h)
      · refine w_aload_n C dX11_bound_20 rfl 0 rfl ?_
        refine w_aload_n C dX11_bound_21 rfl 0 rfl ?_
        refine bd2_w h (fun r10 u11 hc h => ?_)
        refine w_callVi C (n := 0) (As := []) (st := [.ref (ad 0)]) 0 (Nat.le_of_ble_eq_true rfl) rfl rfl (cfX11_binding D cI cT ad (l := X.2.1) C.2.2.1 hc) tw8_1 cy_X11_binding (by decide +kernel) ⟨Nat.le_of_ble_eq_true rfl, Nat.le_of_ble_eq_true rfl⟩ (by decide) rfl rfl (Nat.le_of_ble_eq_true rfl) dX11_bound_22 rfl ?_
        refine w_iload_n C dX11_bound_25 rfl 1 rfl ?_
        refine w_iload_n C dX11_bound_26 rfl 2 rfl ?_
        refine bd2_w h (fun r12 u13 hc h => ?_)
        refine w_callVi C (n := 3) (As := [.int r10, .int a0, .int a1]) (st := []) 0 (Nat.le_of_ble_eq_true rfl) rfl rfl (cfX11_boundBy D cI cT ad (l := X.2.1) C.2.2.1 hc) tw8_52 cy_X11_boundBy (by decide +kernel) ⟨Nat.le_of_ble_eq_true rfl, Nat.le_of_ble_eq_true rfl⟩ (by decide) rfl rfl (Nat.le_of_ble_eq_true rfl) dX11_bound_27 rfl ?_
        refine w_goto (q := 38) C dX11_bound_30 (by decide) ?_
        exact w_ri2 hr h (by decide) dX11_bound_38
theorem cfX11_bound (D : va_G) (cI cT : ClassId) (ad : Nat → Nat) {l : Launch} (had : gAp (gM D cI cT ad)) {F : Nat} {σ : St} {a0 : Int32} {a1 : Int32} {r : Int32} {σ' : St} (h : fX11_bound F σ a0 a1 = some (r, σ')) : MI l yX11_bound (wB yX11_bound cX11_bound 3 (some .int)) 7 162 (gM D cI cT ad) [.ref (ad 0), .int a0, .int a1] σ r σ' := mk_MI had (by decide +kernel) (Nat.le_of_ble_eq_true rfl) (fun X hX C hr => wfX11_bound C hr h)

def fX11_clausesOf (F : Nat) (σ : St) (a0 : Int32) (a1 : Int32) (a2 : Int32) : Option Int32 := lp (fun (K2 : (Int32 × Int32) → Option Int32) (v1 : Int32 × Int32) => ckI (a0) 16 (if (σ 10 (Int32.toNatClampNeg a0)) ≤ v1.1 then (some v1.2) else nm ((10 * a0) + v1.1) fun x4 => jn (fun v5 : Int32 => if v5 = 0 then (nm (v1.2 + 0) fun x8 => K2 ((v1.1 + 1, x8))) else nm (v1.2 + 1) fun x9 => K2 ((v1.1 + 1, x9))) fun J6 => if a2 = 0 then (bd1 (fX11_binds F σ a0 v1.1 a1) fun r18 => J6 r18) else if a2 = (1 : Int32) then (bd1 (fX11_isClause F σ a0 v1.1) fun r14 => jn (fun v15 : Unit => J6 0) fun J16 => if r14 = 0 then (J16 (())) else ckI (x4) 160 (if (σ 11 (Int32.toNatClampNeg x4)) = (2 : Int32) then (ckI (x4) 160 (if (σ 12 (Int32.toNatClampNeg x4)) = (1 - a1) then (J6 1) else J16 (()))) else J16 (()))) else ckI (x4) 160 (jn (fun v10 : Unit => J6 0) fun J11 => if (σ 11 (Int32.toNatClampNeg x4)) = (3 : Int32) then (bd1 (fX11_isOfHim F σ a0 v1.1 a1) fun r13 => if r13 = 0 then (J11 (())) else J6 1) else J11 (())))) F ((0, 0))
set_option maxRecDepth 20000 in
theorem wfX11_clausesOf {X : XT} {D : va_G} {cI cT : ClassId} {ad : Nat → Nat} {F : Nat} {σ : St} {a0 : Int32} {a1 : Int32} {a2 : Int32} {r : Int32} (C : Cx X (gM D cI cT ad) cX11_clausesOf 8 RX11 3 71 0) (hr : RetI X (gM D cI cT ad) cX11_clausesOf 8 0 r σ) (h : fX11_clausesOf F σ a0 a1 a2 = some r) : WP X (gM D cI cT ad) 8 0 0 σ [(0, .ref (ad 0)), (1, .int a0), (2, .int a1), (3, .int a2)] [] := by
  unfold fX11_clausesOf at h
  refine w_iconst C 0 dX11_clausesOf_0 rfl (by decide) ?_
  refine w_istore C [(4, .int 0), (0, .ref (ad 0)), (1, .int a0), (2, .int a1), (3, .int a2)] dX11_clausesOf_1 rfl (by decide) rfl ?_
  refine w_iconst C 0 dX11_clausesOf_3 rfl (by decide) ?_
  refine w_istore C [(5, .int 0), (4, .int 0), (0, .ref (ad 0)), (1, .int a0), (2, .int a1), (3, .int a2)] dX11_clausesOf_4 rfl (by decide) rfl ?_
  refine w_sub (lv' := [(5, .int 0), (4, .int 0), (0, .ref (ad 0)), (1, .int a0), (2, .int a1), (3, .int a2)]) [0, 1, 2, 3, 4, 5] rfl ?_
  refine lp_w (fun v1 : Int32 × Int32 => WP X (gM D cI cT ad) 8 0 6 σ [(5, .int v1.1), (4, .int v1.2), (0, .ref (ad 0)), (1, .int a0), (2, .int a1), (3, .int a2)] []) (fun K2 hK3 v1 h => ?_) F _ h
  refine w_iload C dX11_clausesOf_6 rfl 0 rfl ?_
  refine w_aload_n C dX11_clausesOf_8 rfl 2 rfl ?_
  refine w_get C 0 10 (Nat.le_of_ble_eq_true rfl) rfl rfl inB_X11 (by decide) tw6_171 rfl dX11_clausesOf_9 rfl ?_
  refine w_iload_n C dX11_clausesOf_12 rfl 3 rfl ?_
  refine w_iald C 10 16 0 (Nat.le_of_ble_eq_true rfl) (fun _ => rfl) rfl h dX11_clausesOf_13 rfl (fun h => ?_)
  refine w_icmp_ge C (qt := 138) dX11_clausesOf_14 (by decide) rfl h (fun _ h => ?_) (fun _ h => ?_)
  · refine w_iload C dX11_clausesOf_138 rfl 1 rfl ?_
    exact w_ri1 hr h (by decide) dX11_clausesOf_140
  · refine w_bipush C 10 dX11_clausesOf_17 rfl (by decide) ?_
    refine w_iload_n C dX11_clausesOf_19 rfl 3 rfl ?_
    refine w_imul C dX11_clausesOf_20 rfl ?_
    refine w_iload C dX11_clausesOf_21 rfl 0 rfl ?_
    refine w_iadd C dX11_clausesOf_23 rfl ?_
    refine w_nm h (fun x4 h => ?_)
    refine w_istore C [(6, .int x4), (5, .int v1.1), (4, .int v1.2), (0, .ref (ad 0)), (1, .int a0), (2, .int a1), (3, .int a2)] dX11_clausesOf_24 rfl (by decide) rfl ?_
    refine w_iload_n C dX11_clausesOf_26 rfl 6 rfl ?_
    refine jn_w (fun v5 : Int32 => WP X (gM D cI cT ad) 8 0 115 σ [(5, .int v1.1), (4, .int v1.2), (0, .ref (ad 0)), (1, .int a0), (2, .int a1), (3, .int a2)] [.int v5]) h (fun v5 h => ?_) (fun J6 hJ7 h => ?_)
    · refine w_istore C [(7, .int v5), (5, .int v1.1), (4, .int v1.2), (0, .ref (ad 0)), (1, .int a0), (2, .int a1), (3, .int a2)] dX11_clausesOf_115 rfl (by decide) rfl ?_
      refine w_iload C dX11_clausesOf_117 rfl 2 rfl ?_
      refine w_iload C dX11_clausesOf_119 rfl 0 rfl ?_
      refine w_if_eq C (qt := 128) dX11_clausesOf_121 (by decide) rfl h (fun _ h => ?_) (fun _ h => ?_)
      · refine w_iconst C 0 dX11_clausesOf_128 rfl (by decide) ?_
        refine w_iadd C dX11_clausesOf_129 rfl ?_
        refine w_nm h (fun x8 h => ?_)
        refine w_istore C [(4, .int x8), (7, .int v5), (5, .int v1.1), (0, .ref (ad 0)), (1, .int a0), (2, .int a1), (3, .int a2)] dX11_clausesOf_130 rfl (by decide) rfl ?_
        refine w_iinc (j := 2) C (v1.1 + 1) [(5, .int (v1.1 + 1)), (4, .int x8), (7, .int v5), (0, .ref (ad 0)), (1, .int a0), (2, .int a1), (3, .int a2)] dX11_clausesOf_132 rfl rfl rfl (by decide) rfl ?_
        refine w_goto (q := 6) C dX11_clausesOf_135 (by decide) ?_
        exact w_sub (lv' := [(5, .int (v1.1 + 1)), (4, .int x8), (0, .ref (ad 0)), (1, .int a0), (2, .int a1), (3, .int a2)]) [0, 1, 3, 4, 5, 6] rfl (hK3 ((v1.1 + 1, x8)) h)
      · refine w_iconst C 1 dX11_clausesOf_124 rfl (by decide) ?_
        refine w_goto (q := 129) C dX11_clausesOf_125 (by decide) ?_
        refine w_iadd C dX11_clausesOf_129 rfl ?_
        refine w_nm h (fun x9 h => ?_)
        refine w_istore C [(4, .int x9), (7, .int v5), (5, .int v1.1), (0, .ref (ad 0)), (1, .int a0), (2, .int a1), (3, .int a2)] dX11_clausesOf_130 rfl (by decide) rfl ?_
        refine w_iinc (j := 2) C (v1.1 + 1) [(5, .int (v1.1 + 1)), (4, .int x9), (7, .int v5), (0, .ref (ad 0)), (1, .int a0), (2, .int a1), (3, .int a2)] dX11_clausesOf_132 rfl rfl rfl (by decide) rfl ?_
        refine w_goto (q := 6) C dX11_clausesOf_135 (by decide) ?_
        exact w_sub (lv' := [(5, .int (v1.1 + 1)), (4, .int x9), (0, .ref (ad 0)), (1, .int a0), (2, .int a1), (3, .int a2)]) [0, 1, 3, 4, 5, 6] rfl (hK3 ((v1.1 + 1, x9)) h)
    · refine w_if_ne C (qt := 41) dX11_clausesOf_27 (by decide) rfl h (fun _ h => ?_) (fun _ h => ?_)
      · refine w_iload_n C dX11_clausesOf_41 rfl 6 rfl ?_
        refine w_iconst C 1 dX11_clausesOf_42 rfl (by decide) ?_
        refine w_icmp_ne C (qt := 88) dX11_clausesOf_43 (by decide) rfl h (fun _ h => ?_) (fun _ h => ?_)
        · refine w_aload_n C dX11_clausesOf_88 rfl 3 rfl ?_
          refine w_get C 0 11 (Nat.le_of_ble_eq_true rfl) rfl rfl inB_X11 (by decide) tw6_172 rfl dX11_clausesOf_89 rfl ?_
          refine w_iload C dX11_clausesOf_92 rfl 0 rfl ?_
          refine w_iald C 11 160 0 (Nat.le_of_ble_eq_true rfl) (fun _ => rfl) rfl h dX11_clausesOf_94 rfl (fun h => ?_)
          refine w_iconst C 3 dX11_clausesOf_95 rfl (by decide) ?_
          refine jn_w (fun v10 : Unit => WP X (gM D cI cT ad) 8 0 114 σ [(5, .int v1.1), (4, .int v1.2), (0, .ref (ad 0)), (1, .int a0), (2, .int a1), (3, .int a2)] []) h (fun v10 h => ?_) (fun J11 hJ12 h => ?_)
          · refine w_iconst C 0 dX11_clausesOf_114 rfl (by decide) ?_
            exact w_sub (lv' := [(5, .int v1.1), (4, .int v1.2), (0, .ref (ad 0)), (1, .int a0), (2, .int a1), (3, .int a2)]) [0, 1, 2, 3, 4, 5] rfl (hJ7 0 h)
          · refine w_icmp_ne C (qt := 114) dX11_clausesOf_96 (by decide) rfl h (fun _ h => ?_) (fun _ h => ?_)
            · exact w_sub (lv' := [(5, .int v1.1), (4, .int v1.2), (0, .ref (ad 0)), (1, .int a0), (2, .int a1), (3, .int a2)]) [1, 2, 3, 4, 5, 6] rfl (hJ12 (()) h)
            · refine w_aload_n C dX11_clausesOf_99 rfl 3 rfl ?_
              refine w_iload_n C dX11_clausesOf_100 rfl 4 rfl ?_
              refine w_iload C dX11_clausesOf_101 rfl 1 rfl ?_
              refine w_iload_n C dX11_clausesOf_103 rfl 5 rfl ?_
              refine bd1_w h (fun r13 hc h => ?_)
              refine w_callVi C (n := 3) (As := [.int a0, .int v1.1, .int a1]) (st := []) 0 (Nat.le_of_ble_eq_true rfl) rfl rfl (cfX11_isOfHim D cI cT ad (l := X.2.1) C.2.2.1 hc) tw8_72 cy_X11_isOfHim (by decide +kernel) ⟨Nat.le_of_ble_eq_true rfl, Nat.le_of_ble_eq_true rfl⟩ (by decide) rfl rfl (Nat.le_of_ble_eq_true rfl) dX11_clausesOf_104 rfl ?_
              refine w_if_eq C (qt := 114) dX11_clausesOf_107 (by decide) rfl h (fun _ h => ?_) (fun _ h => ?_)
              · exact w_sub (lv' := [(5, .int v1.1), (4, .int v1.2), (0, .ref (ad 0)), (1, .int a0), (2, .int a1), (3, .int a2)]) [1, 2, 3, 4, 5, 6] rfl (hJ12 (()) h)
              · refine w_iconst C 1 dX11_clausesOf_110 rfl (by decide) ?_
                refine w_goto (q := 115) C dX11_clausesOf_111 (by decide) ?_
                exact w_sub (lv' := [(5, .int v1.1), (4, .int v1.2), (0, .ref (ad 0)), (1, .int a0), (2, .int a1), (3, .int a2)]) [1, 2, 3, 4, 5, 6] rfl (hJ7 1 h)
        · refine w_aload_n C dX11_clausesOf_46 rfl 3 rfl ?_
          refine w_iload_n C dX11_clausesOf_47 rfl 4 rfl ?_
          refine w_iload C dX11_clausesOf_48 rfl 1 rfl ?_
          refine bd1_w h (fun r14 hc h => ?_)
          refine w_callVi C (n := 2) (As := [.int a0, .int v1.1]) (st := []) 0 (Nat.le_of_ble_eq_true rfl) rfl rfl (cfX11_isClause D cI cT ad (l := X.2.1) C.2.2.1 hc) tw8_68 cy_X11_isClause (by decide +kernel) ⟨Nat.le_of_ble_eq_true rfl, Nat.le_of_ble_eq_true rfl⟩ (by decide) rfl rfl (Nat.le_of_ble_eq_true rfl) dX11_clausesOf_50 rfl ?_
          refine jn_w (fun v15 : Unit => WP X (gM D cI cT ad) 8 0 84 σ [(5, .int v1.1), (4, .int v1.2), (0, .ref (ad 0)), (1, .int a0), (2, .int a1), (3, .int a2)] []) h (fun v15 h => ?_) (fun J16 hJ17 h => ?_)
          · refine w_iconst C 0 dX11_clausesOf_84 rfl (by decide) ?_
            refine w_goto (q := 115) C dX11_clausesOf_85 (by decide) ?_
            exact w_sub (lv' := [(5, .int v1.1), (4, .int v1.2), (0, .ref (ad 0)), (1, .int a0), (2, .int a1), (3, .int a2)]) [0, 1, 2, 3, 4, 5] rfl (hJ7 0 h)
          · refine w_if_eq C (qt := 84) dX11_clausesOf_53 (by decide) rfl h (fun _ h => ?_) (fun _ h => ?_)
            · exact w_sub (lv' := [(5, .int v1.1), (4, .int v1.2), (0, .ref (ad 0)), (1, .int a0), (2, .int a1), (3, .int a2)]) [1, 2, 3, 4, 5, 6] rfl (hJ17 (()) h)
            · refine w_aload_n C dX11_clausesOf_56 rfl 3 rfl ?_
              refine w_get C 0 11 (Nat.le_of_ble_eq_true rfl) rfl rfl inB_X11 (by decide) tw6_172 rfl dX11_clausesOf_57 rfl ?_
              refine w_iload C dX11_clausesOf_60 rfl 0 rfl ?_
              refine w_iald C 11 160 0 (Nat.le_of_ble_eq_true rfl) (fun _ => rfl) rfl h dX11_clausesOf_62 rfl (fun h => ?_)
              refine w_iconst C 2 dX11_clausesOf_63 rfl (by decide) ?_
              refine w_icmp_ne C (qt := 84) dX11_clausesOf_64 (by decide) rfl h (fun _ h => ?_) (fun _ h => ?_)
              · exact w_sub (lv' := [(5, .int v1.1), (4, .int v1.2), (0, .ref (ad 0)), (1, .int a0), (2, .int a1), (3, .int a2)]) [1, 2, 3, 4, 5, 6] rfl (hJ17 (()) h)
              · refine w_aload_n C dX11_clausesOf_67 rfl 3 rfl ?_
                refine w_get C 0 12 (Nat.le_of_ble_eq_true rfl) rfl rfl inB_X11 (by decide) tw6_173 rfl dX11_clausesOf_68 rfl ?_
                refine w_iload C dX11_clausesOf_71 rfl 0 rfl ?_
                refine w_iald C 12 160 0 (Nat.le_of_ble_eq_true rfl) (fun _ => rfl) rfl h dX11_clausesOf_73 rfl (fun h => ?_)
                refine w_iconst C 1 dX11_clausesOf_74 rfl (by decide) ?_
                refine w_iload_n C dX11_clausesOf_75 rfl 5 rfl ?_
                refine w_isub C dX11_clausesOf_76 rfl ?_
                refine w_icmp_ne C (qt := 84) dX11_clausesOf_77 (by decide) rfl h (fun _ h => ?_) (fun _ h => ?_)
                · exact w_sub (lv' := [(5, .int v1.1), (4, .int v1.2), (0, .ref (ad 0)), (1, .int a0), (2, .int a1), (3, .int a2)]) [1, 2, 3, 4, 5, 6] rfl (hJ17 (()) h)
                · refine w_iconst C 1 dX11_clausesOf_80 rfl (by decide) ?_
                  refine w_goto (q := 115) C dX11_clausesOf_81 (by decide) ?_
                  exact w_sub (lv' := [(5, .int v1.1), (4, .int v1.2), (0, .ref (ad 0)), (1, .int a0), (2, .int a1), (3, .int a2)]) [1, 2, 3, 4, 5, 6] rfl (hJ7 1 h)
      · refine w_aload_n C dX11_clausesOf_30 rfl 3 rfl ?_
        refine w_iload_n C dX11_clausesOf_31 rfl 4 rfl ?_
        refine w_iload C dX11_clausesOf_32 rfl 1 rfl ?_
        refine w_iload_n C dX11_clausesOf_34 rfl 5 rfl ?_
        refine bd1_w h (fun r18 hc h => ?_)
        refine w_callVi C (n := 3) (As := [.int a0, .int v1.1, .int a1]) (st := []) 0 (Nat.le_of_ble_eq_true rfl) rfl rfl (cfX11_binds D cI cT ad (l := X.2.1) C.2.2.1 hc) tw8_64 cy_X11_binds (by decide +kernel) ⟨Nat.le_of_ble_eq_true rfl, Nat.le_of_ble_eq_true rfl⟩ (by decide) rfl rfl (Nat.le_of_ble_eq_true rfl) dX11_clausesOf_35 rfl ?_
        refine w_goto (q := 115) C dX11_clausesOf_38 (by decide) ?_
        exact w_sub (lv' := [(5, .int v1.1), (4, .int v1.2), (0, .ref (ad 0)), (1, .int a0), (2, .int a1), (3, .int a2)]) [1, 2, 3, 4, 5, 6] rfl (hJ7 r18 h)
theorem cfX11_clausesOf (D : va_G) (cI cT : ClassId) (ad : Nat → Nat) {l : Launch} (had : gAp (gM D cI cT ad)) {F : Nat} {σ : St} {a0 : Int32} {a1 : Int32} {a2 : Int32} {r : Int32} (h : fX11_clausesOf F σ a0 a1 a2 = some r) : MI l yX11_clausesOf (wB yX11_clausesOf cX11_clausesOf 8 (some .int)) 3 71 (gM D cI cT ad) [.ref (ad 0), .int a0, .int a1, .int a2] σ r σ := mk_MI had (by decide +kernel) (Nat.le_of_ble_eq_true rfl) (fun X hX C hr => wfX11_clausesOf C hr h)

def fX11_clauses (F : Nat) (σ : St) (a0 : Int32) (a1 : Int32) : Option (Int32 × St) := nm (up σ 0 4 0) fun u2 => bd1 (fX11_isValley F u2 a0) fun r3 => jn (fun v4 : Unit => bd2 (fX11_fail F u2 1) fun r7 u8 => some (r7, u8)) fun J5 => if r3 = 0 then (J5 (())) else bd1 (fX11_isIn F u2 (Int32.toInt64 a1) 0 2) fun r9 => if r9 = 0 then (J5 (())) else lp (fun (K11 : (St × Int32 × Int32) → Option (Int32 × St)) (v10 : St × Int32 × Int32) => if (v10.1 5 1) ≤ v10.2.1 then (some (v10.2.2, v10.1)) else bd1 (fX11_roleOf F v10.1 a0 v10.2.1) fun r13 => if r13 = (-1 : Int32) then (K11 ((v10.1, v10.2.1 + 1, v10.2.2))) else bd2 (fX11_isBinding F v10.1 v10.2.1) fun r14 u15 => if r14 = 0 then (K11 ((u15, v10.2.1 + 1, v10.2.2))) else bd1 (fX11_roleOf F u15 a0 v10.2.1) fun r16 => bd1 (fX11_clausesOf F u15 v10.2.1 r16 a1) fun r17 => nm (v10.2.2 + r17) fun x18 => K11 ((u15, v10.2.1 + 1, x18))) F ((u2, 0, 0))
set_option maxRecDepth 20000 in
theorem wfX11_clauses {X : XT} {D : va_G} {cI cT : ClassId} {ad : Nat → Nat} {F : Nat} {σ : St} {a0 : Int32} {a1 : Int32} {r : Int32} {σ' : St} (C : Cx X (gM D cI cT ad) cX11_clauses 5 RX11 6 140 0) (hr : RetI X (gM D cI cT ad) cX11_clauses 5 0 r σ') (h : fX11_clauses F σ a0 a1 = some (r, σ')) : WP X (gM D cI cT ad) 5 0 0 σ [(0, .ref (ad 0)), (1, .int a0), (2, .int a1)] [] := by
  unfold fX11_clauses at h
  refine w_aload_n C dX11_clauses_0 rfl 0 rfl ?_
  refine w_iconst C 0 dX11_clauses_1 rfl (by decide) ?_
  refine w_put C 0 4 0 (Nat.le_of_ble_eq_true rfl) rfl rfl inB_X11 tyX11_ok nmX11 (by decide) tw6_165 rfl rfl rfl (Nat.le_of_ble_eq_true rfl) rfl dX11_clauses_2 rfl ?_
  refine w_nst h (fun u2 h => ?_)
  refine w_aload_n C dX11_clauses_5 rfl 0 rfl ?_
  refine w_iload_n C dX11_clauses_6 rfl 1 rfl ?_
  refine bd1_w h (fun r3 hc h => ?_)
  refine w_callVi C (n := 1) (As := [.int a0]) (st := []) 0 (Nat.le_of_ble_eq_true rfl) rfl rfl (cfX11_isValley D cI cT ad (l := X.2.1) C.2.2.1 hc) tw8_95 cy_X11_isValley (by decide +kernel) ⟨Nat.le_of_ble_eq_true rfl, Nat.le_of_ble_eq_true rfl⟩ (by decide) rfl rfl (Nat.le_of_ble_eq_true rfl) dX11_clauses_7 rfl ?_
  refine jn_w (fun v4 : Unit => WP X (gM D cI cT ad) 5 0 25 u2 [(0, .ref (ad 0))] []) h (fun v4 h => ?_) (fun J5 hJ6 h => ?_)
  · refine w_aload_n C dX11_clauses_25 rfl 0 rfl ?_
    refine w_iconst C 1 dX11_clauses_26 rfl (by decide) ?_
    refine bd2_w h (fun r7 u8 hc h => ?_)
    refine w_callVi C (n := 1) (As := [.int 1]) (st := []) 0 (Nat.le_of_ble_eq_true rfl) rfl rfl (cfX11_fail D cI cT ad (l := X.2.1) C.2.2.1 hc) tw7_117 cy_X11_fail (by decide +kernel) ⟨Nat.le_of_ble_eq_true rfl, Nat.le_of_ble_eq_true rfl⟩ (by decide) rfl rfl (Nat.le_of_ble_eq_true rfl) dX11_clauses_27 rfl ?_
    exact w_ri2 hr h (by decide) dX11_clauses_30
  · refine w_if_eq C (qt := 25) dX11_clauses_10 (by decide) rfl h (fun _ h => ?_) (fun _ h => ?_)
    · exact w_sub (lv' := [(0, .ref (ad 0))]) [0] rfl (hJ6 (()) h)
    · refine w_iload_n C dX11_clauses_13 rfl 2 rfl ?_
      refine w_i2l C dX11_clauses_14 rfl ?_
      refine w_lconst C 0 dX11_clauses_15 rfl (by decide) ?_
      refine w_ldc2 C (2) dX11_clauses_16 rfl tw8_124 ?_
      refine bd1_w h (fun r9 hc h => ?_)
      refine w_callSi C (n := 3) (As := [.long (Int32.toInt64 a1), .long 0, .long 2]) (st := []) (cfX11_isIn D cI cT ad (l := X.2.1) C.2.2.1 hc) tw8_99 cs_X11_isIn (by decide +kernel) ⟨Nat.le_of_ble_eq_true rfl, Nat.le_of_ble_eq_true rfl⟩ (by decide) rfl rfl (Nat.le_of_ble_eq_true rfl) dX11_clauses_19 rfl ?_
      refine w_if_ne C (qt := 31) dX11_clauses_22 (by decide) rfl h (fun _ h => ?_) (fun _ h => ?_)
      · refine w_iconst C 0 dX11_clauses_31 rfl (by decide) ?_
        refine w_istore_n C [(3, .int 0), (0, .ref (ad 0)), (1, .int a0), (2, .int a1)] dX11_clauses_32 rfl (by decide) rfl ?_
        refine w_iconst C 0 dX11_clauses_33 rfl (by decide) ?_
        refine w_istore C [(4, .int 0), (3, .int 0), (0, .ref (ad 0)), (1, .int a0), (2, .int a1)] dX11_clauses_34 rfl (by decide) rfl ?_
        refine w_sub (lv' := [(4, .int 0), (3, .int 0), (0, .ref (ad 0)), (1, .int a0), (2, .int a1)]) [0, 1, 2, 3, 4] rfl ?_
        refine lp_w (fun v10 : St × Int32 × Int32 => WP X (gM D cI cT ad) 5 0 36 v10.1 [(4, .int v10.2.1), (3, .int v10.2.2), (0, .ref (ad 0)), (1, .int a0), (2, .int a1)] []) (fun K11 hK12 v10 h => ?_) F _ h
        refine w_iload C dX11_clauses_36 rfl 0 rfl ?_
        refine w_aload_n C dX11_clauses_38 rfl 2 rfl ?_
        refine w_get C 0 5 (Nat.le_of_ble_eq_true rfl) rfl rfl inB_X11 (by decide) tw6_166 rfl dX11_clauses_39 rfl ?_
        refine w_iconst C 1 dX11_clauses_42 rfl (by decide) ?_
        refine w_ialdc C 5 8 0 1 (Nat.le_of_ble_eq_true rfl) (fun _ => rfl) rfl (by decide) (by show ¬ (_ ∨ _); decide) dX11_clauses_43 rfl ?_
        refine w_icmp_ge C (qt := 90) dX11_clauses_44 (by decide) rfl h (fun _ h => ?_) (fun _ h => ?_)
        · refine w_iload_n C dX11_clauses_90 rfl 1 rfl ?_
          exact w_ri2 hr h (by decide) dX11_clauses_91
        · refine w_aload_n C dX11_clauses_47 rfl 2 rfl ?_
          refine w_iload_n C dX11_clauses_48 rfl 3 rfl ?_
          refine w_iload C dX11_clauses_49 rfl 0 rfl ?_
          refine bd1_w h (fun r13 hc h => ?_)
          refine w_callVi C (n := 2) (As := [.int a0, .int v10.2.1]) (st := []) 0 (Nat.le_of_ble_eq_true rfl) rfl rfl (cfX11_roleOf D cI cT ad (l := X.2.1) C.2.2.1 hc) tw8_60 cy_X11_roleOf (by decide +kernel) ⟨Nat.le_of_ble_eq_true rfl, Nat.le_of_ble_eq_true rfl⟩ (by decide) rfl rfl (Nat.le_of_ble_eq_true rfl) dX11_clauses_51 rfl ?_
          refine w_iconst C (-1) dX11_clauses_54 rfl (by decide) ?_
          refine w_icmp_eq C (qt := 84) dX11_clauses_55 (by decide) rfl h (fun _ h => ?_) (fun _ h => ?_)
          · refine w_iinc (j := 0) C (v10.2.1 + 1) [(4, .int (v10.2.1 + 1)), (3, .int v10.2.2), (0, .ref (ad 0)), (1, .int a0), (2, .int a1)] dX11_clauses_84 rfl rfl rfl (by decide) rfl ?_
            refine w_goto (q := 36) C dX11_clauses_87 (by decide) ?_
            exact w_sub (lv' := [(4, .int (v10.2.1 + 1)), (3, .int v10.2.2), (0, .ref (ad 0)), (1, .int a0), (2, .int a1)]) [0, 1, 2, 3, 4] rfl (hK12 ((v10.1, v10.2.1 + 1, v10.2.2)) h)
          · refine w_aload_n C dX11_clauses_58 rfl 2 rfl ?_
            refine w_iload C dX11_clauses_59 rfl 0 rfl ?_
            refine bd2_w h (fun r14 u15 hc h => ?_)
            refine w_callVi C (n := 1) (As := [.int v10.2.1]) (st := []) 0 (Nat.le_of_ble_eq_true rfl) rfl rfl (cfX11_isBinding D cI cT ad (l := X.2.1) C.2.2.1 hc) tw8_5 cy_X11_isBinding (by decide +kernel) ⟨Nat.le_of_ble_eq_true rfl, Nat.le_of_ble_eq_true rfl⟩ (by decide) rfl rfl (Nat.le_of_ble_eq_true rfl) dX11_clauses_61 rfl ?_
            refine w_if_eq C (qt := 84) dX11_clauses_64 (by decide) rfl h (fun _ h => ?_) (fun _ h => ?_)
            · refine w_iinc (j := 0) C (v10.2.1 + 1) [(4, .int (v10.2.1 + 1)), (3, .int v10.2.2), (0, .ref (ad 0)), (1, .int a0), (2, .int a1)] dX11_clauses_84 rfl rfl rfl (by decide) rfl ?_
              refine w_goto (q := 36) C dX11_clauses_87 (by decide) ?_
              exact w_sub (lv' := [(4, .int (v10.2.1 + 1)), (3, .int v10.2.2), (0, .ref (ad 0)), (1, .int a0), (2, .int a1)]) [0, 1, 2, 3, 4] rfl (hK12 ((u15, v10.2.1 + 1, v10.2.2)) h)
            · refine w_iload_n C dX11_clauses_67 rfl 1 rfl ?_
              refine w_aload_n C dX11_clauses_68 rfl 2 rfl ?_
              refine w_iload C dX11_clauses_69 rfl 0 rfl ?_
              refine w_aload_n C dX11_clauses_71 rfl 2 rfl ?_
              refine w_iload_n C dX11_clauses_72 rfl 3 rfl ?_
              refine w_iload C dX11_clauses_73 rfl 0 rfl ?_
              refine bd1_w h (fun r16 hc h => ?_)
              refine w_callVi C (n := 2) (As := [.int a0, .int v10.2.1]) (st := [.int v10.2.1, .ref (ad 0), .int v10.2.2]) 0 (Nat.le_of_ble_eq_true rfl) rfl rfl (cfX11_roleOf D cI cT ad (l := X.2.1) C.2.2.1 hc) tw8_60 cy_X11_roleOf (by decide +kernel) ⟨Nat.le_of_ble_eq_true rfl, Nat.le_of_ble_eq_true rfl⟩ (by decide) rfl rfl (Nat.le_of_ble_eq_true rfl) dX11_clauses_75 rfl ?_
              refine w_iload_n C dX11_clauses_78 rfl 4 rfl ?_
              refine bd1_w h (fun r17 hc h => ?_)
              refine w_callVi C (n := 3) (As := [.int v10.2.1, .int r16, .int a1]) (st := [.int v10.2.2]) 0 (Nat.le_of_ble_eq_true rfl) rfl rfl (cfX11_clausesOf D cI cT ad (l := X.2.1) C.2.2.1 hc) tw8_137 cy_X11_clausesOf (by decide +kernel) ⟨Nat.le_of_ble_eq_true rfl, Nat.le_of_ble_eq_true rfl⟩ (by decide) rfl rfl (Nat.le_of_ble_eq_true rfl) dX11_clauses_79 rfl ?_
              refine w_iadd C dX11_clauses_82 rfl ?_
              refine w_nm h (fun x18 h => ?_)
              refine w_istore_n C [(3, .int x18), (4, .int v10.2.1), (0, .ref (ad 0)), (1, .int a0), (2, .int a1)] dX11_clauses_83 rfl (by decide) rfl ?_
              refine w_iinc (j := 1) C (v10.2.1 + 1) [(4, .int (v10.2.1 + 1)), (3, .int x18), (0, .ref (ad 0)), (1, .int a0), (2, .int a1)] dX11_clauses_84 rfl rfl rfl (by decide) rfl ?_
              refine w_goto (q := 36) C dX11_clauses_87 (by decide) ?_
              exact w_sub (lv' := [(4, .int (v10.2.1 + 1)), (3, .int x18), (0, .ref (ad 0)), (1, .int a0), (2, .int a1)]) [0, 1, 2, 3, 4] rfl (hK12 ((u15, v10.2.1 + 1, x18)) h)
      · exact w_sub (lv' := [(0, .ref (ad 0))]) [0] rfl (hJ6 (()) h)
theorem cfX11_clauses (D : va_G) (cI cT : ClassId) (ad : Nat → Nat) {l : Launch} (had : gAp (gM D cI cT ad)) {F : Nat} {σ : St} {a0 : Int32} {a1 : Int32} {r : Int32} {σ' : St} (h : fX11_clauses F σ a0 a1 = some (r, σ')) : MI l yX11_clauses (wB yX11_clauses cX11_clauses 5 (some .int)) 6 140 (gM D cI cT ad) [.ref (ad 0), .int a0, .int a1] σ r σ' := mk_MI had (by decide +kernel) (Nat.le_of_ble_eq_true rfl) (fun X hX C hr => wfX11_clauses C hr h)

def fX11_done (F : Nat) (σ : St) (a0 : Int32) (a1 : Int32) (a2 : Int32) : Option (Int32 × St) := nm (up σ 0 4 0) fun u2 => bd1 (fX11_isValley F u2 a0) fun r3 => jn (fun v4 : Unit => bd2 (fX11_fail F u2 1) fun r7 u8 => some (r7, u8)) fun J5 => if r3 = 0 then (J5 (())) else bd1 (fX11_isAbout F u2 a1) fun r9 => if r9 = 0 then (J5 (())) else if a2 < 0 then (J5 (())) else if a2 ≤ (1 : Int32) then (ckI ((8 * a0) + a1) 48 (nm (u2 19 (Int32.toNatClampNeg ((8 * a0) + a1))) fun x10 => if a2 = 0 then (some (x10, u2)) else bd2 (fX11_binding F u2) fun r11 u12 => bd2 (fX11_hasStamped F u12 r11 a0 a1 x10) fun r13 u14 => if r13 = 0 then (some (0, u14)) else some (1, u14))) else J5 (())
set_option maxRecDepth 20000 in
theorem wfX11_done {X : XT} {D : va_G} {cI cT : ClassId} {ad : Nat → Nat} {F : Nat} {σ : St} {a0 : Int32} {a1 : Int32} {a2 : Int32} {r : Int32} {σ' : St} (C : Cx X (gM D cI cT ad) cX11_done 5 RX11 7 162 0) (hr : RetI X (gM D cI cT ad) cX11_done 5 0 r σ') (h : fX11_done F σ a0 a1 a2 = some (r, σ')) : WP X (gM D cI cT ad) 5 0 0 σ [(0, .ref (ad 0)), (1, .int a0), (2, .int a1), (3, .int a2)] [] := by
  unfold fX11_done at h
  refine w_aload_n C dX11_done_0 rfl 0 rfl ?_
  refine w_iconst C 0 dX11_done_1 rfl (by decide) ?_
  refine w_put C 0 4 0 (Nat.le_of_ble_eq_true rfl) rfl rfl inB_X11 tyX11_ok nmX11 (by decide) tw6_165 rfl rfl rfl (Nat.le_of_ble_eq_true rfl) rfl dX11_done_2 rfl ?_
  refine w_nst h (fun u2 h => ?_)
  refine w_aload_n C dX11_done_5 rfl 0 rfl ?_
  refine w_iload_n C dX11_done_6 rfl 1 rfl ?_
  refine bd1_w h (fun r3 hc h => ?_)
  refine w_callVi C (n := 1) (As := [.int a0]) (st := []) 0 (Nat.le_of_ble_eq_true rfl) rfl rfl (cfX11_isValley D cI cT ad (l := X.2.1) C.2.2.1 hc) tw8_95 cy_X11_isValley (by decide +kernel) ⟨Nat.le_of_ble_eq_true rfl, Nat.le_of_ble_eq_true rfl⟩ (by decide) rfl rfl (Nat.le_of_ble_eq_true rfl) dX11_done_7 rfl ?_
  refine jn_w (fun v4 : Unit => WP X (gM D cI cT ad) 5 0 29 u2 [(0, .ref (ad 0))] []) h (fun v4 h => ?_) (fun J5 hJ6 h => ?_)
  · refine w_aload_n C dX11_done_29 rfl 0 rfl ?_
    refine w_iconst C 1 dX11_done_30 rfl (by decide) ?_
    refine bd2_w h (fun r7 u8 hc h => ?_)
    refine w_callVi C (n := 1) (As := [.int 1]) (st := []) 0 (Nat.le_of_ble_eq_true rfl) rfl rfl (cfX11_fail D cI cT ad (l := X.2.1) C.2.2.1 hc) tw7_117 cy_X11_fail (by decide +kernel) ⟨Nat.le_of_ble_eq_true rfl, Nat.le_of_ble_eq_true rfl⟩ (by decide) rfl rfl (Nat.le_of_ble_eq_true rfl) dX11_done_31 rfl ?_
    exact w_ri2 hr h (by decide) dX11_done_34
  · refine w_if_eq C (qt := 29) dX11_done_10 (by decide) rfl h (fun _ h => ?_) (fun _ h => ?_)
    · exact w_sub (lv' := [(0, .ref (ad 0))]) [0] rfl (hJ6 (()) h)
    · refine w_iload_n C dX11_done_13 rfl 2 rfl ?_
      refine bd1_w h (fun r9 hc h => ?_)
      refine w_callSi C (n := 1) (As := [.int a1]) (st := []) (cfX11_isAbout D cI cT ad (l := X.2.1) C.2.2.1 hc) tw8_129 cs_X11_isAbout (by decide +kernel) ⟨Nat.le_of_ble_eq_true rfl, Nat.le_of_ble_eq_true rfl⟩ (by decide) rfl rfl (Nat.le_of_ble_eq_true rfl) dX11_done_14 rfl ?_
      refine w_if_eq C (qt := 29) dX11_done_17 (by decide) rfl h (fun _ h => ?_) (fun _ h => ?_)
      · exact w_sub (lv' := [(0, .ref (ad 0))]) [0] rfl (hJ6 (()) h)
      · refine w_iload_n C dX11_done_20 rfl 3 rfl ?_
        refine w_if_lt C (qt := 29) dX11_done_21 (by decide) rfl h (fun _ h => ?_) (fun _ h => ?_)
        · exact w_sub (lv' := [(0, .ref (ad 0))]) [0] rfl (hJ6 (()) h)
        · refine w_iload_n C dX11_done_24 rfl 3 rfl ?_
          refine w_iconst C 1 dX11_done_25 rfl (by decide) ?_
          refine w_icmp_le C (qt := 35) dX11_done_26 (by decide) rfl h (fun _ h => ?_) (fun _ h => ?_)
          · refine w_aload_n C dX11_done_35 rfl 0 rfl ?_
            refine w_get C 0 29 (Nat.le_of_ble_eq_true rfl) rfl rfl inB_X11 (by decide) tw6_190 rfl dX11_done_36 rfl ?_
            refine w_bipush C 8 dX11_done_39 rfl (by decide) ?_
            refine w_iload_n C dX11_done_41 rfl 1 rfl ?_
            refine w_imul C dX11_done_42 rfl ?_
            refine w_iload_n C dX11_done_43 rfl 2 rfl ?_
            refine w_iadd C dX11_done_44 rfl ?_
            refine w_iald C 19 48 0 (Nat.le_of_ble_eq_true rfl) (fun _ => rfl) rfl h dX11_done_45 rfl (fun h => ?_)
            refine w_nm h (fun x10 h => ?_)
            refine w_istore C [(4, .int x10), (0, .ref (ad 0)), (1, .int a0), (2, .int a1), (3, .int a2)] dX11_done_46 rfl (by decide) rfl ?_
            refine w_iload_n C dX11_done_48 rfl 4 rfl ?_
            refine w_if_ne C (qt := 57) dX11_done_49 (by decide) rfl h (fun _ h => ?_) (fun _ h => ?_)
            · refine w_aload_n C dX11_done_57 rfl 1 rfl ?_
              refine w_aload_n C dX11_done_58 rfl 1 rfl ?_
              refine bd2_w h (fun r11 u12 hc h => ?_)
              refine w_callVi C (n := 0) (As := []) (st := [.ref (ad 0)]) 0 (Nat.le_of_ble_eq_true rfl) rfl rfl (cfX11_binding D cI cT ad (l := X.2.1) C.2.2.1 hc) tw8_1 cy_X11_binding (by decide +kernel) ⟨Nat.le_of_ble_eq_true rfl, Nat.le_of_ble_eq_true rfl⟩ (by decide) rfl rfl (Nat.le_of_ble_eq_true rfl) dX11_done_59 rfl ?_
              refine w_iload_n C dX11_done_62 rfl 2 rfl ?_
              refine w_iload_n C dX11_done_63 rfl 3 rfl ?_
              refine w_iload C dX11_done_64 rfl 0 rfl ?_
              refine bd2_w h (fun r13 u14 hc h => ?_)
              refine w_callVi C (n := 4) (As := [.int r11, .int a0, .int a1, .int x10]) (st := []) 0 (Nat.le_of_ble_eq_true rfl) rfl rfl (cfX11_hasStamped D cI cT ad (l := X.2.1) C.2.2.1 hc) tw8_48 cy_X11_hasStamped (by decide +kernel) ⟨Nat.le_of_ble_eq_true rfl, Nat.le_of_ble_eq_true rfl⟩ (by decide) rfl rfl (Nat.le_of_ble_eq_true rfl) dX11_done_66 rfl ?_
              refine w_if_eq C (qt := 76) dX11_done_69 (by decide) rfl h (fun _ h => ?_) (fun _ h => ?_)
              · refine w_iconst C 0 dX11_done_76 rfl (by decide) ?_
                exact w_ri2 hr h (by decide) dX11_done_77
              · refine w_iconst C 1 dX11_done_72 rfl (by decide) ?_
                refine w_goto (q := 77) C dX11_done_73 (by decide) ?_
                exact w_ri2 hr h (by decide) dX11_done_77
            · refine w_iload C dX11_done_52 rfl 0 rfl ?_
              refine w_goto (q := 77) C dX11_done_54 (by decide) ?_
              exact w_ri2 hr h (by decide) dX11_done_77
          · exact w_sub (lv' := [(0, .ref (ad 0))]) [0] rfl (hJ6 (()) h)
theorem cfX11_done (D : va_G) (cI cT : ClassId) (ad : Nat → Nat) {l : Launch} (had : gAp (gM D cI cT ad)) {F : Nat} {σ : St} {a0 : Int32} {a1 : Int32} {a2 : Int32} {r : Int32} {σ' : St} (h : fX11_done F σ a0 a1 a2 = some (r, σ')) : MI l yX11_done (wB yX11_done cX11_done 5 (some .int)) 7 162 (gM D cI cT ad) [.ref (ad 0), .int a0, .int a1, .int a2] σ r σ' := mk_MI had (by decide +kernel) (Nat.le_of_ble_eq_true rfl) (fun X hX C hr => wfX11_done C hr h)

def fX11_refuse (F : Nat) (σ : St) (a0 : Int32) : Option (Int32 × St) := ckI (a0) 3 (ckI (a0) 3 (nm (up σ 16 (Int32.toNatClampNeg a0) ((σ 16 (Int32.toNatClampNeg a0)) + 1)) fun u1 => some ((-1), u1)))
set_option maxRecDepth 20000 in
theorem wfX11_refuse {X : XT} {D : va_G} {cI cT : ClassId} {ad : Nat → Nat} {F : Nat} {σ : St} {a0 : Int32} {r : Int32} {σ' : St} (C : Cx X (gM D cI cT ad) cX11_refuse 2 RX11 0 0 0) (hr : RetI X (gM D cI cT ad) cX11_refuse 2 0 r σ') (h : fX11_refuse F σ a0 = some (r, σ')) : WP X (gM D cI cT ad) 2 0 0 σ [(0, .ref (ad 0)), (1, .int a0)] [] := by
  unfold fX11_refuse at h
  refine w_aload_n C dX11_refuse_0 rfl 0 rfl ?_
  refine w_get C 0 16 (Nat.le_of_ble_eq_true rfl) rfl rfl inB_X11 (by decide) tw6_177 rfl dX11_refuse_1 rfl ?_
  refine w_iload_n C dX11_refuse_4 rfl 1 rfl ?_
  refine w_dup2 C rfl rfl dX11_refuse_5 rfl ?_
  refine w_iald C 16 3 0 (Nat.le_of_ble_eq_true rfl) (fun _ => rfl) rfl h dX11_refuse_6 rfl (fun h => ?_)
  refine w_iconst C 1 dX11_refuse_7 rfl (by decide) ?_
  refine w_iadd C dX11_refuse_8 rfl ?_
  refine w_iast C 16 3 0 (Nat.le_of_ble_eq_true rfl) (fun _ => rfl) rfl h dX11_refuse_9 rfl (fun h => ?_)
  refine w_nst h (fun u1 h => ?_)
  refine w_iconst C (-1) dX11_refuse_10 rfl (by decide) ?_
  exact w_ri2 hr h (by decide) dX11_refuse_11
theorem cfX11_refuse (D : va_G) (cI cT : ClassId) (ad : Nat → Nat) {l : Launch} (had : gAp (gM D cI cT ad)) {F : Nat} {σ : St} {a0 : Int32} {r : Int32} {σ' : St} (h : fX11_refuse F σ a0 = some (r, σ')) : MI l yX11_refuse (wB yX11_refuse cX11_refuse 2 (some .int)) 0 0 (gM D cI cT ad) [.ref (ad 0), .int a0] σ r σ' := mk_MI had (by decide +kernel) (Nat.le_of_ble_eq_true rfl) (fun X hX C hr => wfX11_refuse C hr h)

def fX11_pack (F : Nat) (σ : St) (a1 : Int32) : Option St := ckI (a1) 5520 (nm (up σ 20 (Int32.toNatClampNeg a1) (σ 0 31)) fun u1 => ckI (a1 + 1) 5520 (nm (up u1 20 (Int32.toNatClampNeg (a1 + 1)) (u1 0 32)) fun u2 => nm (a1 + 2) fun x3 => lp (fun (K5 : (St × Int32) → Option St) (v4 : St × Int32) => if (8 : Int32) ≤ v4.2 then (lp (fun (K8 : (St × Int32) → Option St) (v7 : St × Int32) => if (80 : Int32) ≤ v7.2 then (lp (fun (K11 : (St × Int32) → Option St) (v10 : St × Int32) => if (48 : Int32) ≤ v10.2 then (some v10.1) else ckI (v10.2) 48 (ckI (((x3 + 8) + 80) + v10.2) 5520 (nm (up v10.1 20 (Int32.toNatClampNeg (((x3 + 8) + 80) + v10.2)) (v10.1 19 (Int32.toNatClampNeg v10.2))) fun u13 => K11 ((u13, v10.2 + 1))))) F ((v7.1, 0))) else ckI (v7.2) 160 (ckI ((x3 + 8) + v7.2) 5520 (nm (up v7.1 20 (Int32.toNatClampNeg ((x3 + 8) + v7.2)) (v7.1 13 (Int32.toNatClampNeg v7.2))) fun u14 => K8 ((u14, v7.2 + 1))))) F ((v4.1, 0))) else ckI (v4.2) 8 (ckI (x3 + v4.2) 5520 (nm (up v4.1 20 (Int32.toNatClampNeg (x3 + v4.2)) (v4.1 18 (Int32.toNatClampNeg v4.2))) fun u15 => K5 ((u15, v4.2 + 1))))) F ((u2, 0))))
set_option maxRecDepth 20000 in
theorem wfX11_pack {X : XT} {D : va_G} {cI cT : ClassId} {ad : Nat → Nat} {F : Nat} {σ : St} {a1 : Int32} {σ' : St} (C : Cx X (gM D cI cT ad) cX11_pack 5 RX11 0 0 0) (hr : RetV X (gM D cI cT ad) cX11_pack 5 0 σ') (h : fX11_pack F σ a1 = some σ') : WP X (gM D cI cT ad) 5 0 0 σ [(0, .ref (ad 0)), (1, .ref (ad 20)), (2, .int a1)] [] := by
  unfold fX11_pack at h
  refine w_aload_n C dX11_pack_0 rfl 1 rfl ?_
  refine w_iload_n C dX11_pack_1 rfl 2 rfl ?_
  refine w_aload_n C dX11_pack_2 rfl 0 rfl ?_
  refine w_get C 0 31 (Nat.le_of_ble_eq_true rfl) rfl rfl inB_X11 (by decide) tw6_192 rfl dX11_pack_3 rfl ?_
  refine w_iast C 20 5520 0 (Nat.le_of_ble_eq_true rfl) (fun _ => rfl) rfl h dX11_pack_6 rfl (fun h => ?_)
  refine w_nst h (fun u1 h => ?_)
  refine w_aload_n C dX11_pack_7 rfl 1 rfl ?_
  refine w_iload_n C dX11_pack_8 rfl 2 rfl ?_
  refine w_iconst C 1 dX11_pack_9 rfl (by decide) ?_
  refine w_iadd C dX11_pack_10 rfl ?_
  refine w_aload_n C dX11_pack_11 rfl 0 rfl ?_
  refine w_get C 0 32 (Nat.le_of_ble_eq_true rfl) rfl rfl inB_X11 (by decide) tw6_193 rfl dX11_pack_12 rfl ?_
  refine w_iast C 20 5520 0 (Nat.le_of_ble_eq_true rfl) (fun _ => rfl) rfl h dX11_pack_15 rfl (fun h => ?_)
  refine w_nst h (fun u2 h => ?_)
  refine w_iload_n C dX11_pack_16 rfl 2 rfl ?_
  refine w_iconst C 2 dX11_pack_17 rfl (by decide) ?_
  refine w_iadd C dX11_pack_18 rfl ?_
  refine w_nm h (fun x3 h => ?_)
  refine w_istore_n C [(3, .int x3), (0, .ref (ad 0)), (1, .ref (ad 20)), (2, .int a1)] dX11_pack_19 rfl (by decide) rfl ?_
  refine w_iconst C 0 dX11_pack_20 rfl (by decide) ?_
  refine w_istore C [(4, .int 0), (3, .int x3), (0, .ref (ad 0)), (1, .ref (ad 20)), (2, .int a1)] dX11_pack_21 rfl (by decide) rfl ?_
  refine w_sub (lv' := [(4, .int 0), (3, .int x3), (0, .ref (ad 0)), (1, .ref (ad 20))]) [0, 1, 2, 3] rfl ?_
  refine lp_w (fun v4 : St × Int32 => WP X (gM D cI cT ad) 5 0 23 v4.1 [(4, .int v4.2), (3, .int x3), (0, .ref (ad 0)), (1, .ref (ad 20))] []) (fun K5 hK6 v4 h => ?_) F _ h
  refine w_iload C dX11_pack_23 rfl 0 rfl ?_
  refine w_bipush C 8 dX11_pack_25 rfl (by decide) ?_
  refine w_icmp_ge C (qt := 49) dX11_pack_27 (by decide) rfl h (fun _ h => ?_) (fun _ h => ?_)
  · refine w_iinc (j := 1) C (x3 + 8) [(3, .int (x3 + 8)), (4, .int v4.2), (0, .ref (ad 0)), (1, .ref (ad 20))] dX11_pack_49 rfl rfl rfl (by decide) rfl ?_
    refine w_iconst C 0 dX11_pack_52 rfl (by decide) ?_
    refine w_istore C [(4, .int 0), (3, .int (x3 + 8)), (0, .ref (ad 0)), (1, .ref (ad 20))] dX11_pack_53 rfl (by decide) rfl ?_
    refine w_sub (lv' := [(4, .int 0), (3, .int (x3 + 8)), (0, .ref (ad 0)), (1, .ref (ad 20))]) [0, 1, 2, 3] rfl ?_
    refine lp_w (fun v7 : St × Int32 => WP X (gM D cI cT ad) 5 0 55 v7.1 [(4, .int v7.2), (3, .int (x3 + 8)), (0, .ref (ad 0)), (1, .ref (ad 20))] []) (fun K8 hK9 v7 h => ?_) F _ h
    refine w_iload C dX11_pack_55 rfl 0 rfl ?_
    refine w_bipush C 80 dX11_pack_57 rfl (by decide) ?_
    refine w_icmp_ge C (qt := 81) dX11_pack_59 (by decide) rfl h (fun _ h => ?_) (fun _ h => ?_)
    · refine w_iinc (j := 1) C ((x3 + 8) + 80) [(3, .int ((x3 + 8) + 80)), (4, .int v7.2), (0, .ref (ad 0)), (1, .ref (ad 20))] dX11_pack_81 rfl rfl rfl (by decide) rfl ?_
      refine w_iconst C 0 dX11_pack_84 rfl (by decide) ?_
      refine w_istore C [(4, .int 0), (3, .int ((x3 + 8) + 80)), (0, .ref (ad 0)), (1, .ref (ad 20))] dX11_pack_85 rfl (by decide) rfl ?_
      refine w_sub (lv' := [(4, .int 0), (3, .int ((x3 + 8) + 80)), (0, .ref (ad 0)), (1, .ref (ad 20))]) [0, 1, 2, 3] rfl ?_
      refine lp_w (fun v10 : St × Int32 => WP X (gM D cI cT ad) 5 0 87 v10.1 [(4, .int v10.2), (3, .int ((x3 + 8) + 80)), (0, .ref (ad 0)), (1, .ref (ad 20))] []) (fun K11 hK12 v10 h => ?_) F _ h
      refine w_iload C dX11_pack_87 rfl 0 rfl ?_
      refine w_bipush C 48 dX11_pack_89 rfl (by decide) ?_
      refine w_icmp_ge C (qt := 113) dX11_pack_91 (by decide) rfl h (fun _ h => ?_) (fun _ h => ?_)
      · exact w_rv hr h (by decide) dX11_pack_113
      · refine w_aload_n C dX11_pack_94 rfl 3 rfl ?_
        refine w_iload_n C dX11_pack_95 rfl 1 rfl ?_
        refine w_iload C dX11_pack_96 rfl 0 rfl ?_
        refine w_iadd C dX11_pack_98 rfl ?_
        refine w_aload_n C dX11_pack_99 rfl 2 rfl ?_
        refine w_get C 0 29 (Nat.le_of_ble_eq_true rfl) rfl rfl inB_X11 (by decide) tw6_190 rfl dX11_pack_100 rfl ?_
        refine w_iload C dX11_pack_103 rfl 0 rfl ?_
        refine w_iald C 19 48 0 (Nat.le_of_ble_eq_true rfl) (fun _ => rfl) rfl h dX11_pack_105 rfl (fun h => ?_)
        refine w_iast C 20 5520 0 (Nat.le_of_ble_eq_true rfl) (fun _ => rfl) rfl h dX11_pack_106 rfl (fun h => ?_)
        refine w_nst h (fun u13 h => ?_)
        refine w_iinc (j := 0) C (v10.2 + 1) [(4, .int (v10.2 + 1)), (3, .int ((x3 + 8) + 80)), (0, .ref (ad 0)), (1, .ref (ad 20))] dX11_pack_107 rfl rfl rfl (by decide) rfl ?_
        refine w_goto (q := 87) C dX11_pack_110 (by decide) ?_
        exact w_sub (lv' := [(4, .int (v10.2 + 1)), (3, .int ((x3 + 8) + 80)), (0, .ref (ad 0)), (1, .ref (ad 20))]) [0, 1, 2, 3] rfl (hK12 ((u13, v10.2 + 1)) h)
    · refine w_aload_n C dX11_pack_62 rfl 3 rfl ?_
      refine w_iload_n C dX11_pack_63 rfl 1 rfl ?_
      refine w_iload C dX11_pack_64 rfl 0 rfl ?_
      refine w_iadd C dX11_pack_66 rfl ?_
      refine w_aload_n C dX11_pack_67 rfl 2 rfl ?_
      refine w_get C 0 13 (Nat.le_of_ble_eq_true rfl) rfl rfl inB_X11 (by decide) tw6_174 rfl dX11_pack_68 rfl ?_
      refine w_iload C dX11_pack_71 rfl 0 rfl ?_
      refine w_iald C 13 160 0 (Nat.le_of_ble_eq_true rfl) (fun _ => rfl) rfl h dX11_pack_73 rfl (fun h => ?_)
      refine w_iast C 20 5520 0 (Nat.le_of_ble_eq_true rfl) (fun _ => rfl) rfl h dX11_pack_74 rfl (fun h => ?_)
      refine w_nst h (fun u14 h => ?_)
      refine w_iinc (j := 0) C (v7.2 + 1) [(4, .int (v7.2 + 1)), (3, .int (x3 + 8)), (0, .ref (ad 0)), (1, .ref (ad 20))] dX11_pack_75 rfl rfl rfl (by decide) rfl ?_
      refine w_goto (q := 55) C dX11_pack_78 (by decide) ?_
      exact w_sub (lv' := [(4, .int (v7.2 + 1)), (3, .int (x3 + 8)), (0, .ref (ad 0)), (1, .ref (ad 20))]) [0, 1, 2, 3] rfl (hK9 ((u14, v7.2 + 1)) h)
  · refine w_aload_n C dX11_pack_30 rfl 3 rfl ?_
    refine w_iload_n C dX11_pack_31 rfl 1 rfl ?_
    refine w_iload C dX11_pack_32 rfl 0 rfl ?_
    refine w_iadd C dX11_pack_34 rfl ?_
    refine w_aload_n C dX11_pack_35 rfl 2 rfl ?_
    refine w_get C 0 28 (Nat.le_of_ble_eq_true rfl) rfl rfl inB_X11 (by decide) tw6_189 rfl dX11_pack_36 rfl ?_
    refine w_iload C dX11_pack_39 rfl 0 rfl ?_
    refine w_iald C 18 8 0 (Nat.le_of_ble_eq_true rfl) (fun _ => rfl) rfl h dX11_pack_41 rfl (fun h => ?_)
    refine w_iast C 20 5520 0 (Nat.le_of_ble_eq_true rfl) (fun _ => rfl) rfl h dX11_pack_42 rfl (fun h => ?_)
    refine w_nst h (fun u15 h => ?_)
    refine w_iinc (j := 0) C (v4.2 + 1) [(4, .int (v4.2 + 1)), (3, .int x3), (0, .ref (ad 0)), (1, .ref (ad 20))] dX11_pack_43 rfl rfl rfl (by decide) rfl ?_
    refine w_goto (q := 23) C dX11_pack_46 (by decide) ?_
    exact w_sub (lv' := [(4, .int (v4.2 + 1)), (3, .int x3), (0, .ref (ad 0)), (1, .ref (ad 20))]) [0, 1, 2, 3] rfl (hK6 ((u15, v4.2 + 1)) h)
theorem cfX11_pack (D : va_G) (cI cT : ClassId) (ad : Nat → Nat) {l : Launch} (had : gAp (gM D cI cT ad)) {F : Nat} {σ : St} {a1 : Int32} {σ' : St} (h : fX11_pack F σ a1 = some σ') : MV l yX11_pack (wB yX11_pack cX11_pack 5 none) 0 0 (gM D cI cT ad) [.ref (ad 0), .ref (ad 20), .int a1] σ σ' := mk_MV had (by decide +kernel) (Nat.le_of_ble_eq_true rfl) (fun X hX C hr => wfX11_pack C hr h)

def fX11_keep (F : Nat) (σ : St) : Option St := jn (fun v1 : St => bd1 (fX11_pack F v1 (138 * (v1 0 33))) fun u4 => nm (up u4 0 33 ((u4 0 33) + 1)) fun u6 => some u6) fun J2 => if (σ 0 33) = (40 : Int32) then (lp (fun (K8 : (St × Int32) → Option St) (v7 : St × Int32) => if (5520 : Int32) ≤ v7.2 then (nm (up v7.1 0 33 ((v7.1 0 33) - 1)) fun u11 => J2 u11) else ckI (v7.2) 5520 (ckI (v7.2 - 138) 5520 (nm (up v7.1 20 (Int32.toNatClampNeg (v7.2 - 138)) (v7.1 20 (Int32.toNatClampNeg v7.2))) fun u12 => K8 ((u12, v7.2 + 1))))) F ((σ, 138))) else J2 σ
set_option maxRecDepth 20000 in
theorem wfX11_keep {X : XT} {D : va_G} {cI cT : ClassId} {ad : Nat → Nat} {F : Nat} {σ : St}  {σ' : St} (C : Cx X (gM D cI cT ad) cX11_keep 2 RX11 1 24 0) (hr : RetV X (gM D cI cT ad) cX11_keep 2 0 σ') (h : fX11_keep F σ = some σ') : WP X (gM D cI cT ad) 2 0 0 σ [(0, .ref (ad 0))] [] := by
  unfold fX11_keep at h
  refine w_aload_n C dX11_keep_0 rfl 0 rfl ?_
  refine w_get C 0 33 (Nat.le_of_ble_eq_true rfl) rfl rfl inB_X11 (by decide) tw6_194 rfl dX11_keep_1 rfl ?_
  refine w_bipush C 40 dX11_keep_4 rfl (by decide) ?_
  refine jn_w (fun v1 : St => WP X (gM D cI cT ad) 2 0 54 v1 [(0, .ref (ad 0))] []) h (fun v1 h => ?_) (fun J2 hJ3 h => ?_)
  · refine w_aload_n C dX11_keep_54 rfl 0 rfl ?_
    refine w_aload_n C dX11_keep_55 rfl 0 rfl ?_
    refine w_get C 0 30 (Nat.le_of_ble_eq_true rfl) rfl rfl inB_X11 (by decide) tw6_191 rfl dX11_keep_56 rfl ?_
    refine w_sipush C 138 dX11_keep_59 rfl (by decide) ?_
    refine w_aload_n C dX11_keep_62 rfl 0 rfl ?_
    refine w_get C 0 33 (Nat.le_of_ble_eq_true rfl) rfl rfl inB_X11 (by decide) tw6_194 rfl dX11_keep_63 rfl ?_
    refine w_imul C dX11_keep_66 rfl ?_
    refine bd1_w h (fun u4 hc h => ?_)
    refine w_callVv C (n := 2) (As := [.ref (ad 20), .int (138 * (v1 0 33))]) (st := []) 0 (Nat.le_of_ble_eq_true rfl) rfl rfl (cfX11_pack D cI cT ad (l := X.2.1) C.2.2.1 hc) tw8_158 cy_X11_pack (by decide +kernel) ⟨Nat.le_of_ble_eq_true rfl, Nat.le_of_ble_eq_true rfl⟩ (by decide) rfl rfl (Nat.le_of_ble_eq_true rfl) dX11_keep_67 rfl ?_
    refine w_aload_n C dX11_keep_70 rfl 0 rfl ?_
    refine w_dup C rfl dX11_keep_71 rfl ?_
    refine w_get C 0 33 (Nat.le_of_ble_eq_true rfl) rfl rfl inB_X11 (by decide) tw6_194 rfl dX11_keep_72 rfl ?_
    refine w_iconst C 1 dX11_keep_75 rfl (by decide) ?_
    refine w_iadd C dX11_keep_76 rfl ?_
    refine w_put C 0 33 ((u4 0 33) + 1) (Nat.le_of_ble_eq_true rfl) rfl rfl inB_X11 tyX11_ok nmX11 (by decide) tw6_194 rfl rfl rfl (Nat.le_of_ble_eq_true rfl) rfl dX11_keep_77 rfl ?_
    refine w_nst h (fun u6 h => ?_)
    exact w_rv hr h (by decide) dX11_keep_80
  · refine w_icmp_ne C (qt := 54) dX11_keep_6 (by decide) rfl h (fun _ h => ?_) (fun _ h => ?_)
    · exact w_sub (lv' := [(0, .ref (ad 0))]) [0] rfl (hJ3 σ h)
    · refine w_sipush C 138 dX11_keep_9 rfl (by decide) ?_
      refine w_istore_n C [(1, .int 138), (0, .ref (ad 0))] dX11_keep_12 rfl (by decide) rfl ?_
      refine w_sub (lv' := [(1, .int 138), (0, .ref (ad 0))]) [0, 1] rfl ?_
      refine lp_w (fun v7 : St × Int32 => WP X (gM D cI cT ad) 2 0 13 v7.1 [(1, .int v7.2), (0, .ref (ad 0))] []) (fun K8 hK9 v7 h => ?_) F _ h
      refine w_iload_n C dX11_keep_13 rfl 0 rfl ?_
      refine w_aload_n C dX11_keep_14 rfl 1 rfl ?_
      refine w_get C 0 30 (Nat.le_of_ble_eq_true rfl) rfl rfl inB_X11 (by decide) tw6_191 rfl dX11_keep_15 rfl ?_
      refine w_alen C 20 5520 0 5520 (Nat.le_of_ble_eq_true rfl) (fun _ => rfl) rfl (by decide) dX11_keep_18 rfl ?_
      refine w_icmp_ge C (qt := 44) dX11_keep_19 (by decide) rfl h (fun _ h => ?_) (fun _ h => ?_)
      · refine w_aload_n C dX11_keep_44 rfl 1 rfl ?_
        refine w_dup C rfl dX11_keep_45 rfl ?_
        refine w_get C 0 33 (Nat.le_of_ble_eq_true rfl) rfl rfl inB_X11 (by decide) tw6_194 rfl dX11_keep_46 rfl ?_
        refine w_iconst C 1 dX11_keep_49 rfl (by decide) ?_
        refine w_isub C dX11_keep_50 rfl ?_
        refine w_put C 0 33 ((v7.1 0 33) - 1) (Nat.le_of_ble_eq_true rfl) rfl rfl inB_X11 tyX11_ok nmX11 (by decide) tw6_194 rfl rfl rfl (Nat.le_of_ble_eq_true rfl) rfl dX11_keep_51 rfl ?_
        refine w_nst h (fun u11 h => ?_)
        exact w_sub (lv' := [(0, .ref (ad 0))]) [1] rfl (hJ3 u11 h)
      · refine w_aload_n C dX11_keep_22 rfl 1 rfl ?_
        refine w_get C 0 30 (Nat.le_of_ble_eq_true rfl) rfl rfl inB_X11 (by decide) tw6_191 rfl dX11_keep_23 rfl ?_
        refine w_iload_n C dX11_keep_26 rfl 0 rfl ?_
        refine w_sipush C 138 dX11_keep_27 rfl (by decide) ?_
        refine w_isub C dX11_keep_30 rfl ?_
        refine w_aload_n C dX11_keep_31 rfl 1 rfl ?_
        refine w_get C 0 30 (Nat.le_of_ble_eq_true rfl) rfl rfl inB_X11 (by decide) tw6_191 rfl dX11_keep_32 rfl ?_
        refine w_iload_n C dX11_keep_35 rfl 0 rfl ?_
        refine w_iald C 20 5520 0 (Nat.le_of_ble_eq_true rfl) (fun _ => rfl) rfl h dX11_keep_36 rfl (fun h => ?_)
        refine w_iast C 20 5520 0 (Nat.le_of_ble_eq_true rfl) (fun _ => rfl) rfl h dX11_keep_37 rfl (fun h => ?_)
        refine w_nst h (fun u12 h => ?_)
        refine w_iinc (j := 0) C (v7.2 + 1) [(1, .int (v7.2 + 1)), (0, .ref (ad 0))] dX11_keep_38 rfl rfl rfl (by decide) rfl ?_
        refine w_goto (q := 13) C dX11_keep_41 (by decide) ?_
        exact w_sub (lv' := [(1, .int (v7.2 + 1)), (0, .ref (ad 0))]) [0, 1] rfl (hK9 ((u12, v7.2 + 1)) h)
theorem cfX11_keep (D : va_G) (cI cT : ClassId) (ad : Nat → Nat) {l : Launch} (had : gAp (gM D cI cT ad)) {F : Nat} {σ : St}  {σ' : St} (h : fX11_keep F σ = some σ') : MV l yX11_keep (wB yX11_keep cX11_keep 2 none) 1 24 (gM D cI cT ad) [.ref (ad 0)] σ σ' := mk_MV had (by decide +kernel) (Nat.le_of_ble_eq_true rfl) (fun X hX C hr => wfX11_keep C hr h)

def fX11_years (F : Nat) (σ : St) (a0 : Int32) : Option (Int32 × St) := nm (up σ 0 4 0) fun u2 => bd1 (fX11_isIn F u2 (Int32.toInt64 a0) 1 50) fun r3 => jn (fun v4 : Unit => bd2 (fX11_refuse F u2 1) fun r7 u8 => some (r7, u8)) fun J5 => if r3 = 0 then (J5 (())) else if ((u2 0 31) + a0) ≤ (999 : Int32) then (bd1 (fX11_keep F u2) fun u9 => nm (up u9 0 31 ((u9 0 31) + a0)) fun u11 => some (u11 0 31, u11)) else J5 (())
set_option maxRecDepth 20000 in
theorem wfX11_years {X : XT} {D : va_G} {cI cT : ClassId} {ad : Nat → Nat} {F : Nat} {σ : St} {a0 : Int32} {r : Int32} {σ' : St} (C : Cx X (gM D cI cT ad) cX11_years 2 RX11 2 45 0) (hr : RetI X (gM D cI cT ad) cX11_years 2 0 r σ') (h : fX11_years F σ a0 = some (r, σ')) : WP X (gM D cI cT ad) 2 0 0 σ [(0, .ref (ad 0)), (1, .int a0)] [] := by
  unfold fX11_years at h
  refine w_aload_n C dX11_years_0 rfl 0 rfl ?_
  refine w_iconst C 0 dX11_years_1 rfl (by decide) ?_
  refine w_put C 0 4 0 (Nat.le_of_ble_eq_true rfl) rfl rfl inB_X11 tyX11_ok nmX11 (by decide) tw6_165 rfl rfl rfl (Nat.le_of_ble_eq_true rfl) rfl dX11_years_2 rfl ?_
  refine w_nst h (fun u2 h => ?_)
  refine w_iload_n C dX11_years_5 rfl 1 rfl ?_
  refine w_i2l C dX11_years_6 rfl ?_
  refine w_lconst C 1 dX11_years_7 rfl (by decide) ?_
  refine w_ldc2 C (50) dX11_years_8 rfl tw8_149 ?_
  refine bd1_w h (fun r3 hc h => ?_)
  refine w_callSi C (n := 3) (As := [.long (Int32.toInt64 a0), .long 1, .long 50]) (st := []) (cfX11_isIn D cI cT ad (l := X.2.1) C.2.2.1 hc) tw8_99 cs_X11_isIn (by decide +kernel) ⟨Nat.le_of_ble_eq_true rfl, Nat.le_of_ble_eq_true rfl⟩ (by decide) rfl rfl (Nat.le_of_ble_eq_true rfl) dX11_years_11 rfl ?_
  refine jn_w (fun v4 : Unit => WP X (gM D cI cT ad) 2 0 29 u2 [(0, .ref (ad 0))] []) h (fun v4 h => ?_) (fun J5 hJ6 h => ?_)
  · refine w_aload_n C dX11_years_29 rfl 0 rfl ?_
    refine w_iconst C 1 dX11_years_30 rfl (by decide) ?_
    refine bd2_w h (fun r7 u8 hc h => ?_)
    refine w_callVi C (n := 1) (As := [.int 1]) (st := []) 0 (Nat.le_of_ble_eq_true rfl) rfl rfl (cfX11_refuse D cI cT ad (l := X.2.1) C.2.2.1 hc) tw8_150 cy_X11_refuse (by decide +kernel) ⟨Nat.le_of_ble_eq_true rfl, Nat.le_of_ble_eq_true rfl⟩ (by decide) rfl rfl (Nat.le_of_ble_eq_true rfl) dX11_years_31 rfl ?_
    exact w_ri2 hr h (by decide) dX11_years_34
  · refine w_if_eq C (qt := 29) dX11_years_14 (by decide) rfl h (fun _ h => ?_) (fun _ h => ?_)
    · exact w_sub (lv' := [(0, .ref (ad 0))]) [0] rfl (hJ6 (()) h)
    · refine w_aload_n C dX11_years_17 rfl 0 rfl ?_
      refine w_get C 0 31 (Nat.le_of_ble_eq_true rfl) rfl rfl inB_X11 (by decide) tw6_192 rfl dX11_years_18 rfl ?_
      refine w_iload_n C dX11_years_21 rfl 1 rfl ?_
      refine w_iadd C dX11_years_22 rfl ?_
      refine w_sipush C 999 dX11_years_23 rfl (by decide) ?_
      refine w_icmp_le C (qt := 35) dX11_years_26 (by decide) rfl h (fun _ h => ?_) (fun _ h => ?_)
      · refine w_aload_n C dX11_years_35 rfl 0 rfl ?_
        refine bd1_w h (fun u9 hc h => ?_)
        refine w_callVv C (n := 0) (As := []) (st := []) 0 (Nat.le_of_ble_eq_true rfl) rfl rfl (cfX11_keep D cI cT ad (l := X.2.1) C.2.2.1 hc) tw8_154 cy_X11_keep (by decide +kernel) ⟨Nat.le_of_ble_eq_true rfl, Nat.le_of_ble_eq_true rfl⟩ (by decide) rfl rfl (Nat.le_of_ble_eq_true rfl) dX11_years_36 rfl ?_
        refine w_aload_n C dX11_years_39 rfl 0 rfl ?_
        refine w_dup C rfl dX11_years_40 rfl ?_
        refine w_get C 0 31 (Nat.le_of_ble_eq_true rfl) rfl rfl inB_X11 (by decide) tw6_192 rfl dX11_years_41 rfl ?_
        refine w_iload_n C dX11_years_44 rfl 1 rfl ?_
        refine w_iadd C dX11_years_45 rfl ?_
        refine w_put C 0 31 ((u9 0 31) + a0) (Nat.le_of_ble_eq_true rfl) rfl rfl inB_X11 tyX11_ok nmX11 (by decide) tw6_192 rfl rfl rfl (Nat.le_of_ble_eq_true rfl) rfl dX11_years_46 rfl ?_
        refine w_nst h (fun u11 h => ?_)
        refine w_aload_n C dX11_years_49 rfl 0 rfl ?_
        refine w_get C 0 31 (Nat.le_of_ble_eq_true rfl) rfl rfl inB_X11 (by decide) tw6_192 rfl dX11_years_50 rfl ?_
        exact w_ri2 hr h (by decide) dX11_years_53
      · exact w_sub (lv' := [(0, .ref (ad 0))]) [0] rfl (hJ6 (()) h)
theorem cfX11_years (D : va_G) (cI cT : ClassId) (ad : Nat → Nat) {l : Launch} (had : gAp (gM D cI cT ad)) {F : Nat} {σ : St} {a0 : Int32} {r : Int32} {σ' : St} (h : fX11_years F σ a0 = some (r, σ')) : MI l yX11_years (wB yX11_years cX11_years 2 (some .int)) 2 45 (gM D cI cT ad) [.ref (ad 0), .int a0] σ r σ' := mk_MI had (by decide +kernel) (Nat.le_of_ble_eq_true rfl) (fun X hX C hr => wfX11_years C hr h)

