theorem tw_arrI : Cond.arrayClass .int ∈ BG := BG_of (by decide +kernel) (by decide +kernel)
theorem inst_X0 : Cond.instantiable RX0 15 ∈ BG := BG_of (by decide +kernel) (by decide +kernel)
theorem kdef_X0 : ∀ j, j < 15 → defaultValue (tyX0 j) = vp_V [.int 0, .int 0, .int 0, .int 0, .int 0, .null, .null, .null, .null, .null, .null, .null, .null, .null, .null] j := by
  intro j hj
  have hj : j = 0 ∨ j = 1 ∨ j = 2 ∨ j = 3 ∨ j = 4 ∨ j = 5 ∨ j = 6 ∨ j = 7 ∨ j = 8 ∨ j = 9 ∨ j = 10 ∨ j = 11 ∨ j = 12 ∨ j = 13 ∨ j = 14 := by omega
  rcases hj with rfl | rfl | rfl | rfl | rfl | rfl | rfl | rfl | rfl | rfl | rfl | rfl | rfl | rfl | rfl <;> rfl
theorem ki_X0 : Cond.instanceMethod yX0_init ∈ BG ∧ Cond.initialized (yX0_init).cls ∈ BG ∧ Cond.code yX0_init cX0_init 1 none ∈ BG := ⟨tw1_37, tw1_2, tw1_38⟩
theorem inst_X1 : Cond.instantiable RX1 4 ∈ BG := BG_of (by decide +kernel) (by decide +kernel)
theorem kdef_X1 : ∀ j, j < 4 → defaultValue (tyX1 j) = vp_V [.null, .null, .null, .null] j := by
  intro j hj
  have hj : j = 0 ∨ j = 1 ∨ j = 2 ∨ j = 3 := by omega
  rcases hj with rfl | rfl | rfl | rfl <;> rfl
theorem ki_X1 : Cond.instanceMethod yX1_init ∈ BG ∧ Cond.initialized (yX1_init).cls ∈ BG ∧ Cond.code yX1_init cX1_init 3 none ∈ BG := ⟨tw2_125, tw1_10, tw2_126⟩
theorem inst_X2 : Cond.instantiable RX2 7 ∈ BG := BG_of (by decide +kernel) (by decide +kernel)
theorem kdef_X2 : ∀ j, j < 7 → defaultValue (tyX2 j) = vp_V [.null, .null, .null, .int 0, .int 0, .int 0, .int 0] j := by
  intro j hj
  have hj : j = 0 ∨ j = 1 ∨ j = 2 ∨ j = 3 ∨ j = 4 ∨ j = 5 ∨ j = 6 := by omega
  rcases hj with rfl | rfl | rfl | rfl | rfl | rfl | rfl <;> rfl
theorem ki_X2 : Cond.instanceMethod yX2_init ∈ BG ∧ Cond.initialized (yX2_init).cls ∈ BG ∧ Cond.code yX2_init cX2_init 2 none ∈ BG := ⟨tw2_15, tw1_6, tw2_16⟩
theorem inst_X3 : Cond.instantiable RX3 3 ∈ BG := BG_of (by decide +kernel) (by decide +kernel)
theorem kdef_X3 : ∀ j, j < 3 → defaultValue (tyX3 j) = vp_V [.null, .null, .null] j := by
  intro j hj
  have hj : j = 0 ∨ j = 1 ∨ j = 2 := by omega
  rcases hj with rfl | rfl | rfl <;> rfl
theorem ki_X3 : Cond.instanceMethod yX3_init ∈ BG ∧ Cond.initialized (yX3_init).cls ∈ BG ∧ Cond.code yX3_init cX3_init 1 none ∈ BG := ⟨tw2_21, tw1_7, tw2_22⟩
theorem inst_X4 : Cond.instantiable RX4 7 ∈ BG := BG_of (by decide +kernel) (by decide +kernel)
theorem kdef_X4 : ∀ j, j < 7 → defaultValue (tyX4 j) = vp_V [.null, .null, .null, .int 0, .int 0, .int 0, .int 0] j := by
  intro j hj
  have hj : j = 0 ∨ j = 1 ∨ j = 2 ∨ j = 3 ∨ j = 4 ∨ j = 5 ∨ j = 6 := by omega
  rcases hj with rfl | rfl | rfl | rfl | rfl | rfl | rfl <;> rfl
theorem ki_X4 : Cond.instanceMethod yX4_init ∈ BG ∧ Cond.initialized (yX4_init).cls ∈ BG ∧ Cond.code yX4_init cX4_init 4 none ∈ BG := ⟨tw2_144, tw1_11, tw2_145⟩
theorem inst_X5 : Cond.instantiable RX5 6 ∈ BG := BG_of (by decide +kernel) (by decide +kernel)
theorem kdef_X5 : ∀ j, j < 6 → defaultValue (tyX5 j) = vp_V [.null, .null, .null, .null, .int 0, .int 0] j := by
  intro j hj
  have hj : j = 0 ∨ j = 1 ∨ j = 2 ∨ j = 3 ∨ j = 4 ∨ j = 5 := by omega
  rcases hj with rfl | rfl | rfl | rfl | rfl | rfl <;> rfl
theorem ki_X5 : Cond.instanceMethod yX5_init ∈ BG ∧ Cond.initialized (yX5_init).cls ∈ BG ∧ Cond.code yX5_init cX5_init 3 none ∈ BG := ⟨tw2_69, tw1_8, tw2_70⟩
theorem inst_X6 : Cond.instantiable RX6 6 ∈ BG := BG_of (by decide +kernel) (by decide +kernel)
theorem kdef_X6 : ∀ j, j < 6 → defaultValue (tyX6 j) = vp_V [.null, .null, .null, .null, .int 0, .int 0] j := by
  intro j hj
  have hj : j = 0 ∨ j = 1 ∨ j = 2 ∨ j = 3 ∨ j = 4 ∨ j = 5 := by omega
  rcases hj with rfl | rfl | rfl | rfl | rfl | rfl <;> rfl
theorem ki_X6 : Cond.instanceMethod yX6_init ∈ BG ∧ Cond.initialized (yX6_init).cls ∈ BG ∧ Cond.code yX6_init cX6_init 3 none ∈ BG := ⟨tw2_98, tw1_9, tw2_99⟩
theorem inst_X7 : Cond.instantiable RX7 8 ∈ BG := BG_of (by decide +kernel) (by decide +kernel)
theorem kdef_X7 : ∀ j, j < 8 → defaultValue (tyX7 j) = vp_V [.null, .null, .int 0, .int 0, .int 0, .int 0, .int 0, .int 0] j := by
  intro j hj
  have hj : j = 0 ∨ j = 1 ∨ j = 2 ∨ j = 3 ∨ j = 4 ∨ j = 5 ∨ j = 6 ∨ j = 7 := by omega
  rcases hj with rfl | rfl | rfl | rfl | rfl | rfl | rfl | rfl <;> rfl
theorem ki_X7 : Cond.instanceMethod yX7_init ∈ BG ∧ Cond.initialized (yX7_init).cls ∈ BG ∧ Cond.code yX7_init cX7_init 2 none ∈ BG := ⟨tw1_153, tw1_4, tw1_154⟩
theorem inst_X8 : Cond.instantiable RX8 3 ∈ BG := BG_of (by decide +kernel) (by decide +kernel)
theorem kdef_X8 : ∀ j, j < 3 → defaultValue (tyX8 j) = vp_V [.int 0, .null, .null] j := by
  intro j hj
  have hj : j = 0 ∨ j = 1 ∨ j = 2 := by omega
  rcases hj with rfl | rfl | rfl <;> rfl
theorem ki_X8 : Cond.instanceMethod yX8_init ∈ BG ∧ Cond.initialized (yX8_init).cls ∈ BG ∧ Cond.code yX8_init cX8_init 1 none ∈ BG := ⟨tw1_43, tw1_3, tw1_44⟩
theorem inst_X9 : Cond.instantiable RX9 14 ∈ BG := BG_of (by decide +kernel) (by decide +kernel)
theorem kdef_X9 : ∀ j, j < 14 → defaultValue (tyX9 j) = vp_V [.int 0, .int 0, .int 0, .null, .null, .null, .null, .null, .null, .null, .null, .null, .null, .null] j := by
  intro j hj
  have hj : j = 0 ∨ j = 1 ∨ j = 2 ∨ j = 3 ∨ j = 4 ∨ j = 5 ∨ j = 6 ∨ j = 7 ∨ j = 8 ∨ j = 9 ∨ j = 10 ∨ j = 11 ∨ j = 12 ∨ j = 13 := by omega
  rcases hj with rfl | rfl | rfl | rfl | rfl | rfl | rfl | rfl | rfl | rfl | rfl | rfl | rfl | rfl <;> rfl
theorem ki_X9 : Cond.instanceMethod yX9_init ∈ BG ∧ Cond.initialized (yX9_init).cls ∈ BG ∧ Cond.code yX9_init cX9_init 1 none ∈ BG := ⟨tw1_186, tw1_5, tw1_187⟩
theorem inst_X10 : Cond.instantiable RX10 15 ∈ BG := BG_of (by decide +kernel) (by decide +kernel)
theorem kdef_X10 : ∀ j, j < 15 → defaultValue (tyX10 j) = vp_V [.null, .int 0, .int 0, .int 0, .null, .null, .null, .null, .null, .null, .null, .null, .null, .null, .null] j := by
  intro j hj
  have hj : j = 0 ∨ j = 1 ∨ j = 2 ∨ j = 3 ∨ j = 4 ∨ j = 5 ∨ j = 6 ∨ j = 7 ∨ j = 8 ∨ j = 9 ∨ j = 10 ∨ j = 11 ∨ j = 12 ∨ j = 13 ∨ j = 14 := by omega
  rcases hj with rfl | rfl | rfl | rfl | rfl | rfl | rfl | rfl | rfl | rfl | rfl | rfl | rfl | rfl | rfl <;> rfl
theorem ki_X10 : Cond.instanceMethod yX10_init ∈ BG ∧ Cond.initialized (yX10_init).cls ∈ BG ∧ Cond.code yX10_init cX10_init 1 none ∈ BG := ⟨tw1_29, tw1_1, tw1_30⟩
theorem inst_X11 : Cond.instantiable RX11 61 ∈ BG := BG_of (by decide +kernel) (by decide +kernel)
theorem kdef_X11 : ∀ j, j < 61 → defaultValue (tyX11 j) = vp_V [.null, .null, .null, .null, .int 0, .null, .null, .null, .null, .null, .null, .null, .null, .null, .null, .null, .null, .null, .int 0, .int 0, .int 0, .int 0, .int 0, .int 0, .int 0, .int 0, .int 0, .int 0, .null, .null, .null, .int 0, .int 0, .int 0, .int 0, .null, .null, .null, .int 0, .null, .null, .null, .null, .null, .null, .null, .null, .null, .int 0, .null, .int 0, .int 0, .int 0, .null, .null, .null, .null, .null, .null, .null, .null] j := by
  intro j hj
  have hj : j = 0 ∨ j = 1 ∨ j = 2 ∨ j = 3 ∨ j = 4 ∨ j = 5 ∨ j = 6 ∨ j = 7 ∨ j = 8 ∨ j = 9 ∨ j = 10 ∨ j = 11 ∨ j = 12 ∨ j = 13 ∨ j = 14 ∨ j = 15 ∨ j = 16 ∨ j = 17 ∨ j = 18 ∨ j = 19 ∨ j = 20 ∨ j = 21 ∨ j = 22 ∨ j = 23 ∨ j = 24 ∨ j = 25 ∨ j = 26 ∨ j = 27 ∨ j = 28 ∨ j = 29 ∨ j = 30 ∨ j = 31 ∨ j = 32 ∨ j = 33 ∨ j = 34 ∨ j = 35 ∨ j = 36 ∨ j = 37 ∨ j = 38 ∨ j = 39 ∨ j = 40 ∨ j = 41 ∨ j = 42 ∨ j = 43 ∨ j = 44 ∨ j = 45 ∨ j = 46 ∨ j = 47 ∨ j = 48 ∨ j = 49 ∨ j = 50 ∨ j = 51 ∨ j = 52 ∨ j = 53 ∨ j = 54 ∨ j = 55 ∨ j = 56 ∨ j = 57 ∨ j = 58 ∨ j = 59 ∨ j = 60 := by omega
  rcases hj with rfl | rfl | rfl | rfl | rfl | rfl | rfl | rfl | rfl | rfl | rfl | rfl | rfl | rfl | rfl | rfl | rfl | rfl | rfl | rfl | rfl | rfl | rfl | rfl | rfl | rfl | rfl | rfl | rfl | rfl | rfl | rfl | rfl | rfl | rfl | rfl | rfl | rfl | rfl | rfl | rfl | rfl | rfl | rfl | rfl | rfl | rfl | rfl | rfl | rfl | rfl | rfl | rfl | rfl | rfl | rfl | rfl | rfl | rfl | rfl | rfl <;> rfl
theorem ki_X11 : Cond.instanceMethod yX11_init ∈ BG ∧ Cond.initialized (yX11_init).cls ∈ BG ∧ Cond.code yX11_init cX11_init 1 none ∈ BG := ⟨tw6_146, tw1_12, tw6_147⟩
def kpX8 (cI : ClassId) (h0 : Nat) (u : Nat → Nat) : va_W := (h0, .inr (8, [.int 0, .ref (u 0), .ref (u 1)])) :: ((([] : va_W) ++ [((u 0), .inl (cI, 700, .inl (fun _ => 0)))]) ++ [((u 1), .inl (cI, 40, .inl (fun _ => 0)))])
set_option maxRecDepth 40000 in
set_option maxHeartbeats 4000000 in
theorem wkX8 {X : XT} {A : Nat → Prop} (D : va_G) (cI : ClassId) (h0 : Nat) (C : Cy X D [(cI, .int)] A cX8_init 1 RX8 { frames := 1, cells := 2, slots := 740, locals := 12 }) (hr : RetK X D A cX8_init 1 2 740 h0 8 (kpX8 cI h0)) : WK X D A 1 0 0 0 h0 8 [.int 0, .null, .null] [] [(0, .ref h0)] [] := by
  refine k_aload_n C dX8_init_0 rfl 0 rfl ?_
  refine k_obj C tw1_45 tw1_32 tw1_33 dX8_init_1 rfl ⟨by decide, by decide⟩ ?_
  refine k_aload_n C dX8_init_4 rfl 0 rfl ?_
  refine k_iconst C 0 dX8_init_5 rfl (by decide) ?_
  refine k_put C 0 [.int 0, .null, .null] rfl inB_X8 tyX8_ok nmX8 (by decide) tw1_46 rfl rfl rfl (Nat.le_of_ble_eq_true rfl) rfl dX8_init_6 rfl ?_
  refine k_aload_n C dX8_init_9 rfl 0 rfl ?_
  refine k_sipush C 700 dX8_init_10 rfl (by decide) ?_
  refine k_newa C (cI := cI) 700 1 700 rfl tw_arrI (by decide) (by decide) (by decide) ⟨rfl, rfl⟩ ⟨by decide, by decide⟩ dX8_init_13 rfl (fun q0 => ?_)
  refine k_putF C 1 [.int 0, .ref q0, .null] rfl inB_X8 tyX8_ok nmX8 (by decide) tw1_48 rfl rfl rfl rfl (Nat.le_of_ble_eq_true rfl) rfl dX8_init_15 rfl ?_
  refine k_aload_n C dX8_init_18 rfl 0 rfl ?_
  refine k_bipush C 40 dX8_init_19 rfl (by decide) ?_
  refine k_newa C (cI := cI) 40 2 740 rfl tw_arrI (by decide) (by decide) (by decide) ⟨rfl, rfl⟩ ⟨by decide, by decide⟩ dX8_init_21 rfl (fun q1 => ?_)
  refine k_putF C 2 [.int 0, .ref q0, .ref q1] rfl inB_X8 tyX8_ok nmX8 (by decide) tw1_49 rfl rfl rfl rfl (Nat.le_of_ble_eq_true rfl) rfl dX8_init_23 rfl ?_
  exact hr _ _ _ _ (fun k => ([q0, q1] : List Nat).getD k 0) dX8_init_26 rfl
theorem kcX8 {l : Launch} (D : va_G) (cI : ClassId) (h0 : Nat) : KC l yX8_init (wB yX8_init cX8_init 1 none) { frames := 1, cells := 2, slots := 740, locals := 12 } D [(cI, .int)] 2 740 h0 8 [.int 0, .null, .null] [] (kpX8 cI h0) := mk_KC (by decide +kernel) (by decide +kernel) (Nat.le_of_ble_eq_true rfl) (fun X A hX C hr => wkX8 D cI h0 C hr)

def kpX0 (cI : ClassId) (h0 : Nat) (u : Nat → Nat) : va_W := (h0, .inr (0, [.int 0, .int 0, .int 12, .int 0, .int 0, .ref (u 0), .ref (u 1), .ref (u 2), .ref (u 3), .ref (u 4), .ref (u 5), .ref (u 6), .ref (u 7), .ref (u 8), .ref (u 9)])) :: ((((((((((([] : va_W) ++ [((u 0), .inl (cI, 6, .inl (fun _ => 0)))]) ++ [((u 1), .inl (cI, 8, .inl (fun _ => 0)))]) ++ [((u 2), .inl (cI, 8, .inl (fun _ => 0)))]) ++ [((u 3), .inl (cI, 8, .inl (fun _ => 0)))]) ++ [((u 4), .inl (cI, 8, .inl (fun _ => 0)))]) ++ [((u 5), .inl (cI, 80, .inl (fun _ => 0)))]) ++ [((u 6), .inl (cI, 80, .inl (fun _ => 0)))]) ++ [((u 7), .inl (cI, 80, .inl (fun _ => 0)))]) ++ [((u 8), .inl (cI, 80, .inl (fun _ => 0)))]) ++ kpX8 cI (u 9) (fun k => u (10 + k)))
set_option maxRecDepth 40000 in
set_option maxHeartbeats 4000000 in
theorem wkX0 {X : XT} {A : Nat → Prop} (D : va_G) (cI : ClassId) (h0 : Nat) (C : Cy X D [(cI, .int)] A cX0_init 1 RX0 { frames := 2, cells := 12, slots := 1101, locals := 32 }) (hr : RetK X D A cX0_init 1 12 1101 h0 0 (kpX0 cI h0)) : WK X D A 1 0 0 0 h0 0 [.int 0, .int 0, .int 0, .int 0, .int 0, .null, .null, .null, .null, .null, .null, .null, .null, .null, .null] [] [(0, .ref h0)] [] := by
  refine k_aload_n C dX0_init_0 rfl 0 rfl ?_
  refine k_obj C tw1_39 tw1_32 tw1_33 dX0_init_1 rfl ⟨by decide, by decide⟩ ?_
  refine k_aload_n C dX0_init_4 rfl 0 rfl ?_
  refine k_iconst C 0 dX0_init_5 rfl (by decide) ?_
  refine k_put C 0 [.int 0, .int 0, .int 0, .int 0, .int 0, .null, .null, .null, .null, .null, .null, .null, .null, .null, .null] rfl inB_X0 tyX0_ok nmX0 (by decide) tw1_58 rfl rfl rfl (Nat.le_of_ble_eq_true rfl) rfl dX0_init_6 rfl ?_
  refine k_aload_n C dX0_init_9 rfl 0 rfl ?_
  refine k_iconst C 0 dX0_init_10 rfl (by decide) ?_
  refine k_put C 1 [.int 0, .int 0, .int 0, .int 0, .int 0, .null, .null, .null, .null, .null, .null, .null, .null, .null, .null] rfl inB_X0 tyX0_ok nmX0 (by decide) tw1_62 rfl rfl rfl (Nat.le_of_ble_eq_true rfl) rfl dX0_init_11 rfl ?_
  refine k_aload_n C dX0_init_14 rfl 0 rfl ?_
  refine k_bipush C 12 dX0_init_15 rfl (by decide) ?_
  refine k_put C 2 [.int 0, .int 0, .int 12, .int 0, .int 0, .null, .null, .null, .null, .null, .null, .null, .null, .null, .null] rfl inB_X0 tyX0_ok nmX0 (by decide) tw1_69 rfl rfl rfl (Nat.le_of_ble_eq_true rfl) rfl dX0_init_17 rfl ?_
  refine k_aload_n C dX0_init_20 rfl 0 rfl ?_
  refine k_iconst C 0 dX0_init_21 rfl (by decide) ?_
  refine k_put C 3 [.int 0, .int 0, .int 12, .int 0, .int 0, .null, .null, .null, .null, .null, .null, .null, .null, .null, .null] rfl inB_X0 tyX0_ok nmX0 (by decide) tw1_74 rfl rfl rfl (Nat.le_of_ble_eq_true rfl) rfl dX0_init_22 rfl ?_
  refine k_aload_n C dX0_init_25 rfl 0 rfl ?_
  refine k_iconst C 0 dX0_init_26 rfl (by decide) ?_
  refine k_put C 4 [.int 0, .int 0, .int 12, .int 0, .int 0, .null, .null, .null, .null, .null, .null, .null, .null, .null, .null] rfl inB_X0 tyX0_ok nmX0 (by decide) tw1_76 rfl rfl rfl (Nat.le_of_ble_eq_true rfl) rfl dX0_init_27 rfl ?_
  refine k_aload_n C dX0_init_30 rfl 0 rfl ?_
  refine k_bipush C 6 dX0_init_31 rfl (by decide) ?_
  refine k_newa C (cI := cI) 6 1 6 rfl tw_arrI (by decide) (by decide) (by decide) ⟨rfl, rfl⟩ ⟨by decide, by decide⟩ dX0_init_33 rfl (fun q0 => ?_)
  refine k_putF C 5 [.int 0, .int 0, .int 12, .int 0, .int 0, .ref q0, .null, .null, .null, .null, .null, .null, .null, .null, .null] rfl inB_X0 tyX0_ok nmX0 (by decide) tw1_79 rfl rfl rfl rfl (Nat.le_of_ble_eq_true rfl) rfl dX0_init_35 rfl ?_
  refine k_aload_n C dX0_init_38 rfl 0 rfl ?_
  refine k_bipush C 8 dX0_init_39 rfl (by decide) ?_
  refine k_newa C (cI := cI) 8 2 14 rfl tw_arrI (by decide) (by decide) (by decide) ⟨rfl, rfl⟩ ⟨by decide, by decide⟩ dX0_init_41 rfl (fun q1 => ?_)
  refine k_putF C 6 [.int 0, .int 0, .int 12, .int 0, .int 0, .ref q0, .ref q1, .null, .null, .null, .null, .null, .null, .null, .null] rfl inB_X0 tyX0_ok nmX0 (by decide) tw1_82 rfl rfl rfl rfl (Nat.le_of_ble_eq_true rfl) rfl dX0_init_43 rfl ?_
  refine k_aload_n C dX0_init_46 rfl 0 rfl ?_
  refine k_bipush C 8 dX0_init_47 rfl (by decide) ?_
  refine k_newa C (cI := cI) 8 3 22 rfl tw_arrI (by decide) (by decide) (by decide) ⟨rfl, rfl⟩ ⟨by decide, by decide⟩ dX0_init_49 rfl (fun q2 => ?_)
  refine k_putF C 7 [.int 0, .int 0, .int 12, .int 0, .int 0, .ref q0, .ref q1, .ref q2, .null, .null, .null, .null, .null, .null, .null] rfl inB_X0 tyX0_ok nmX0 (by decide) tw1_86 rfl rfl rfl rfl (Nat.le_of_ble_eq_true rfl) rfl dX0_init_51 rfl ?_
  refine k_aload_n C dX0_init_54 rfl 0 rfl ?_
  refine k_bipush C 8 dX0_init_55 rfl (by decide) ?_
  refine k_newa C (cI := cI) 8 4 30 rfl tw_arrI (by decide) (by decide) (by decide) ⟨rfl, rfl⟩ ⟨by decide, by decide⟩ dX0_init_57 rfl (fun q3 => ?_)
  refine k_putF C 8 [.int 0, .int 0, .int 12, .int 0, .int 0, .ref q0, .ref q1, .ref q2, .ref q3, .null, .null, .null, .null, .null, .null] rfl inB_X0 tyX0_ok nmX0 (by decide) tw1_90 rfl rfl rfl rfl (Nat.le_of_ble_eq_true rfl) rfl dX0_init_59 rfl ?_
  refine k_aload_n C dX0_init_62 rfl 0 rfl ?_
  refine k_bipush C 8 dX0_init_63 rfl (by decide) ?_
  refine k_newa C (cI := cI) 8 5 38 rfl tw_arrI (by decide) (by decide) (by decide) ⟨rfl, rfl⟩ ⟨by decide, by decide⟩ dX0_init_65 rfl (fun q4 => ?_)
  refine k_putF C 9 [.int 0, .int 0, .int 12, .int 0, .int 0, .ref q0, .ref q1, .ref q2, .ref q3, .ref q4, .null, .null, .null, .null, .null] rfl inB_X0 tyX0_ok nmX0 (by decide) tw1_95 rfl rfl rfl rfl (Nat.le_of_ble_eq_true rfl) rfl dX0_init_67 rfl ?_
  refine k_aload_n C dX0_init_70 rfl 0 rfl ?_
  refine k_bipush C 80 dX0_init_71 rfl (by decide) ?_
  refine k_newa C (cI := cI) 80 6 118 rfl tw_arrI (by decide) (by decide) (by decide) ⟨rfl, rfl⟩ ⟨by decide, by decide⟩ dX0_init_73 rfl (fun q5 => ?_)
  refine k_putF C 10 [.int 0, .int 0, .int 12, .int 0, .int 0, .ref q0, .ref q1, .ref q2, .ref q3, .ref q4, .ref q5, .null, .null, .null, .null] rfl inB_X0 tyX0_ok nmX0 (by decide) tw1_100 rfl rfl rfl rfl (Nat.le_of_ble_eq_true rfl) rfl dX0_init_75 rfl ?_
  refine k_aload_n C dX0_init_78 rfl 0 rfl ?_
  refine k_bipush C 80 dX0_init_79 rfl (by decide) ?_
  refine k_newa C (cI := cI) 80 7 198 rfl tw_arrI (by decide) (by decide) (by decide) ⟨rfl, rfl⟩ ⟨by decide, by decide⟩ dX0_init_81 rfl (fun q6 => ?_)
  refine k_putF C 11 [.int 0, .int 0, .int 12, .int 0, .int 0, .ref q0, .ref q1, .ref q2, .ref q3, .ref q4, .ref q5, .ref q6, .null, .null, .null] rfl inB_X0 tyX0_ok nmX0 (by decide) tw1_105 rfl rfl rfl rfl (Nat.le_of_ble_eq_true rfl) rfl dX0_init_83 rfl ?_
  refine k_aload_n C dX0_init_86 rfl 0 rfl ?_
  refine k_bipush C 80 dX0_init_87 rfl (by decide) ?_
  refine k_newa C (cI := cI) 80 8 278 rfl tw_arrI (by decide) (by decide) (by decide) ⟨rfl, rfl⟩ ⟨by decide, by decide⟩ dX0_init_89 rfl (fun q7 => ?_)
  refine k_putF C 12 [.int 0, .int 0, .int 12, .int 0, .int 0, .ref q0, .ref q1, .ref q2, .ref q3, .ref q4, .ref q5, .ref q6, .ref q7, .null, .null] rfl inB_X0 tyX0_ok nmX0 (by decide) tw1_109 rfl rfl rfl rfl (Nat.le_of_ble_eq_true rfl) rfl dX0_init_91 rfl ?_
  refine k_aload_n C dX0_init_94 rfl 0 rfl ?_
  refine k_bipush C 80 dX0_init_95 rfl (by decide) ?_
  refine k_newa C (cI := cI) 80 9 358 rfl tw_arrI (by decide) (by decide) (by decide) ⟨rfl, rfl⟩ ⟨by decide, by decide⟩ dX0_init_97 rfl (fun q8 => ?_)
  refine k_putF C 13 [.int 0, .int 0, .int 12, .int 0, .int 0, .ref q0, .ref q1, .ref q2, .ref q3, .ref q4, .ref q5, .ref q6, .ref q7, .ref q8, .null] rfl inB_X0 tyX0_ok nmX0 (by decide) tw1_112 rfl rfl rfl rfl (Nat.le_of_ble_eq_true rfl) rfl dX0_init_99 rfl ?_
  refine k_aload_n C dX0_init_102 rfl 0 rfl ?_
  refine k_new (c2 := 10) (s2 := 361) (cj := 8) C [.int 0, .null, .null] rfl inB_X8 tyX8_ok kdef_X8 tw1_40 inst_X8 tw1_3 ⟨rfl, rfl⟩ ⟨by decide, by decide⟩ dX0_init_103 rfl (fun q9 => ?_)
  refine k_dup C rfl dX0_init_106 rfl ?_
  refine k_call (index := 58) (n := 0) (As := []) (st := [.ref q9, .ref h0]) (c2 := 12) (s2 := 1101) C (kcX8 D cI q9) (Or.inr ⟨RX10, by decide⟩) ki_X8 (by decide +kernel) (by decide +kernel) ⟨rfl, rfl⟩ ⟨by decide, by decide⟩ ⟨rfl, rfl⟩ ⟨by decide, by decide⟩ rfl rfl (Nat.le_of_ble_eq_true rfl) dX0_init_107 rfl (fun w10 => ?_)
  refine k_putF C 14 [.int 0, .int 0, .int 12, .int 0, .int 0, .ref q0, .ref q1, .ref q2, .ref q3, .ref q4, .ref q5, .ref q6, .ref q7, .ref q8, .ref q9] rfl inB_X0 tyX0_ok nmX0 (by decide) tw1_116 rfl rfl rfl rfl (Nat.le_of_ble_eq_true rfl) rfl dX0_init_110 rfl ?_
  exact hr _ _ _ _ (fun k => ([q0, q1, q2, q3, q4, q5, q6, q7, q8, q9, (w10 0), (w10 1)] : List Nat).getD k 0) dX0_init_113 rfl
theorem kcX0 {l : Launch} (D : va_G) (cI : ClassId) (h0 : Nat) : KC l yX0_init (wB yX0_init cX0_init 1 none) { frames := 2, cells := 12, slots := 1101, locals := 32 } D [(cI, .int)] 12 1101 h0 0 [.int 0, .int 0, .int 0, .int 0, .int 0, .null, .null, .null, .null, .null, .null, .null, .null, .null, .null] [] (kpX0 cI h0) := mk_KC (by decide +kernel) (by decide +kernel) (Nat.le_of_ble_eq_true rfl) (fun X A hX C hr => wkX0 D cI h0 C hr)

def kpX7 (cI : ClassId) (h0 b0 : Nat) (u : Nat → Nat) : va_W := (h0, .inr (7, [.ref b0, .ref (u 0), .int 0, .int 0, .int 0, .int 0, .int 0, .int (-1)])) :: (([] : va_W) ++ [((u 0), .inl (cI, 0, .inl (fun _ => 0)))])
set_option maxRecDepth 40000 in
set_option maxHeartbeats 4000000 in
theorem wkX7 {X : XT} {A : Nat → Prop} (D : va_G) (cI : ClassId) (h0 b0 : Nat) (C : Cy X D [(cI, .int)] A cX7_init 2 RX7 { frames := 1, cells := 1, slots := 0, locals := 12 }) (hr : RetK X D A cX7_init 2 1 0 h0 7 (kpX7 cI h0 b0)) : WK X D A 2 0 0 0 h0 7 [.null, .null, .int 0, .int 0, .int 0, .int 0, .int 0, .int 0] [] [(0, .ref h0), (1, .ref b0)] [] := by
  refine k_aload_n C dX7_init_0 rfl 0 rfl ?_
  refine k_obj C tw1_155 tw1_32 tw1_33 dX7_init_1 rfl ⟨by decide, by decide⟩ ?_
  refine k_aload_n C dX7_init_4 rfl 0 rfl ?_
  refine k_aload_n C dX7_init_5 rfl 1 rfl ?_
  refine k_putF C 0 [.ref b0, .null, .int 0, .int 0, .int 0, .int 0, .int 0, .int 0] rfl inB_X7 tyX7_ok nmX7 (by decide) tw1_156 rfl rfl rfl rfl (Nat.le_of_ble_eq_true rfl) rfl dX7_init_6 rfl ?_
  refine k_aload_n C dX7_init_9 rfl 0 rfl ?_
  refine k_iconst C 0 dX7_init_10 rfl (by decide) ?_
  refine k_newa C (cI := cI) 0 1 0 rfl tw_arrI (by decide) (by decide) (by decide) ⟨rfl, rfl⟩ ⟨by decide, by decide⟩ dX7_init_11 rfl (fun q0 => ?_)
  refine k_put C 1 [.ref b0, .ref q0, .int 0, .int 0, .int 0, .int 0, .int 0, .int 0] rfl inB_X7 tyX7_ok nmX7 (by decide) tw1_157 rfl rfl rfl (Nat.le_of_ble_eq_true rfl) rfl dX7_init_13 rfl ?_
  refine k_aload_n C dX7_init_16 rfl 0 rfl ?_
  refine k_iconst C 0 dX7_init_17 rfl (by decide) ?_
  refine k_put C 2 [.ref b0, .ref q0, .int 0, .int 0, .int 0, .int 0, .int 0, .int 0] rfl inB_X7 tyX7_ok nmX7 (by decide) tw1_158 rfl rfl rfl (Nat.le_of_ble_eq_true rfl) rfl dX7_init_18 rfl ?_
  refine k_aload_n C dX7_init_21 rfl 0 rfl ?_
  refine k_iconst C 0 dX7_init_22 rfl (by decide) ?_
  refine k_put C 3 [.ref b0, .ref q0, .int 0, .int 0, .int 0, .int 0, .int 0, .int 0] rfl inB_X7 tyX7_ok nmX7 (by decide) tw1_159 rfl rfl rfl (Nat.le_of_ble_eq_true rfl) rfl dX7_init_23 rfl ?_
  refine k_aload_n C dX7_init_26 rfl 0 rfl ?_
  refine k_iconst C 0 dX7_init_27 rfl (by decide) ?_
  refine k_put C 4 [.ref b0, .ref q0, .int 0, .int 0, .int 0, .int 0, .int 0, .int 0] rfl inB_X7 tyX7_ok nmX7 (by decide) tw1_160 rfl rfl rfl (Nat.le_of_ble_eq_true rfl) rfl dX7_init_28 rfl ?_
  refine k_aload_n C dX7_init_31 rfl 0 rfl ?_
  refine k_iconst C 0 dX7_init_32 rfl (by decide) ?_
  refine k_put C 5 [.ref b0, .ref q0, .int 0, .int 0, .int 0, .int 0, .int 0, .int 0] rfl inB_X7 tyX7_ok nmX7 (by decide) tw1_161 rfl rfl rfl (Nat.le_of_ble_eq_true rfl) rfl dX7_init_33 rfl ?_
  refine k_aload_n C dX7_init_36 rfl 0 rfl ?_
  refine k_iconst C 0 dX7_init_37 rfl (by decide) ?_
  refine k_put C 6 [.ref b0, .ref q0, .int 0, .int 0, .int 0, .int 0, .int 0, .int 0] rfl inB_X7 tyX7_ok nmX7 (by decide) tw1_162 rfl rfl rfl (Nat.le_of_ble_eq_true rfl) rfl dX7_init_38 rfl ?_
  refine k_aload_n C dX7_init_41 rfl 0 rfl ?_
  refine k_iconst C (-1) dX7_init_42 rfl (by decide) ?_
  refine k_put C 7 [.ref b0, .ref q0, .int 0, .int 0, .int 0, .int 0, .int 0, .int (-1)] rfl inB_X7 tyX7_ok nmX7 (by decide) tw1_164 rfl rfl rfl (Nat.le_of_ble_eq_true rfl) rfl dX7_init_43 rfl ?_
  exact hr _ _ _ _ (fun k => ([q0] : List Nat).getD k 0) dX7_init_46 rfl
theorem kcX7 {l : Launch} (D : va_G) (cI : ClassId) (h0 b0 : Nat) : KC l yX7_init (wB yX7_init cX7_init 2 none) { frames := 1, cells := 1, slots := 0, locals := 12 } D [(cI, .int)] 1 0 h0 7 [.null, .null, .int 0, .int 0, .int 0, .int 0, .int 0, .int 0] [.ref b0] (kpX7 cI h0 b0) := mk_KC (by decide +kernel) (by decide +kernel) (Nat.le_of_ble_eq_true rfl) (fun X A hX C hr => wkX7 D cI h0 b0 C hr)

def kpX9 (cI : ClassId) (h0 : Nat) (u : Nat → Nat) : va_W := (h0, .inr (9, [.int 0, .int 0, .int 0, .ref (u 0), .ref (u 1), .ref (u 2), .ref (u 3), .ref (u 4), .ref (u 5), .ref (u 6), .ref (u 7), .ref (u 8), .ref (u 9), .ref (u 10)])) :: (((((((((((([] : va_W) ++ [((u 0), .inl (cI, 8, .inl (fun _ => 0)))]) ++ [((u 1), .inl (cI, 8, .inl (fun _ => 0)))]) ++ [((u 2), .inl (cI, 80, .inl (fun _ => 0)))]) ++ [((u 3), .inl (cI, 48, .inl (fun _ => 0)))]) ++ [((u 4), .inl (cI, 160, .inl (fun _ => 0)))]) ++ [((u 5), .inl (cI, 8, .inl (fun _ => 0)))]) ++ [((u 6), .inl (cI, 8, .inl (fun _ => 0)))]) ++ [((u 7), .inl (cI, 8, .inl (fun _ => 0)))]) ++ [((u 8), .inl (cI, 8, .inl (fun _ => 0)))]) ++ [((u 9), .inl (cI, 8, .inl (fun _ => 0)))]) ++ [((u 10), .inl (cI, 3, .inl (fun _ => 0)))])
set_option maxRecDepth 40000 in
set_option maxHeartbeats 4000000 in
theorem wkX9 {X : XT} {A : Nat → Prop} (D : va_G) (cI : ClassId) (h0 : Nat) (C : Cy X D [(cI, .int)] A cX9_init 1 RX9 { frames := 1, cells := 11, slots := 347, locals := 12 }) (hr : RetK X D A cX9_init 1 11 347 h0 9 (kpX9 cI h0)) : WK X D A 1 0 0 0 h0 9 [.int 0, .int 0, .int 0, .null, .null, .null, .null, .null, .null, .null, .null, .null, .null, .null] [] [(0, .ref h0)] [] := by
  refine k_aload_n C dX9_init_0 rfl 0 rfl ?_
  refine k_obj C tw1_188 tw1_32 tw1_33 dX9_init_1 rfl ⟨by decide, by decide⟩ ?_
  refine k_aload_n C dX9_init_4 rfl 0 rfl ?_
  refine k_iconst C 0 dX9_init_5 rfl (by decide) ?_
  refine k_put C 0 [.int 0, .int 0, .int 0, .null, .null, .null, .null, .null, .null, .null, .null, .null, .null, .null] rfl inB_X9 tyX9_ok nmX9 (by decide) tw1_189 rfl rfl rfl (Nat.le_of_ble_eq_true rfl) rfl dX9_init_6 rfl ?_
  refine k_aload_n C dX9_init_9 rfl 0 rfl ?_
  refine k_iconst C 0 dX9_init_10 rfl (by decide) ?_
  refine k_put C 1 [.int 0, .int 0, .int 0, .null, .null, .null, .null, .null, .null, .null, .null, .null, .null, .null] rfl inB_X9 tyX9_ok nmX9 (by decide) tw1_192 rfl rfl rfl (Nat.le_of_ble_eq_true rfl) rfl dX9_init_11 rfl ?_
  refine k_aload_n C dX9_init_14 rfl 0 rfl ?_
  refine k_iconst C 0 dX9_init_15 rfl (by decide) ?_
  refine k_put C 2 [.int 0, .int 0, .int 0, .null, .null, .null, .null, .null, .null, .null, .null, .null, .null, .null] rfl inB_X9 tyX9_ok nmX9 (by decide) tw1_194 rfl rfl rfl (Nat.le_of_ble_eq_true rfl) rfl dX9_init_16 rfl ?_
  refine k_aload_n C dX9_init_19 rfl 0 rfl ?_
  refine k_bipush C 8 dX9_init_20 rfl (by decide) ?_
  refine k_newa C (cI := cI) 8 1 8 rfl tw_arrI (by decide) (by decide) (by decide) ⟨rfl, rfl⟩ ⟨by decide, by decide⟩ dX9_init_22 rfl (fun q0 => ?_)
  refine k_putF C 3 [.int 0, .int 0, .int 0, .ref q0, .null, .null, .null, .null, .null, .null, .null, .null, .null, .null] rfl inB_X9 tyX9_ok nmX9 (by decide) tw1_197 rfl rfl rfl rfl (Nat.le_of_ble_eq_true rfl) rfl dX9_init_24 rfl ?_
  refine k_aload_n C dX9_init_27 rfl 0 rfl ?_
  refine k_bipush C 8 dX9_init_28 rfl (by decide) ?_
  refine k_newa C (cI := cI) 8 2 16 rfl tw_arrI (by decide) (by decide) (by decide) ⟨rfl, rfl⟩ ⟨by decide, by decide⟩ dX9_init_30 rfl (fun q1 => ?_)
  refine k_putF C 4 [.int 0, .int 0, .int 0, .ref q0, .ref q1, .null, .null, .null, .null, .null, .null, .null, .null, .null] rfl inB_X9 tyX9_ok nmX9 (by decide) tw1_199 rfl rfl rfl rfl (Nat.le_of_ble_eq_true rfl) rfl dX9_init_32 rfl ?_
  refine k_aload_n C dX9_init_35 rfl 0 rfl ?_
  refine k_bipush C 80 dX9_init_36 rfl (by decide) ?_
  refine k_newa C (cI := cI) 80 3 96 rfl tw_arrI (by decide) (by decide) (by decide) ⟨rfl, rfl⟩ ⟨by decide, by decide⟩ dX9_init_38 rfl (fun q2 => ?_)
  refine k_putF C 5 [.int 0, .int 0, .int 0, .ref q0, .ref q1, .ref q2, .null, .null, .null, .null, .null, .null, .null, .null] rfl inB_X9 tyX9_ok nmX9 (by decide) tw1_203 rfl rfl rfl rfl (Nat.le_of_ble_eq_true rfl) rfl dX9_init_40 rfl ?_
  refine k_aload_n C dX9_init_43 rfl 0 rfl ?_
  refine k_bipush C 48 dX9_init_44 rfl (by decide) ?_
  refine k_newa C (cI := cI) 48 4 144 rfl tw_arrI (by decide) (by decide) (by decide) ⟨rfl, rfl⟩ ⟨by decide, by decide⟩ dX9_init_46 rfl (fun q3 => ?_)
  refine k_putF C 6 [.int 0, .int 0, .int 0, .ref q0, .ref q1, .ref q2, .ref q3, .null, .null, .null, .null, .null, .null, .null] rfl inB_X9 tyX9_ok nmX9 (by decide) tw1_207 rfl rfl rfl rfl (Nat.le_of_ble_eq_true rfl) rfl dX9_init_48 rfl ?_
  refine k_aload_n C dX9_init_51 rfl 0 rfl ?_
  refine k_sipush C 160 dX9_init_52 rfl (by decide) ?_
  refine k_newa C (cI := cI) 160 5 304 rfl tw_arrI (by decide) (by decide) (by decide) ⟨rfl, rfl⟩ ⟨by decide, by decide⟩ dX9_init_55 rfl (fun q4 => ?_)
  refine k_putF C 7 [.int 0, .int 0, .int 0, .ref q0, .ref q1, .ref q2, .ref q3, .ref q4, .null, .null, .null, .null, .null, .null] rfl inB_X9 tyX9_ok nmX9 (by decide) tw1_210 rfl rfl rfl rfl (Nat.le_of_ble_eq_true rfl) rfl dX9_init_57 rfl ?_
  refine k_aload_n C dX9_init_60 rfl 0 rfl ?_
  refine k_bipush C 8 dX9_init_61 rfl (by decide) ?_
  refine k_newa C (cI := cI) 8 6 312 rfl tw_arrI (by decide) (by decide) (by decide) ⟨rfl, rfl⟩ ⟨by decide, by decide⟩ dX9_init_63 rfl (fun q5 => ?_)
  refine k_putF C 8 [.int 0, .int 0, .int 0, .ref q0, .ref q1, .ref q2, .ref q3, .ref q4, .ref q5, .null, .null, .null, .null, .null] rfl inB_X9 tyX9_ok nmX9 (by decide) tw1_211 rfl rfl rfl rfl (Nat.le_of_ble_eq_true rfl) rfl dX9_init_65 rfl ?_
  refine k_aload_n C dX9_init_68 rfl 0 rfl ?_
  refine k_bipush C 8 dX9_init_69 rfl (by decide) ?_
  refine k_newa C (cI := cI) 8 7 320 rfl tw_arrI (by decide) (by decide) (by decide) ⟨rfl, rfl⟩ ⟨by decide, by decide⟩ dX9_init_71 rfl (fun q6 => ?_)
  refine k_putF C 9 [.int 0, .int 0, .int 0, .ref q0, .ref q1, .ref q2, .ref q3, .ref q4, .ref q5, .ref q6, .null, .null, .null, .null] rfl inB_X9 tyX9_ok nmX9 (by decide) tw1_213 rfl rfl rfl rfl (Nat.le_of_ble_eq_true rfl) rfl dX9_init_73 rfl ?_
  refine k_aload_n C dX9_init_76 rfl 0 rfl ?_
  refine k_bipush C 8 dX9_init_77 rfl (by decide) ?_
  refine k_newa C (cI := cI) 8 8 328 rfl tw_arrI (by decide) (by decide) (by decide) ⟨rfl, rfl⟩ ⟨by decide, by decide⟩ dX9_init_79 rfl (fun q7 => ?_)
  refine k_putF C 10 [.int 0, .int 0, .int 0, .ref q0, .ref q1, .ref q2, .ref q3, .ref q4, .ref q5, .ref q6, .ref q7, .null, .null, .null] rfl inB_X9 tyX9_ok nmX9 (by decide) tw1_215 rfl rfl rfl rfl (Nat.le_of_ble_eq_true rfl) rfl dX9_init_81 rfl ?_
  refine k_aload_n C dX9_init_84 rfl 0 rfl ?_
  refine k_bipush C 8 dX9_init_85 rfl (by decide) ?_
  refine k_newa C (cI := cI) 8 9 336 rfl tw_arrI (by decide) (by decide) (by decide) ⟨rfl, rfl⟩ ⟨by decide, by decide⟩ dX9_init_87 rfl (fun q8 => ?_)
  refine k_putF C 11 [.int 0, .int 0, .int 0, .ref q0, .ref q1, .ref q2, .ref q3, .ref q4, .ref q5, .ref q6, .ref q7, .ref q8, .null, .null] rfl inB_X9 tyX9_ok nmX9 (by decide) tw1_217 rfl rfl rfl rfl (Nat.le_of_ble_eq_true rfl) rfl dX9_init_89 rfl ?_
  refine k_aload_n C dX9_init_92 rfl 0 rfl ?_
  refine k_bipush C 8 dX9_init_93 rfl (by decide) ?_
  refine k_newa C (cI := cI) 8 10 344 rfl tw_arrI (by decide) (by decide) (by decide) ⟨rfl, rfl⟩ ⟨by decide, by decide⟩ dX9_init_95 rfl (fun q9 => ?_)
  refine k_putF C 12 [.int 0, .int 0, .int 0, .ref q0, .ref q1, .ref q2, .ref q3, .ref q4, .ref q5, .ref q6, .ref q7, .ref q8, .ref q9, .null] rfl inB_X9 tyX9_ok nmX9 (by decide) tw1_219 rfl rfl rfl rfl (Nat.le_of_ble_eq_true rfl) rfl dX9_init_97 rfl ?_
  refine k_aload_n C dX9_init_100 rfl 0 rfl ?_
  refine k_iconst C 3 dX9_init_101 rfl (by decide) ?_
  refine k_newa C (cI := cI) 3 11 347 rfl tw_arrI (by decide) (by decide) (by decide) ⟨rfl, rfl⟩ ⟨by decide, by decide⟩ dX9_init_102 rfl (fun q10 => ?_)
  refine k_putF C 13 [.int 0, .int 0, .int 0, .ref q0, .ref q1, .ref q2, .ref q3, .ref q4, .ref q5, .ref q6, .ref q7, .ref q8, .ref q9, .ref q10] rfl inB_X9 tyX9_ok nmX9 (by decide) tw1_221 rfl rfl rfl rfl (Nat.le_of_ble_eq_true rfl) rfl dX9_init_104 rfl ?_
  exact hr _ _ _ _ (fun k => ([q0, q1, q2, q3, q4, q5, q6, q7, q8, q9, q10] : List Nat).getD k 0) dX9_init_107 rfl
theorem kcX9 {l : Launch} (D : va_G) (cI : ClassId) (h0 : Nat) : KC l yX9_init (wB yX9_init cX9_init 1 none) { frames := 1, cells := 11, slots := 347, locals := 12 } D [(cI, .int)] 11 347 h0 9 [.int 0, .int 0, .int 0, .null, .null, .null, .null, .null, .null, .null, .null, .null, .null, .null] [] (kpX9 cI h0) := mk_KC (by decide +kernel) (by decide +kernel) (Nat.le_of_ble_eq_true rfl) (fun X A hX C hr => wkX9 D cI h0 C hr)

def kpX3 (cI : ClassId) (h0 : Nat) (u : Nat → Nat) : va_W := (h0, .inr (3, [.ref (u 0), .ref (u 1), .ref (u 2)])) :: (((([] : va_W) ++ [((u 0), .inl (cI, 2, .inl (fun _ => 0)))]) ++ [((u 1), .inl (cI, 2, .inl (fun _ => 0)))]) ++ [((u 2), .inl (cI, 2, .inl (fun _ => 0)))])
set_option maxRecDepth 40000 in
set_option maxHeartbeats 4000000 in
theorem wkX3 {X : XT} {A : Nat → Prop} (D : va_G) (cI : ClassId) (h0 : Nat) (C : Cy X D [(cI, .int)] A cX3_init 1 RX3 { frames := 1, cells := 3, slots := 6, locals := 12 }) (hr : RetK X D A cX3_init 1 3 6 h0 3 (kpX3 cI h0)) : WK X D A 1 0 0 0 h0 3 [.null, .null, .null] [] [(0, .ref h0)] [] := by
  refine k_aload_n C dX3_init_0 rfl 0 rfl ?_
  refine k_obj C tw2_23 tw1_32 tw1_33 dX3_init_1 rfl ⟨by decide, by decide⟩ ?_
  refine k_aload_n C dX3_init_4 rfl 0 rfl ?_
  refine k_iconst C 2 dX3_init_5 rfl (by decide) ?_
  refine k_newa C (cI := cI) 2 1 2 rfl tw_arrI (by decide) (by decide) (by decide) ⟨rfl, rfl⟩ ⟨by decide, by decide⟩ dX3_init_6 rfl (fun q0 => ?_)
  refine k_putF C 0 [.ref q0, .null, .null] rfl inB_X3 tyX3_ok nmX3 (by decide) tw2_24 rfl rfl rfl rfl (Nat.le_of_ble_eq_true rfl) rfl dX3_init_8 rfl ?_
  refine k_aload_n C dX3_init_11 rfl 0 rfl ?_
  refine k_iconst C 2 dX3_init_12 rfl (by decide) ?_
  refine k_newa C (cI := cI) 2 2 4 rfl tw_arrI (by decide) (by decide) (by decide) ⟨rfl, rfl⟩ ⟨by decide, by decide⟩ dX3_init_13 rfl (fun q1 => ?_)
  refine k_putF C 1 [.ref q0, .ref q1, .null] rfl inB_X3 tyX3_ok nmX3 (by decide) tw2_27 rfl rfl rfl rfl (Nat.le_of_ble_eq_true rfl) rfl dX3_init_15 rfl ?_
  refine k_aload_n C dX3_init_18 rfl 0 rfl ?_
  refine k_iconst C 2 dX3_init_19 rfl (by decide) ?_
  refine k_newa C (cI := cI) 2 3 6 rfl tw_arrI (by decide) (by decide) (by decide) ⟨rfl, rfl⟩ ⟨by decide, by decide⟩ dX3_init_20 rfl (fun q2 => ?_)
  refine k_putF C 2 [.ref q0, .ref q1, .ref q2] rfl inB_X3 tyX3_ok nmX3 (by decide) tw2_30 rfl rfl rfl rfl (Nat.le_of_ble_eq_true rfl) rfl dX3_init_22 rfl ?_
  exact hr _ _ _ _ (fun k => ([q0, q1, q2] : List Nat).getD k 0) dX3_init_25 rfl
theorem kcX3 {l : Launch} (D : va_G) (cI : ClassId) (h0 : Nat) : KC l yX3_init (wB yX3_init cX3_init 1 none) { frames := 1, cells := 3, slots := 6, locals := 12 } D [(cI, .int)] 3 6 h0 3 [.null, .null, .null] [] (kpX3 cI h0) := mk_KC (by decide +kernel) (by decide +kernel) (Nat.le_of_ble_eq_true rfl) (fun X A hX C hr => wkX3 D cI h0 C hr)

def kpX2 (cI : ClassId) (h0 b0 : Nat) (u : Nat → Nat) : va_W := (h0, .inr (2, [.ref b0, .ref (u 0), .ref (u 4), .int 0, .int 0, .int 0, .int 0])) :: ((([] : va_W) ++ kpX3 cI (u 0) (fun k => u (1 + k))) ++ [((u 4), .inl (cI, 10, .inl (fun _ => 0)))])
set_option maxRecDepth 40000 in
set_option maxHeartbeats 4000000 in
theorem wkX2 {X : XT} {A : Nat → Prop} (D : va_G) (cI : ClassId) (h0 b0 : Nat) (C : Cy X D [(cI, .int)] A cX2_init 2 RX2 { frames := 2, cells := 5, slots := 19, locals := 32 }) (hr : RetK X D A cX2_init 2 5 19 h0 2 (kpX2 cI h0 b0)) : WK X D A 2 0 0 0 h0 2 [.null, .null, .null, .int 0, .int 0, .int 0, .int 0] [] [(0, .ref h0), (1, .ref b0)] [] := by
  refine k_aload_n C dX2_init_0 rfl 0 rfl ?_
  refine k_obj C tw2_17 tw1_32 tw1_33 dX2_init_1 rfl ⟨by decide, by decide⟩ ?_
  refine k_aload_n C dX2_init_4 rfl 0 rfl ?_
  refine k_new (c2 := 1) (s2 := 3) (cj := 3) C [.null, .null, .null] rfl inB_X3 tyX3_ok kdef_X3 tw2_18 inst_X3 tw1_7 ⟨rfl, rfl⟩ ⟨by decide, by decide⟩ dX2_init_5 rfl (fun q0 => ?_)
  refine k_dup C rfl dX2_init_8 rfl ?_
  refine k_call (index := 11) (n := 0) (As := []) (st := [.ref q0, .ref h0]) (c2 := 4) (s2 := 9) C (kcX3 D cI q0) (Or.inr ⟨RX10, by decide⟩) ki_X3 (by decide +kernel) (by decide +kernel) ⟨rfl, rfl⟩ ⟨by decide, by decide⟩ ⟨rfl, rfl⟩ ⟨by decide, by decide⟩ rfl rfl (Nat.le_of_ble_eq_true rfl) dX2_init_9 rfl (fun w1 => ?_)
  refine k_putF C 1 [.null, .ref q0, .null, .int 0, .int 0, .int 0, .int 0] rfl inB_X2 tyX2_ok nmX2 (by decide) tw2_40 rfl rfl rfl rfl (Nat.le_of_ble_eq_true rfl) rfl dX2_init_12 rfl ?_
  refine k_aload_n C dX2_init_15 rfl 0 rfl ?_
  refine k_bipush C 10 dX2_init_16 rfl (by decide) ?_
  refine k_newa C (cI := cI) 10 5 19 rfl tw_arrI (by decide) (by decide) (by decide) ⟨rfl, rfl⟩ ⟨by decide, by decide⟩ dX2_init_18 rfl (fun q2 => ?_)
  refine k_putF C 2 [.null, .ref q0, .ref q2, .int 0, .int 0, .int 0, .int 0] rfl inB_X2 tyX2_ok nmX2 (by decide) tw2_43 rfl rfl rfl rfl (Nat.le_of_ble_eq_true rfl) rfl dX2_init_20 rfl ?_
  refine k_aload_n C dX2_init_23 rfl 0 rfl ?_
  refine k_iconst C 0 dX2_init_24 rfl (by decide) ?_
  refine k_put C 3 [.null, .ref q0, .ref q2, .int 0, .int 0, .int 0, .int 0] rfl inB_X2 tyX2_ok nmX2 (by decide) tw2_45 rfl rfl rfl (Nat.le_of_ble_eq_true rfl) rfl dX2_init_25 rfl ?_
  refine k_aload_n C dX2_init_28 rfl 0 rfl ?_
  refine k_iconst C 0 dX2_init_29 rfl (by decide) ?_
  refine k_put C 4 [.null, .ref q0, .ref q2, .int 0, .int 0, .int 0, .int 0] rfl inB_X2 tyX2_ok nmX2 (by decide) tw2_47 rfl rfl rfl (Nat.le_of_ble_eq_true rfl) rfl dX2_init_30 rfl ?_
  refine k_aload_n C dX2_init_33 rfl 0 rfl ?_
  refine k_iconst C 0 dX2_init_34 rfl (by decide) ?_
  refine k_put C 5 [.null, .ref q0, .ref q2, .int 0, .int 0, .int 0, .int 0] rfl inB_X2 tyX2_ok nmX2 (by decide) tw2_49 rfl rfl rfl (Nat.le_of_ble_eq_true rfl) rfl dX2_init_35 rfl ?_
  refine k_aload_n C dX2_init_38 rfl 0 rfl ?_
  refine k_iconst C 0 dX2_init_39 rfl (by decide) ?_
  refine k_put C 6 [.null, .ref q0, .ref q2, .int 0, .int 0, .int 0, .int 0] rfl inB_X2 tyX2_ok nmX2 (by decide) tw2_50 rfl rfl rfl (Nat.le_of_ble_eq_true rfl) rfl dX2_init_40 rfl ?_
  refine k_aload_n C dX2_init_43 rfl 0 rfl ?_
  refine k_aload_n C dX2_init_44 rfl 1 rfl ?_
  refine k_putF C 0 [.ref b0, .ref q0, .ref q2, .int 0, .int 0, .int 0, .int 0] rfl inB_X2 tyX2_ok nmX2 (by decide) tw2_39 rfl rfl rfl rfl (Nat.le_of_ble_eq_true rfl) rfl dX2_init_45 rfl ?_
  exact hr _ _ _ _ (fun k => ([q0, (w1 0), (w1 1), (w1 2), q2] : List Nat).getD k 0) dX2_init_48 rfl
theorem kcX2 {l : Launch} (D : va_G) (cI : ClassId) (h0 b0 : Nat) : KC l yX2_init (wB yX2_init cX2_init 2 none) { frames := 2, cells := 5, slots := 19, locals := 32 } D [(cI, .int)] 5 19 h0 2 [.null, .null, .null, .int 0, .int 0, .int 0, .int 0] [.ref b0] (kpX2 cI h0 b0) := mk_KC (by decide +kernel) (by decide +kernel) (Nat.le_of_ble_eq_true rfl) (fun X A hX C hr => wkX2 D cI h0 b0 C hr)

def kpX5 (cI : ClassId) (h0 b0 b1 : Nat) (u : Nat → Nat) : va_W := (h0, .inr (5, [.ref b0, .ref b1, .ref (u 0), .ref (u 4), .int 0, .int (-1)])) :: ((([] : va_W) ++ kpX3 cI (u 0) (fun k => u (1 + k))) ++ kpX3 cI (u 4) (fun k => u (5 + k)))
set_option maxRecDepth 40000 in
set_option maxHeartbeats 4000000 in
theorem wkX5 {X : XT} {A : Nat → Prop} (D : va_G) (cI : ClassId) (h0 b0 b1 : Nat) (C : Cy X D [(cI, .int)] A cX5_init 3 RX5 { frames := 2, cells := 8, slots := 18, locals := 32 }) (hr : RetK X D A cX5_init 3 8 18 h0 5 (kpX5 cI h0 b0 b1)) : WK X D A 3 0 0 0 h0 5 [.null, .null, .null, .null, .int 0, .int 0] [] [(0, .ref h0), (1, .ref b0), (2, .ref b1)] [] := by
  refine k_aload_n C dX5_init_0 rfl 0 rfl ?_
  refine k_obj C tw2_71 tw1_32 tw1_33 dX5_init_1 rfl ⟨by decide, by decide⟩ ?_
  refine k_aload_n C dX5_init_4 rfl 0 rfl ?_
  refine k_new (c2 := 1) (s2 := 3) (cj := 3) C [.null, .null, .null] rfl inB_X3 tyX3_ok kdef_X3 tw2_72 inst_X3 tw1_7 ⟨rfl, rfl⟩ ⟨by decide, by decide⟩ dX5_init_5 rfl (fun q0 => ?_)
  refine k_dup C rfl dX5_init_8 rfl ?_
  refine k_call (index := 11) (n := 0) (As := []) (st := [.ref q0, .ref h0]) (c2 := 4) (s2 := 9) C (kcX3 D cI q0) (Or.inr ⟨RX10, by decide⟩) ki_X3 (by decide +kernel) (by decide +kernel) ⟨rfl, rfl⟩ ⟨by decide, by decide⟩ ⟨rfl, rfl⟩ ⟨by decide, by decide⟩ rfl rfl (Nat.le_of_ble_eq_true rfl) dX5_init_9 rfl (fun w1 => ?_)
  refine k_putF C 2 [.null, .null, .ref q0, .null, .int 0, .int 0] rfl inB_X5 tyX5_ok nmX5 (by decide) tw2_76 rfl rfl rfl rfl (Nat.le_of_ble_eq_true rfl) rfl dX5_init_12 rfl ?_
  refine k_aload_n C dX5_init_15 rfl 0 rfl ?_
  refine k_new (c2 := 5) (s2 := 12) (cj := 3) C [.null, .null, .null] rfl inB_X3 tyX3_ok kdef_X3 tw2_72 inst_X3 tw1_7 ⟨rfl, rfl⟩ ⟨by decide, by decide⟩ dX5_init_16 rfl (fun q2 => ?_)
  refine k_dup C rfl dX5_init_19 rfl ?_
  refine k_call (index := 11) (n := 0) (As := []) (st := [.ref q2, .ref h0]) (c2 := 8) (s2 := 18) C (kcX3 D cI q2) (Or.inr ⟨RX10, by decide⟩) ki_X3 (by decide +kernel) (by decide +kernel) ⟨rfl, rfl⟩ ⟨by decide, by decide⟩ ⟨rfl, rfl⟩ ⟨by decide, by decide⟩ rfl rfl (Nat.le_of_ble_eq_true rfl) dX5_init_20 rfl (fun w3 => ?_)
  refine k_putF C 3 [.null, .null, .ref q0, .ref q2, .int 0, .int 0] rfl inB_X5 tyX5_ok nmX5 (by decide) tw2_77 rfl rfl rfl rfl (Nat.le_of_ble_eq_true rfl) rfl dX5_init_23 rfl ?_
  refine k_aload_n C dX5_init_26 rfl 0 rfl ?_
  refine k_iconst C 0 dX5_init_27 rfl (by decide) ?_
  refine k_put C 4 [.null, .null, .ref q0, .ref q2, .int 0, .int 0] rfl inB_X5 tyX5_ok nmX5 (by decide) tw2_78 rfl rfl rfl (Nat.le_of_ble_eq_true rfl) rfl dX5_init_28 rfl ?_
  refine k_aload_n C dX5_init_31 rfl 0 rfl ?_
  refine k_iconst C (-1) dX5_init_32 rfl (by decide) ?_
  refine k_put C 5 [.null, .null, .ref q0, .ref q2, .int 0, .int (-1)] rfl inB_X5 tyX5_ok nmX5 (by decide) tw2_80 rfl rfl rfl (Nat.le_of_ble_eq_true rfl) rfl dX5_init_33 rfl ?_
  refine k_aload_n C dX5_init_36 rfl 0 rfl ?_
  refine k_aload_n C dX5_init_37 rfl 1 rfl ?_
  refine k_putF C 0 [.ref b0, .null, .ref q0, .ref q2, .int 0, .int (-1)] rfl inB_X5 tyX5_ok nmX5 (by decide) tw2_74 rfl rfl rfl rfl (Nat.le_of_ble_eq_true rfl) rfl dX5_init_38 rfl ?_
  refine k_aload_n C dX5_init_41 rfl 0 rfl ?_
  refine k_aload_n C dX5_init_42 rfl 2 rfl ?_
  refine k_putF C 1 [.ref b0, .ref b1, .ref q0, .ref q2, .int 0, .int (-1)] rfl inB_X5 tyX5_ok nmX5 (by decide) tw2_75 rfl rfl rfl rfl (Nat.le_of_ble_eq_true rfl) rfl dX5_init_43 rfl ?_
  exact hr _ _ _ _ (fun k => ([q0, (w1 0), (w1 1), (w1 2), q2, (w3 0), (w3 1), (w3 2)] : List Nat).getD k 0) dX5_init_46 rfl
theorem kcX5 {l : Launch} (D : va_G) (cI : ClassId) (h0 b0 b1 : Nat) : KC l yX5_init (wB yX5_init cX5_init 3 none) { frames := 2, cells := 8, slots := 18, locals := 32 } D [(cI, .int)] 8 18 h0 5 [.null, .null, .null, .null, .int 0, .int 0] [.ref b0, .ref b1] (kpX5 cI h0 b0 b1) := mk_KC (by decide +kernel) (by decide +kernel) (Nat.le_of_ble_eq_true rfl) (fun X A hX C hr => wkX5 D cI h0 b0 b1 C hr)

def kpX6 (cI : ClassId) (h0 b0 b1 : Nat) (u : Nat → Nat) : va_W := (h0, .inr (6, [.ref b0, .ref b1, .ref (u 0), .ref (u 1), .int 0, .int (-1)])) :: ((([] : va_W) ++ [((u 0), .inl (cI, 6, .inl (fun _ => 0)))]) ++ [((u 1), .inl (cI, 128, .inl (fun _ => 0)))])
set_option maxRecDepth 40000 in
set_option maxHeartbeats 4000000 in
theorem wkX6 {X : XT} {A : Nat → Prop} (D : va_G) (cI : ClassId) (h0 b0 b1 : Nat) (C : Cy X D [(cI, .int)] A cX6_init 3 RX6 { frames := 1, cells := 2, slots := 134, locals := 12 }) (hr : RetK X D A cX6_init 3 2 134 h0 6 (kpX6 cI h0 b0 b1)) : WK X D A 3 0 0 0 h0 6 [.null, .null, .null, .null, .int 0, .int 0] [] [(0, .ref h0), (1, .ref b0), (2, .ref b1)] [] := by
  refine k_aload_n C dX6_init_0 rfl 0 rfl ?_
  refine k_obj C tw2_100 tw1_32 tw1_33 dX6_init_1 rfl ⟨by decide, by decide⟩ ?_
  refine k_aload_n C dX6_init_4 rfl 0 rfl ?_
  refine k_bipush C 6 dX6_init_5 rfl (by decide) ?_
  refine k_newa C (cI := cI) 6 1 6 rfl tw_arrI (by decide) (by decide) (by decide) ⟨rfl, rfl⟩ ⟨by decide, by decide⟩ dX6_init_7 rfl (fun q0 => ?_)
  refine k_putF C 2 [.null, .null, .ref q0, .null, .int 0, .int 0] rfl inB_X6 tyX6_ok nmX6 (by decide) tw2_103 rfl rfl rfl rfl (Nat.le_of_ble_eq_true rfl) rfl dX6_init_9 rfl ?_
  refine k_aload_n C dX6_init_12 rfl 0 rfl ?_
  refine k_sipush C 128 dX6_init_13 rfl (by decide) ?_
  refine k_newa C (cI := cI) 128 2 134 rfl tw_arrI (by decide) (by decide) (by decide) ⟨rfl, rfl⟩ ⟨by decide, by decide⟩ dX6_init_16 rfl (fun q1 => ?_)
  refine k_putF C 3 [.null, .null, .ref q0, .ref q1, .int 0, .int 0] rfl inB_X6 tyX6_ok nmX6 (by decide) tw2_104 rfl rfl rfl rfl (Nat.le_of_ble_eq_true rfl) rfl dX6_init_18 rfl ?_
  refine k_aload_n C dX6_init_21 rfl 0 rfl ?_
  refine k_iconst C 0 dX6_init_22 rfl (by decide) ?_
  refine k_put C 4 [.null, .null, .ref q0, .ref q1, .int 0, .int 0] rfl inB_X6 tyX6_ok nmX6 (by decide) tw2_105 rfl rfl rfl (Nat.le_of_ble_eq_true rfl) rfl dX6_init_23 rfl ?_
  refine k_aload_n C dX6_init_26 rfl 0 rfl ?_
  refine k_iconst C (-1) dX6_init_27 rfl (by decide) ?_
  refine k_put C 5 [.null, .null, .ref q0, .ref q1, .int 0, .int (-1)] rfl inB_X6 tyX6_ok nmX6 (by decide) tw2_107 rfl rfl rfl (Nat.le_of_ble_eq_true rfl) rfl dX6_init_28 rfl ?_
  refine k_aload_n C dX6_init_31 rfl 0 rfl ?_
  refine k_aload_n C dX6_init_32 rfl 1 rfl ?_
  refine k_putF C 0 [.ref b0, .null, .ref q0, .ref q1, .int 0, .int (-1)] rfl inB_X6 tyX6_ok nmX6 (by decide) tw2_101 rfl rfl rfl rfl (Nat.le_of_ble_eq_true rfl) rfl dX6_init_33 rfl ?_
  refine k_aload_n C dX6_init_36 rfl 0 rfl ?_
  refine k_aload_n C dX6_init_37 rfl 2 rfl ?_
  refine k_putF C 1 [.ref b0, .ref b1, .ref q0, .ref q1, .int 0, .int (-1)] rfl inB_X6 tyX6_ok nmX6 (by decide) tw2_102 rfl rfl rfl rfl (Nat.le_of_ble_eq_true rfl) rfl dX6_init_38 rfl ?_
  exact hr _ _ _ _ (fun k => ([q0, q1] : List Nat).getD k 0) dX6_init_41 rfl
theorem kcX6 {l : Launch} (D : va_G) (cI : ClassId) (h0 b0 b1 : Nat) : KC l yX6_init (wB yX6_init cX6_init 3 none) { frames := 1, cells := 2, slots := 134, locals := 12 } D [(cI, .int)] 2 134 h0 6 [.null, .null, .null, .null, .int 0, .int 0] [.ref b0, .ref b1] (kpX6 cI h0 b0 b1) := mk_KC (by decide +kernel) (by decide +kernel) (Nat.le_of_ble_eq_true rfl) (fun X A hX C hr => wkX6 D cI h0 b0 b1 C hr)

def kpX1 (cI : ClassId) (h0 b0 b1 : Nat) (u : Nat → Nat) : va_W := (h0, .inr (1, [.ref b0, .ref b1, .ref (u 0), .ref (u 1)])) :: ((([] : va_W) ++ [((u 0), .inl (cI, 8, .inl (fun _ => 0)))]) ++ [((u 1), .inl (cI, 256, .inl (fun _ => 0)))])
set_option maxRecDepth 40000 in
set_option maxHeartbeats 4000000 in
theorem wkX1 {X : XT} {A : Nat → Prop} (D : va_G) (cI : ClassId) (h0 b0 b1 : Nat) (C : Cy X D [(cI, .int)] A cX1_init 3 RX1 { frames := 1, cells := 2, slots := 264, locals := 12 }) (hr : RetK X D A cX1_init 3 2 264 h0 1 (kpX1 cI h0 b0 b1)) : WK X D A 3 0 0 0 h0 1 [.null, .null, .null, .null] [] [(0, .ref h0), (1, .ref b0), (2, .ref b1)] [] := by
  refine k_aload_n C dX1_init_0 rfl 0 rfl ?_
  refine k_obj C tw2_127 tw1_32 tw1_33 dX1_init_1 rfl ⟨by decide, by decide⟩ ?_
  refine k_aload_n C dX1_init_4 rfl 0 rfl ?_
  refine k_bipush C 8 dX1_init_5 rfl (by decide) ?_
  refine k_newa C (cI := cI) 8 1 8 rfl tw_arrI (by decide) (by decide) (by decide) ⟨rfl, rfl⟩ ⟨by decide, by decide⟩ dX1_init_7 rfl (fun q0 => ?_)
  refine k_putF C 2 [.null, .null, .ref q0, .null] rfl inB_X1 tyX1_ok nmX1 (by decide) tw2_130 rfl rfl rfl rfl (Nat.le_of_ble_eq_true rfl) rfl dX1_init_9 rfl ?_
  refine k_aload_n C dX1_init_12 rfl 0 rfl ?_
  refine k_sipush C 256 dX1_init_13 rfl (by decide) ?_
  refine k_newa C (cI := cI) 256 2 264 rfl tw_arrI (by decide) (by decide) (by decide) ⟨rfl, rfl⟩ ⟨by decide, by decide⟩ dX1_init_16 rfl (fun q1 => ?_)
  refine k_putF C 3 [.null, .null, .ref q0, .ref q1] rfl inB_X1 tyX1_ok nmX1 (by decide) tw2_131 rfl rfl rfl rfl (Nat.le_of_ble_eq_true rfl) rfl dX1_init_18 rfl ?_
  refine k_aload_n C dX1_init_21 rfl 0 rfl ?_
  refine k_aload_n C dX1_init_22 rfl 1 rfl ?_
  refine k_putF C 0 [.ref b0, .null, .ref q0, .ref q1] rfl inB_X1 tyX1_ok nmX1 (by decide) tw2_128 rfl rfl rfl rfl (Nat.le_of_ble_eq_true rfl) rfl dX1_init_23 rfl ?_
  refine k_aload_n C dX1_init_26 rfl 0 rfl ?_
  refine k_aload_n C dX1_init_27 rfl 2 rfl ?_
  refine k_putF C 1 [.ref b0, .ref b1, .ref q0, .ref q1] rfl inB_X1 tyX1_ok nmX1 (by decide) tw2_129 rfl rfl rfl rfl (Nat.le_of_ble_eq_true rfl) rfl dX1_init_28 rfl ?_
  exact hr _ _ _ _ (fun k => ([q0, q1] : List Nat).getD k 0) dX1_init_31 rfl
theorem kcX1 {l : Launch} (D : va_G) (cI : ClassId) (h0 b0 b1 : Nat) : KC l yX1_init (wB yX1_init cX1_init 3 none) { frames := 1, cells := 2, slots := 264, locals := 12 } D [(cI, .int)] 2 264 h0 1 [.null, .null, .null, .null] [.ref b0, .ref b1] (kpX1 cI h0 b0 b1) := mk_KC (by decide +kernel) (by decide +kernel) (Nat.le_of_ble_eq_true rfl) (fun X A hX C hr => wkX1 D cI h0 b0 b1 C hr)

def kpX4 (cI : ClassId) (h0 b0 b1 b2 : Nat) (u : Nat → Nat) : va_W := (h0, .inr (4, [.ref b0, .ref b1, .ref b2, .int 0, .int 0, .int 0, .int 0])) :: ([] : va_W)
set_option maxRecDepth 40000 in
set_option maxHeartbeats 4000000 in
theorem wkX4 {X : XT} {A : Nat → Prop} (D : va_G) (cI : ClassId) (h0 b0 b1 b2 : Nat) (C : Cy X D [(cI, .int)] A cX4_init 4 RX4 { frames := 1, cells := 0, slots := 0, locals := 12 }) (hr : RetK X D A cX4_init 4 0 0 h0 4 (kpX4 cI h0 b0 b1 b2)) : WK X D A 4 0 0 0 h0 4 [.null, .null, .null, .int 0, .int 0, .int 0, .int 0] [] [(0, .ref h0), (1, .ref b0), (2, .ref b1), (3, .ref b2)] [] := by
  refine k_aload_n C dX4_init_0 rfl 0 rfl ?_
  refine k_obj C tw2_146 tw1_32 tw1_33 dX4_init_1 rfl ⟨by decide, by decide⟩ ?_
  refine k_aload_n C dX4_init_4 rfl 0 rfl ?_
  refine k_iconst C 0 dX4_init_5 rfl (by decide) ?_
  refine k_put C 3 [.null, .null, .null, .int 0, .int 0, .int 0, .int 0] rfl inB_X4 tyX4_ok nmX4 (by decide) tw2_150 rfl rfl rfl (Nat.le_of_ble_eq_true rfl) rfl dX4_init_6 rfl ?_
  refine k_aload_n C dX4_init_9 rfl 0 rfl ?_
  refine k_iconst C 0 dX4_init_10 rfl (by decide) ?_
  refine k_put C 4 [.null, .null, .null, .int 0, .int 0, .int 0, .int 0] rfl inB_X4 tyX4_ok nmX4 (by decide) tw2_151 rfl rfl rfl (Nat.le_of_ble_eq_true rfl) rfl dX4_init_11 rfl ?_
  refine k_aload_n C dX4_init_14 rfl 0 rfl ?_
  refine k_iconst C 0 dX4_init_15 rfl (by decide) ?_
  refine k_put C 5 [.null, .null, .null, .int 0, .int 0, .int 0, .int 0] rfl inB_X4 tyX4_ok nmX4 (by decide) tw2_153 rfl rfl rfl (Nat.le_of_ble_eq_true rfl) rfl dX4_init_16 rfl ?_
  refine k_aload_n C dX4_init_19 rfl 0 rfl ?_
  refine k_iconst C 0 dX4_init_20 rfl (by decide) ?_
  refine k_put C 6 [.null, .null, .null, .int 0, .int 0, .int 0, .int 0] rfl inB_X4 tyX4_ok nmX4 (by decide) tw2_155 rfl rfl rfl (Nat.le_of_ble_eq_true rfl) rfl dX4_init_21 rfl ?_
  refine k_aload_n C dX4_init_24 rfl 0 rfl ?_
  refine k_aload_n C dX4_init_25 rfl 1 rfl ?_
  refine k_putF C 0 [.ref b0, .null, .null, .int 0, .int 0, .int 0, .int 0] rfl inB_X4 tyX4_ok nmX4 (by decide) tw2_147 rfl rfl rfl rfl (Nat.le_of_ble_eq_true rfl) rfl dX4_init_26 rfl ?_
  refine k_aload_n C dX4_init_29 rfl 0 rfl ?_
  refine k_aload_n C dX4_init_30 rfl 2 rfl ?_
  refine k_putF C 1 [.ref b0, .ref b1, .null, .int 0, .int 0, .int 0, .int 0] rfl inB_X4 tyX4_ok nmX4 (by decide) tw2_148 rfl rfl rfl rfl (Nat.le_of_ble_eq_true rfl) rfl dX4_init_31 rfl ?_
  refine k_aload_n C dX4_init_34 rfl 0 rfl ?_
  refine k_aload_n C dX4_init_35 rfl 3 rfl ?_
  refine k_putF C 2 [.ref b0, .ref b1, .ref b2, .int 0, .int 0, .int 0, .int 0] rfl inB_X4 tyX4_ok nmX4 (by decide) tw2_149 rfl rfl rfl rfl (Nat.le_of_ble_eq_true rfl) rfl dX4_init_36 rfl ?_
  exact hr _ _ _ _ (fun k => ([] : List Nat).getD k 0) dX4_init_39 rfl
theorem kcX4 {l : Launch} (D : va_G) (cI : ClassId) (h0 b0 b1 b2 : Nat) : KC l yX4_init (wB yX4_init cX4_init 4 none) { frames := 1, cells := 0, slots := 0, locals := 12 } D [(cI, .int)] 0 0 h0 4 [.null, .null, .null, .int 0, .int 0, .int 0, .int 0] [.ref b0, .ref b1, .ref b2] (kpX4 cI h0 b0 b1 b2) := mk_KC (by decide +kernel) (by decide +kernel) (Nat.le_of_ble_eq_true rfl) (fun X A hX C hr => wkX4 D cI h0 b0 b1 b2 C hr)

def kpX10 (cI : ClassId) (h0 : Nat) (u : Nat → Nat) : va_W := (h0, .inr (10, [.ref (u 0), .int 0, .int (-1), .int 0, .ref (u 1), .ref (u 14), .ref (u 27), .ref (u 29), .ref (u 41), .ref (u 53), .ref (u 65), .ref (u 71), .ref (u 80), .ref (u 83), .ref (u 86)])) :: ((((((((((((([] : va_W) ++ [((u 0), .inl (cI, 700, .inl (fun _ => 0)))]) ++ kpX0 cI (u 1) (fun k => u (2 + k))) ++ kpX0 cI (u 14) (fun k => u (15 + k))) ++ kpX7 cI (u 27) (u 14) (fun k => u (28 + k))) ++ kpX9 cI (u 29) (fun k => u (30 + k))) ++ kpX9 cI (u 41) (fun k => u (42 + k))) ++ kpX9 cI (u 53) (fun k => u (54 + k))) ++ kpX2 cI (u 65) (u 1) (fun k => u (66 + k))) ++ kpX5 cI (u 71) (u 1) (u 65) (fun k => u (72 + k))) ++ kpX6 cI (u 80) (u 1) (u 29) (fun k => u (81 + k))) ++ kpX1 cI (u 83) (u 1) (u 80) (fun k => u (84 + k))) ++ kpX4 cI (u 86) (u 1) (u 53) (u 65) (fun k => u (87 + k)))
set_option maxRecDepth 40000 in
set_option maxHeartbeats 4000000 in
theorem wkX10 {X : XT} {A : Nat → Prop} (D : va_G) (cI : ClassId) (h0 : Nat) (C : Cy X D [(cI, .int)] A cX10_init 1 RX10 { frames := 3, cells := 87, slots := 4488, locals := 54 }) (hr : RetK X D A cX10_init 1 87 4488 h0 10 (kpX10 cI h0)) : WK X D A 1 0 0 0 h0 10 [.null, .int 0, .int 0, .int 0, .null, .null, .null, .null, .null, .null, .null, .null, .null, .null, .null] [] [(0, .ref h0)] [] := by
  refine k_aload_n C dX10_init_0 rfl 0 rfl ?_
  refine k_obj C tw1_31 tw1_32 tw1_33 dX10_init_1 rfl ⟨by decide, by decide⟩ ?_
  refine k_aload_n C dX10_init_4 rfl 0 rfl ?_
  refine k_sipush C 700 dX10_init_5 rfl (by decide) ?_
  refine k_newa C (cI := cI) 700 1 700 rfl tw_arrI (by decide) (by decide) (by decide) ⟨rfl, rfl⟩ ⟨by decide, by decide⟩ dX10_init_8 rfl (fun q0 => ?_)
  refine k_putF C 0 [.ref q0, .int 0, .int 0, .int 0, .null, .null, .null, .null, .null, .null, .null, .null, .null, .null, .null] rfl inB_X10 tyX10_ok nmX10 (by decide) tw2_172 rfl rfl rfl rfl (Nat.le_of_ble_eq_true rfl) rfl dX10_init_10 rfl ?_
  refine k_aload_n C dX10_init_13 rfl 0 rfl ?_
  refine k_iconst C 0 dX10_init_14 rfl (by decide) ?_
  refine k_put C 1 [.ref q0, .int 0, .int 0, .int 0, .null, .null, .null, .null, .null, .null, .null, .null, .null, .null, .null] rfl inB_X10 tyX10_ok nmX10 (by decide) tw2_173 rfl rfl rfl (Nat.le_of_ble_eq_true rfl) rfl dX10_init_15 rfl ?_
  refine k_aload_n C dX10_init_18 rfl 0 rfl ?_
  refine k_iconst C (-1) dX10_init_19 rfl (by decide) ?_
  refine k_put C 2 [.ref q0, .int 0, .int (-1), .int 0, .null, .null, .null, .null, .null, .null, .null, .null, .null, .null, .null] rfl inB_X10 tyX10_ok nmX10 (by decide) tw2_174 rfl rfl rfl (Nat.le_of_ble_eq_true rfl) rfl dX10_init_20 rfl ?_
  refine k_aload_n C dX10_init_23 rfl 0 rfl ?_
  refine k_iconst C 0 dX10_init_24 rfl (by decide) ?_
  refine k_put C 3 [.ref q0, .int 0, .int (-1), .int 0, .null, .null, .null, .null, .null, .null, .null, .null, .null, .null, .null] rfl inB_X10 tyX10_ok nmX10 (by decide) tw2_175 rfl rfl rfl (Nat.le_of_ble_eq_true rfl) rfl dX10_init_25 rfl ?_
  refine k_aload_n C dX10_init_28 rfl 0 rfl ?_
  refine k_new (c2 := 2) (s2 := 715) (cj := 0) C [.int 0, .int 0, .int 0, .int 0, .int 0, .null, .null, .null, .null, .null, .null, .null, .null, .null, .null] rfl inB_X0 tyX0_ok kdef_X0 tw1_34 inst_X0 tw1_2 ⟨rfl, rfl⟩ ⟨by decide, by decide⟩ dX10_init_29 rfl (fun q1 => ?_)
  refine k_dup C rfl dX10_init_32 rfl ?_
  refine k_call (index := 26) (n := 0) (As := []) (st := [.ref q1, .ref h0]) (c2 := 14) (s2 := 1816) C (kcX0 D cI q1) (Or.inr ⟨RX10, by decide⟩) ki_X0 (by decide +kernel) (by decide +kernel) ⟨rfl, rfl⟩ ⟨by decide, by decide⟩ ⟨rfl, rfl⟩ ⟨by decide, by decide⟩ rfl rfl (Nat.le_of_ble_eq_true rfl) dX10_init_33 rfl (fun w2 => ?_)
  refine k_putF C 4 [.ref q0, .int 0, .int (-1), .int 0, .ref q1, .null, .null, .null, .null, .null, .null, .null, .null, .null, .null] rfl inB_X10 tyX10_ok nmX10 (by decide) tw2_176 rfl rfl rfl rfl (Nat.le_of_ble_eq_true rfl) rfl dX10_init_36 rfl ?_
  refine k_aload_n C dX10_init_39 rfl 0 rfl ?_
  refine k_new (c2 := 15) (s2 := 1831) (cj := 0) C [.int 0, .int 0, .int 0, .int 0, .int 0, .null, .null, .null, .null, .null, .null, .null, .null, .null, .null] rfl inB_X0 tyX0_ok kdef_X0 tw1_34 inst_X0 tw1_2 ⟨rfl, rfl⟩ ⟨by decide, by decide⟩ dX10_init_40 rfl (fun q3 => ?_)
  refine k_dup C rfl dX10_init_43 rfl ?_
  refine k_call (index := 26) (n := 0) (As := []) (st := [.ref q3, .ref h0]) (c2 := 27) (s2 := 2932) C (kcX0 D cI q3) (Or.inr ⟨RX10, by decide⟩) ki_X0 (by decide +kernel) (by decide +kernel) ⟨rfl, rfl⟩ ⟨by decide, by decide⟩ ⟨rfl, rfl⟩ ⟨by decide, by decide⟩ rfl rfl (Nat.le_of_ble_eq_true rfl) dX10_init_44 rfl (fun w4 => ?_)
  refine k_putF C 5 [.ref q0, .int 0, .int (-1), .int 0, .ref q1, .ref q3, .null, .null, .null, .null, .null, .null, .null, .null, .null] rfl inB_X10 tyX10_ok nmX10 (by decide) tw2_177 rfl rfl rfl rfl (Nat.le_of_ble_eq_true rfl) rfl dX10_init_47 rfl ?_
  refine k_aload_n C dX10_init_50 rfl 0 rfl ?_
  refine k_new (c2 := 28) (s2 := 2940) (cj := 7) C [.null, .null, .int 0, .int 0, .int 0, .int 0, .int 0, .int 0] rfl inB_X7 tyX7_ok kdef_X7 tw1_150 inst_X7 tw1_4 ⟨rfl, rfl⟩ ⟨by decide, by decide⟩ dX10_init_51 rfl (fun q5 => ?_)
  refine k_dup C rfl dX10_init_54 rfl ?_
  refine k_aload_n C dX10_init_55 rfl 0 rfl ?_
  refine k_get C 5 rfl inB_X10 (by decide) tw2_177 rfl dX10_init_56 rfl ?_
  refine k_call (index := 36) (n := 1) (As := [.ref q3]) (st := [.ref q5, .ref h0]) (c2 := 29) (s2 := 2940) C (kcX7 D cI q5 q3) (Or.inl tw1_152) ki_X7 (by decide +kernel) (by decide +kernel) ⟨rfl, rfl⟩ ⟨by decide, by decide⟩ ⟨rfl, rfl⟩ ⟨by decide, by decide⟩ rfl rfl (Nat.le_of_ble_eq_true rfl) dX10_init_59 rfl (fun w6 => ?_)
  refine k_putF C 6 [.ref q0, .int 0, .int (-1), .int 0, .ref q1, .ref q3, .ref q5, .null, .null, .null, .null, .null, .null, .null, .null] rfl inB_X10 tyX10_ok nmX10 (by decide) tw2_178 rfl rfl rfl rfl (Nat.le_of_ble_eq_true rfl) rfl dX10_init_62 rfl ?_
  refine k_aload_n C dX10_init_65 rfl 0 rfl ?_
  refine k_new (c2 := 30) (s2 := 2954) (cj := 9) C [.int 0, .int 0, .int 0, .null, .null, .null, .null, .null, .null, .null, .null, .null, .null, .null] rfl inB_X9 tyX9_ok kdef_X9 tw1_183 inst_X9 tw1_5 ⟨rfl, rfl⟩ ⟨by decide, by decide⟩ dX10_init_66 rfl (fun q7 => ?_)
  refine k_dup C rfl dX10_init_69 rfl ?_
  refine k_call (index := 45) (n := 0) (As := []) (st := [.ref q7, .ref h0]) (c2 := 41) (s2 := 3301) C (kcX9 D cI q7) (Or.inr ⟨RX10, by decide⟩) ki_X9 (by decide +kernel) (by decide +kernel) ⟨rfl, rfl⟩ ⟨by decide, by decide⟩ ⟨rfl, rfl⟩ ⟨by decide, by decide⟩ rfl rfl (Nat.le_of_ble_eq_true rfl) dX10_init_70 rfl (fun w8 => ?_)
  refine k_putF C 7 [.ref q0, .int 0, .int (-1), .int 0, .ref q1, .ref q3, .ref q5, .ref q7, .null, .null, .null, .null, .null, .null, .null] rfl inB_X10 tyX10_ok nmX10 (by decide) tw2_179 rfl rfl rfl rfl (Nat.le_of_ble_eq_true rfl) rfl dX10_init_73 rfl ?_
  refine k_aload_n C dX10_init_76 rfl 0 rfl ?_
  refine k_new (c2 := 42) (s2 := 3315) (cj := 9) C [.int 0, .int 0, .int 0, .null, .null, .null, .null, .null, .null, .null, .null, .null, .null, .null] rfl inB_X9 tyX9_ok kdef_X9 tw1_183 inst_X9 tw1_5 ⟨rfl, rfl⟩ ⟨by decide, by decide⟩ dX10_init_77 rfl (fun q9 => ?_)
  refine k_dup C rfl dX10_init_80 rfl ?_
  refine k_call (index := 45) (n := 0) (As := []) (st := [.ref q9, .ref h0]) (c2 := 53) (s2 := 3662) C (kcX9 D cI q9) (Or.inr ⟨RX10, by decide⟩) ki_X9 (by decide +kernel) (by decide +kernel) ⟨rfl, rfl⟩ ⟨by decide, by decide⟩ ⟨rfl, rfl⟩ ⟨by decide, by decide⟩ rfl rfl (Nat.le_of_ble_eq_true rfl) dX10_init_81 rfl (fun w10 => ?_)
  refine k_putF C 8 [.ref q0, .int 0, .int (-1), .int 0, .ref q1, .ref q3, .ref q5, .ref q7, .ref q9, .null, .null, .null, .null, .null, .null] rfl inB_X10 tyX10_ok nmX10 (by decide) tw2_180 rfl rfl rfl rfl (Nat.le_of_ble_eq_true rfl) rfl dX10_init_84 rfl ?_
  refine k_aload_n C dX10_init_87 rfl 0 rfl ?_
  refine k_new (c2 := 54) (s2 := 3676) (cj := 9) C [.int 0, .int 0, .int 0, .null, .null, .null, .null, .null, .null, .null, .null, .null, .null, .null] rfl inB_X9 tyX9_ok kdef_X9 tw1_183 inst_X9 tw1_5 ⟨rfl, rfl⟩ ⟨by decide, by decide⟩ dX10_init_88 rfl (fun q11 => ?_)
  refine k_dup C rfl dX10_init_91 rfl ?_
  refine k_call (index := 45) (n := 0) (As := []) (st := [.ref q11, .ref h0]) (c2 := 65) (s2 := 4023) C (kcX9 D cI q11) (Or.inr ⟨RX10, by decide⟩) ki_X9 (by decide +kernel) (by decide +kernel) ⟨rfl, rfl⟩ ⟨by decide, by decide⟩ ⟨rfl, rfl⟩ ⟨by decide, by decide⟩ rfl rfl (Nat.le_of_ble_eq_true rfl) dX10_init_92 rfl (fun w12 => ?_)
  refine k_putF C 9 [.ref q0, .int 0, .int (-1), .int 0, .ref q1, .ref q3, .ref q5, .ref q7, .ref q9, .ref q11, .null, .null, .null, .null, .null] rfl inB_X10 tyX10_ok nmX10 (by decide) tw2_181 rfl rfl rfl rfl (Nat.le_of_ble_eq_true rfl) rfl dX10_init_95 rfl ?_
  refine k_aload_n C dX10_init_98 rfl 0 rfl ?_
  refine k_new (c2 := 66) (s2 := 4030) (cj := 2) C [.null, .null, .null, .int 0, .int 0, .int 0, .int 0] rfl inB_X2 tyX2_ok kdef_X2 tw2_12 inst_X2 tw1_6 ⟨rfl, rfl⟩ ⟨by decide, by decide⟩ dX10_init_99 rfl (fun q13 => ?_)
  refine k_dup C rfl dX10_init_102 rfl ?_
  refine k_aload_n C dX10_init_103 rfl 0 rfl ?_
  refine k_get C 4 rfl inB_X10 (by decide) tw2_176 rfl dX10_init_104 rfl ?_
  refine k_call (index := 58) (n := 1) (As := [.ref q1]) (st := [.ref q13, .ref h0]) (c2 := 71) (s2 := 4049) C (kcX2 D cI q13 q1) (Or.inl tw2_14) ki_X2 (by decide +kernel) (by decide +kernel) ⟨rfl, rfl⟩ ⟨by decide, by decide⟩ ⟨rfl, rfl⟩ ⟨by decide, by decide⟩ rfl rfl (Nat.le_of_ble_eq_true rfl) dX10_init_107 rfl (fun w14 => ?_)
  refine k_putF C 10 [.ref q0, .int 0, .int (-1), .int 0, .ref q1, .ref q3, .ref q5, .ref q7, .ref q9, .ref q11, .ref q13, .null, .null, .null, .null] rfl inB_X10 tyX10_ok nmX10 (by decide) tw2_182 rfl rfl rfl rfl (Nat.le_of_ble_eq_true rfl) rfl dX10_init_110 rfl ?_
  refine k_aload_n C dX10_init_113 rfl 0 rfl ?_
  refine k_new (c2 := 72) (s2 := 4055) (cj := 5) C [.null, .null, .null, .null, .int 0, .int 0] rfl inB_X5 tyX5_ok kdef_X5 tw2_66 inst_X5 tw1_8 ⟨rfl, rfl⟩ ⟨by decide, by decide⟩ dX10_init_114 rfl (fun q15 => ?_)
  refine k_dup C rfl dX10_init_117 rfl ?_
  refine k_aload_n C dX10_init_118 rfl 0 rfl ?_
  refine k_get C 4 rfl inB_X10 (by decide) tw2_176 rfl dX10_init_119 rfl ?_
  refine k_aload_n C dX10_init_122 rfl 0 rfl ?_
  refine k_get C 10 rfl inB_X10 (by decide) tw2_182 rfl dX10_init_123 rfl ?_
  refine k_call (index := 65) (n := 2) (As := [.ref q1, .ref q13]) (st := [.ref q15, .ref h0]) (c2 := 80) (s2 := 4073) C (kcX5 D cI q15 q1 q13) (Or.inl tw2_68) ki_X5 (by decide +kernel) (by decide +kernel) ⟨rfl, rfl⟩ ⟨by decide, by decide⟩ ⟨rfl, rfl⟩ ⟨by decide, by decide⟩ rfl rfl (Nat.le_of_ble_eq_true rfl) dX10_init_126 rfl (fun w16 => ?_)
  refine k_putF C 11 [.ref q0, .int 0, .int (-1), .int 0, .ref q1, .ref q3, .ref q5, .ref q7, .ref q9, .ref q11, .ref q13, .ref q15, .null, .null, .null] rfl inB_X10 tyX10_ok nmX10 (by decide) tw2_183 rfl rfl rfl rfl (Nat.le_of_ble_eq_true rfl) rfl dX10_init_129 rfl ?_
  refine k_aload_n C dX10_init_132 rfl 0 rfl ?_
  refine k_new (c2 := 81) (s2 := 4079) (cj := 6) C [.null, .null, .null, .null, .int 0, .int 0] rfl inB_X6 tyX6_ok kdef_X6 tw2_95 inst_X6 tw1_9 ⟨rfl, rfl⟩ ⟨by decide, by decide⟩ dX10_init_133 rfl (fun q17 => ?_)
  refine k_dup C rfl dX10_init_136 rfl ?_
  refine k_aload_n C dX10_init_137 rfl 0 rfl ?_
  refine k_get C 4 rfl inB_X10 (by decide) tw2_176 rfl dX10_init_138 rfl ?_
  refine k_aload_n C dX10_init_141 rfl 0 rfl ?_
  refine k_get C 7 rfl inB_X10 (by decide) tw2_179 rfl dX10_init_142 rfl ?_
  refine k_call (index := 74) (n := 2) (As := [.ref q1, .ref q7]) (st := [.ref q17, .ref h0]) (c2 := 83) (s2 := 4213) C (kcX6 D cI q17 q1 q7) (Or.inl tw2_97) ki_X6 (by decide +kernel) (by decide +kernel) ⟨rfl, rfl⟩ ⟨by decide, by decide⟩ ⟨rfl, rfl⟩ ⟨by decide, by decide⟩ rfl rfl (Nat.le_of_ble_eq_true rfl) dX10_init_145 rfl (fun w18 => ?_)
  refine k_putF C 12 [.ref q0, .int 0, .int (-1), .int 0, .ref q1, .ref q3, .ref q5, .ref q7, .ref q9, .ref q11, .ref q13, .ref q15, .ref q17, .null, .null] rfl inB_X10 tyX10_ok nmX10 (by decide) tw2_184 rfl rfl rfl rfl (Nat.le_of_ble_eq_true rfl) rfl dX10_init_148 rfl ?_
  refine k_aload_n C dX10_init_151 rfl 0 rfl ?_
  refine k_new (c2 := 84) (s2 := 4217) (cj := 1) C [.null, .null, .null, .null] rfl inB_X1 tyX1_ok kdef_X1 tw2_122 inst_X1 tw1_10 ⟨rfl, rfl⟩ ⟨by decide, by decide⟩ dX10_init_152 rfl (fun q19 => ?_)
  refine k_dup C rfl dX10_init_155 rfl ?_
  refine k_aload_n C dX10_init_156 rfl 0 rfl ?_
  refine k_get C 4 rfl inB_X10 (by decide) tw2_176 rfl dX10_init_157 rfl ?_
  refine k_aload_n C dX10_init_160 rfl 0 rfl ?_
  refine k_get C 12 rfl inB_X10 (by decide) tw2_184 rfl dX10_init_161 rfl ?_
  refine k_call (index := 83) (n := 2) (As := [.ref q1, .ref q17]) (st := [.ref q19, .ref h0]) (c2 := 86) (s2 := 4481) C (kcX1 D cI q19 q1 q17) (Or.inl tw2_124) ki_X1 (by decide +kernel) (by decide +kernel) ⟨rfl, rfl⟩ ⟨by decide, by decide⟩ ⟨rfl, rfl⟩ ⟨by decide, by decide⟩ rfl rfl (Nat.le_of_ble_eq_true rfl) dX10_init_164 rfl (fun w20 => ?_)
  refine k_putF C 13 [.ref q0, .int 0, .int (-1), .int 0, .ref q1, .ref q3, .ref q5, .ref q7, .ref q9, .ref q11, .ref q13, .ref q15, .ref q17, .ref q19, .null] rfl inB_X10 tyX10_ok nmX10 (by decide) tw2_185 rfl rfl rfl rfl (Nat.le_of_ble_eq_true rfl) rfl dX10_init_167 rfl ?_
  refine k_aload_n C dX10_init_170 rfl 0 rfl ?_
  refine k_new (c2 := 87) (s2 := 4488) (cj := 4) C [.null, .null, .null, .int 0, .int 0, .int 0, .int 0] rfl inB_X4 tyX4_ok kdef_X4 tw2_141 inst_X4 tw1_11 ⟨rfl, rfl⟩ ⟨by decide, by decide⟩ dX10_init_171 rfl (fun q21 => ?_)
  refine k_dup C rfl dX10_init_174 rfl ?_
  refine k_aload_n C dX10_init_175 rfl 0 rfl ?_
  refine k_get C 4 rfl inB_X10 (by decide) tw2_176 rfl dX10_init_176 rfl ?_
  refine k_aload_n C dX10_init_179 rfl 0 rfl ?_
  refine k_get C 9 rfl inB_X10 (by decide) tw2_181 rfl dX10_init_180 rfl ?_
  refine k_aload_n C dX10_init_183 rfl 0 rfl ?_
  refine k_get C 10 rfl inB_X10 (by decide) tw2_182 rfl dX10_init_184 rfl ?_
  refine k_call (index := 92) (n := 3) (As := [.ref q1, .ref q11, .ref q13]) (st := [.ref q21, .ref h0]) (c2 := 87) (s2 := 4488) C (kcX4 D cI q21 q1 q11 q13) (Or.inl tw2_143) ki_X4 (by decide +kernel) (by decide +kernel) ⟨rfl, rfl⟩ ⟨by decide, by decide⟩ ⟨rfl, rfl⟩ ⟨by decide, by decide⟩ rfl rfl (Nat.le_of_ble_eq_true rfl) dX10_init_187 rfl (fun w22 => ?_)
  refine k_putF C 14 [.ref q0, .int 0, .int (-1), .int 0, .ref q1, .ref q3, .ref q5, .ref q7, .ref q9, .ref q11, .ref q13, .ref q15, .ref q17, .ref q19, .ref q21] rfl inB_X10 tyX10_ok nmX10 (by decide) tw2_186 rfl rfl rfl rfl (Nat.le_of_ble_eq_true rfl) rfl dX10_init_190 rfl ?_
  exact hr _ _ _ _ (fun k => ([q0, q1, (w2 0), (w2 1), (w2 2), (w2 3), (w2 4), (w2 5), (w2 6), (w2 7), (w2 8), (w2 9), (w2 10), (w2 11), q3, (w4 0), (w4 1), (w4 2), (w4 3), (w4 4), (w4 5), (w4 6), (w4 7), (w4 8), (w4 9), (w4 10), (w4 11), q5, (w6 0), q7, (w8 0), (w8 1), (w8 2), (w8 3), (w8 4), (w8 5), (w8 6), (w8 7), (w8 8), (w8 9), (w8 10), q9, (w10 0), (w10 1), (w10 2), (w10 3), (w10 4), (w10 5), (w10 6), (w10 7), (w10 8), (w10 9), (w10 10), q11, (w12 0), (w12 1), (w12 2), (w12 3), (w12 4), (w12 5), (w12 6), (w12 7), (w12 8), (w12 9), (w12 10), q13, (w14 0), (w14 1), (w14 2), (w14 3), (w14 4), q15, (w16 0), (w16 1), (w16 2), (w16 3), (w16 4), (w16 5), (w16 6), (w16 7), q17, (w18 0), (w18 1), q19, (w20 0), (w20 1), q21] : List Nat).getD k 0) dX10_init_193 rfl
theorem kcX10 {l : Launch} (D : va_G) (cI : ClassId) (h0 : Nat) : KC l yX10_init (wB yX10_init cX10_init 1 none) { frames := 3, cells := 87, slots := 4488, locals := 54 } D [(cI, .int)] 87 4488 h0 10 [.null, .int 0, .int 0, .int 0, .null, .null, .null, .null, .null, .null, .null, .null, .null, .null, .null] [] (kpX10 cI h0) := mk_KC (by decide +kernel) (by decide +kernel) (Nat.le_of_ble_eq_true rfl) (fun X A hX C hr => wkX10 D cI h0 C hr)

