def fX9_become_2 (F : Nat) (σ : St) : Option St := nm (up σ 42 0 (σ 30 0)) fun u2 => nm (up u2 42 1 (u2 30 1)) fun u4 => nm (up u4 42 2 (u4 30 2)) fun u6 => nm (acp u6 31 0 43 0 8) fun u7 => nm (acp u7 32 0 44 0 8) fun u8 => nm (acp u8 33 0 45 0 80) fun u9 => nm (acp u9 34 0 46 0 48) fun u10 => nm (acp u10 35 0 47 0 160) fun u11 => nm (acp u11 36 0 48 0 8) fun u12 => nm (acp u12 37 0 49 0 8) fun u13 => nm (acp u13 38 0 50 0 8) fun u14 => nm (acp u14 39 0 51 0 8) fun u15 => nm (acp u15 40 0 52 0 8) fun u16 => nm (acp u16 41 0 53 0 3) fun u17 => some u17
set_option maxRecDepth 20000 in
theorem wfX9_become_2 {X : XT} {D : va_G} {cI : ClassId} {ad : Nat → Nat} {F : Nat} {σ : St}  {σ' : St} (C : Cx X (gC D cI ad) cX9_become 2 RX9 1 40 0) (hr : RetV X (gC D cI ad) cX9_become 2 0 σ') (h : fX9_become_2 F σ = some σ') : WP X (gC D cI ad) 2 0 0 σ [(0, .ref (ad 42)), (1, .ref (ad 30))] [] := by
  unfold fX9_become_2 at h
  refine w_aload_n C dX9_become_0 rfl 0 rfl ?_
  refine w_aload_n C dX9_become_1 rfl 1 rfl ?_
  refine w_get C 30 0 (Nat.le_of_ble_eq_true rfl) rfl rfl inB_X9 (by decide) tw1_189 rfl dX9_become_2 rfl ?_
  refine w_put C 42 0 (σ 30 0) (Nat.le_of_ble_eq_true rfl) rfl rfl inB_X9 tyX9_ok nmX9 (by decide) tw1_189 rfl rfl rfl (Nat.le_of_ble_eq_true rfl) rfl dX9_become_5 rfl ?_
  refine w_nst h (fun u2 h => ?_)
  refine w_aload_n C dX9_become_8 rfl 0 rfl ?_
  refine w_aload_n C dX9_become_9 rfl 1 rfl ?_
  refine w_get C 30 1 (Nat.le_of_ble_eq_true rfl) rfl rfl inB_X9 (by decide) tw1_192 rfl dX9_become_10 rfl ?_
  refine w_put C 42 1 (u2 30 1) (Nat.le_of_ble_eq_true rfl) rfl rfl inB_X9 tyX9_ok nmX9 (by decide) tw1_192 rfl rfl rfl (Nat.le_of_ble_eq_true rfl) rfl dX9_become_13 rfl ?_
  refine w_nst h (fun u4 h => ?_)
  refine w_aload_n C dX9_become_16 rfl 0 rfl ?_
  refine w_aload_n C dX9_become_17 rfl 1 rfl ?_
  refine w_get C 30 2 (Nat.le_of_ble_eq_true rfl) rfl rfl inB_X9 (by decide) tw1_194 rfl dX9_become_18 rfl ?_
  refine w_put C 42 2 (u4 30 2) (Nat.le_of_ble_eq_true rfl) rfl rfl inB_X9 tyX9_ok nmX9 (by decide) tw1_194 rfl rfl rfl (Nat.le_of_ble_eq_true rfl) rfl dX9_become_21 rfl ?_
  refine w_nst h (fun u6 h => ?_)
  refine w_aload_n C dX9_become_24 rfl 1 rfl ?_
  refine w_get C 30 3 (Nat.le_of_ble_eq_true rfl) rfl rfl inB_X9 (by decide) tw1_197 rfl dX9_become_25 rfl ?_
  refine w_iconst C 0 dX9_become_28 rfl (by decide) ?_
  refine w_aload_n C dX9_become_29 rfl 0 rfl ?_
  refine w_get C 42 3 (Nat.le_of_ble_eq_true rfl) rfl rfl inB_X9 (by decide) tw1_197 rfl dX9_become_30 rfl ?_
  refine w_iconst C 0 dX9_become_33 rfl (by decide) ?_
  refine w_bipush C 8 dX9_become_34 rfl (by decide) ?_
  refine w_acopy C 31 43 8 8 0 0 0 8 (by intro w hw; simp only [List.mem_cons, List.not_mem_nil, or_false] at hw; rcases hw with rfl | rfl | rfl | rfl; exacts [tw3_2, tw3_4, tw3_3, tw1_22]) (Nat.le_of_ble_eq_true rfl) (Nat.le_of_ble_eq_true rfl) (fun _ => rfl) (fun _ => rfl) rfl ⟨by decide, by decide⟩ ⟨by decide, by decide⟩ ⟨by decide, by decide⟩ (by decide) (by decide) ⟨Nat.le_of_ble_eq_true rfl, Nat.le_of_ble_eq_true rfl⟩ dX9_become_36 rfl ?_
  refine w_nst h (fun u7 h => ?_)
  refine w_aload_n C dX9_become_39 rfl 1 rfl ?_
  refine w_get C 30 4 (Nat.le_of_ble_eq_true rfl) rfl rfl inB_X9 (by decide) tw1_199 rfl dX9_become_40 rfl ?_
  refine w_iconst C 0 dX9_become_43 rfl (by decide) ?_
  refine w_aload_n C dX9_become_44 rfl 0 rfl ?_
  refine w_get C 42 4 (Nat.le_of_ble_eq_true rfl) rfl rfl inB_X9 (by decide) tw1_199 rfl dX9_become_45 rfl ?_
  refine w_iconst C 0 dX9_become_48 rfl (by decide) ?_
  refine w_bipush C 8 dX9_become_49 rfl (by decide) ?_
  refine w_acopy C 32 44 8 8 0 0 0 8 (by intro w hw; simp only [List.mem_cons, List.not_mem_nil, or_false] at hw; rcases hw with rfl | rfl | rfl | rfl; exacts [tw3_2, tw3_4, tw3_3, tw1_22]) (Nat.le_of_ble_eq_true rfl) (Nat.le_of_ble_eq_true rfl) (fun _ => rfl) (fun _ => rfl) rfl ⟨by decide, by decide⟩ ⟨by decide, by decide⟩ ⟨by decide, by decide⟩ (by decide) (by decide) ⟨Nat.le_of_ble_eq_true rfl, Nat.le_of_ble_eq_true rfl⟩ dX9_become_51 rfl ?_
  refine w_nst h (fun u8 h => ?_)
  refine w_aload_n C dX9_become_54 rfl 1 rfl ?_
  refine w_get C 30 5 (Nat.le_of_ble_eq_true rfl) rfl rfl inB_X9 (by decide) tw1_203 rfl dX9_become_55 rfl ?_
  refine w_iconst C 0 dX9_become_58 rfl (by decide) ?_
  refine w_aload_n C dX9_become_59 rfl 0 rfl ?_
  refine w_get C 42 5 (Nat.le_of_ble_eq_true rfl) rfl rfl inB_X9 (by decide) tw1_203 rfl dX9_become_60 rfl ?_
  refine w_iconst C 0 dX9_become_63 rfl (by decide) ?_
  refine w_bipush C 80 dX9_become_64 rfl (by decide) ?_
  refine w_acopy C 33 45 80 80 0 0 0 80 (by intro w hw; simp only [List.mem_cons, List.not_mem_nil, or_false] at hw; rcases hw with rfl | rfl | rfl | rfl; exacts [tw3_2, tw3_4, tw3_3, tw1_22]) (Nat.le_of_ble_eq_true rfl) (Nat.le_of_ble_eq_true rfl) (fun _ => rfl) (fun _ => rfl) rfl ⟨by decide, by decide⟩ ⟨by decide, by decide⟩ ⟨by decide, by decide⟩ (by decide) (by decide) ⟨Nat.le_of_ble_eq_true rfl, Nat.le_of_ble_eq_true rfl⟩ dX9_become_66 rfl ?_
  refine w_nst h (fun u9 h => ?_)
  refine w_aload_n C dX9_become_69 rfl 1 rfl ?_
  refine w_get C 30 6 (Nat.le_of_ble_eq_true rfl) rfl rfl inB_X9 (by decide) tw1_207 rfl dX9_become_70 rfl ?_
  refine w_iconst C 0 dX9_become_73 rfl (by decide) ?_
  refine w_aload_n C dX9_become_74 rfl 0 rfl ?_
  refine w_get C 42 6 (Nat.le_of_ble_eq_true rfl) rfl rfl inB_X9 (by decide) tw1_207 rfl dX9_become_75 rfl ?_
  refine w_iconst C 0 dX9_become_78 rfl (by decide) ?_
  refine w_bipush C 48 dX9_become_79 rfl (by decide) ?_
  refine w_acopy C 34 46 48 48 0 0 0 48 (by intro w hw; simp only [List.mem_cons, List.not_mem_nil, or_false] at hw; rcases hw with rfl | rfl | rfl | rfl; exacts [tw3_2, tw3_4, tw3_3, tw1_22]) (Nat.le_of_ble_eq_true rfl) (Nat.le_of_ble_eq_true rfl) (fun _ => rfl) (fun _ => rfl) rfl ⟨by decide, by decide⟩ ⟨by decide, by decide⟩ ⟨by decide, by decide⟩ (by decide) (by decide) ⟨Nat.le_of_ble_eq_true rfl, Nat.le_of_ble_eq_true rfl⟩ dX9_become_81 rfl ?_
  refine w_nst h (fun u10 h => ?_)
  refine w_aload_n C dX9_become_84 rfl 1 rfl ?_
  refine w_get C 30 7 (Nat.le_of_ble_eq_true rfl) rfl rfl inB_X9 (by decide) tw1_210 rfl dX9_become_85 rfl ?_
  refine w_iconst C 0 dX9_become_88 rfl (by decide) ?_
  refine w_aload_n C dX9_become_89 rfl 0 rfl ?_
  refine w_get C 42 7 (Nat.le_of_ble_eq_true rfl) rfl rfl inB_X9 (by decide) tw1_210 rfl dX9_become_90 rfl ?_
  refine w_iconst C 0 dX9_become_93 rfl (by decide) ?_
  refine w_sipush C 160 dX9_become_94 rfl (by decide) ?_
  refine w_acopy C 35 47 160 160 0 0 0 160 (by intro w hw; simp only [List.mem_cons, List.not_mem_nil, or_false] at hw; rcases hw with rfl | rfl | rfl | rfl; exacts [tw3_2, tw3_4, tw3_3, tw1_22]) (Nat.le_of_ble_eq_true rfl) (Nat.le_of_ble_eq_true rfl) (fun _ => rfl) (fun _ => rfl) rfl ⟨by decide, by decide⟩ ⟨by decide, by decide⟩ ⟨by decide, by decide⟩ (by decide) (by decide) ⟨Nat.le_of_ble_eq_true rfl, Nat.le_of_ble_eq_true rfl⟩ dX9_become_97 rfl ?_
  refine w_nst h (fun u11 h => ?_)
  refine w_aload_n C dX9_become_100 rfl 1 rfl ?_
  refine w_get C 30 8 (Nat.le_of_ble_eq_true rfl) rfl rfl inB_X9 (by decide) tw1_211 rfl dX9_become_101 rfl ?_
  refine w_iconst C 0 dX9_become_104 rfl (by decide) ?_
  refine w_aload_n C dX9_become_105 rfl 0 rfl ?_
  refine w_get C 42 8 (Nat.le_of_ble_eq_true rfl) rfl rfl inB_X9 (by decide) tw1_211 rfl dX9_become_106 rfl ?_
  refine w_iconst C 0 dX9_become_109 rfl (by decide) ?_
  refine w_bipush C 8 dX9_become_110 rfl (by decide) ?_
  refine w_acopy C 36 48 8 8 0 0 0 8 (by intro w hw; simp only [List.mem_cons, List.not_mem_nil, or_false] at hw; rcases hw with rfl | rfl | rfl | rfl; exacts [tw3_2, tw3_4, tw3_3, tw1_22]) (Nat.le_of_ble_eq_true rfl) (Nat.le_of_ble_eq_true rfl) (fun _ => rfl) (fun _ => rfl) rfl ⟨by decide, by decide⟩ ⟨by decide, by decide⟩ ⟨by decide, by decide⟩ (by decide) (by decide) ⟨Nat.le_of_ble_eq_true rfl, Nat.le_of_ble_eq_true rfl⟩ dX9_become_112 rfl ?_
  refine w_nst h (fun u12 h => ?_)
  refine w_aload_n C dX9_become_115 rfl 1 rfl ?_
  refine w_get C 30 9 (Nat.le_of_ble_eq_true rfl) rfl rfl inB_X9 (by decide) tw1_213 rfl dX9_become_116 rfl ?_
  refine w_iconst C 0 dX9_become_119 rfl (by decide) ?_
  refine w_aload_n C dX9_become_120 rfl 0 rfl ?_
  refine w_get C 42 9 (Nat.le_of_ble_eq_true rfl) rfl rfl inB_X9 (by decide) tw1_213 rfl dX9_become_121 rfl ?_
  refine w_iconst C 0 dX9_become_124 rfl (by decide) ?_
  refine w_bipush C 8 dX9_become_125 rfl (by decide) ?_
  refine w_acopy C 37 49 8 8 0 0 0 8 (by intro w hw; simp only [List.mem_cons, List.not_mem_nil, or_false] at hw; rcases hw with rfl | rfl | rfl | rfl; exacts [tw3_2, tw3_4, tw3_3, tw1_22]) (Nat.le_of_ble_eq_true rfl) (Nat.le_of_ble_eq_true rfl) (fun _ => rfl) (fun _ => rfl) rfl ⟨by decide, by decide⟩ ⟨by decide, by decide⟩ ⟨by decide, by decide⟩ (by decide) (by decide) ⟨Nat.le_of_ble_eq_true rfl, Nat.le_of_ble_eq_true rfl⟩ dX9_become_127 rfl ?_
  refine w_nst h (fun u13 h => ?_)
  refine w_aload_n C dX9_become_130 rfl 1 rfl ?_
  refine w_get C 30 10 (Nat.le_of_ble_eq_true rfl) rfl rfl inB_X9 (by decide) tw1_215 rfl dX9_become_131 rfl ?_
  refine w_iconst C 0 dX9_become_134 rfl (by decide) ?_
  refine w_aload_n C dX9_become_135 rfl 0 rfl ?_
  refine w_get C 42 10 (Nat.le_of_ble_eq_true rfl) rfl rfl inB_X9 (by decide) tw1_215 rfl dX9_become_136 rfl ?_
  refine w_iconst C 0 dX9_become_139 rfl (by decide) ?_
  refine w_bipush C 8 dX9_become_140 rfl (by decide) ?_
  refine w_acopy C 38 50 8 8 0 0 0 8 (by intro w hw; simp only [List.mem_cons, List.not_mem_nil, or_false] at hw; rcases hw with rfl | rfl | rfl | rfl; exacts [tw3_2, tw3_4, tw3_3, tw1_22]) (Nat.le_of_ble_eq_true rfl) (Nat.le_of_ble_eq_true rfl) (fun _ => rfl) (fun _ => rfl) rfl ⟨by decide, by decide⟩ ⟨by decide, by decide⟩ ⟨by decide, by decide⟩ (by decide) (by decide) ⟨Nat.le_of_ble_eq_true rfl, Nat.le_of_ble_eq_true rfl⟩ dX9_become_142 rfl ?_
  refine w_nst h (fun u14 h => ?_)
  refine w_aload_n C dX9_become_145 rfl 1 rfl ?_
  refine w_get C 30 11 (Nat.le_of_ble_eq_true rfl) rfl rfl inB_X9 (by decide) tw1_217 rfl dX9_become_146 rfl ?_
  refine w_iconst C 0 dX9_become_149 rfl (by decide) ?_
  refine w_aload_n C dX9_become_150 rfl 0 rfl ?_
  refine w_get C 42 11 (Nat.le_of_ble_eq_true rfl) rfl rfl inB_X9 (by decide) tw1_217 rfl dX9_become_151 rfl ?_
  refine w_iconst C 0 dX9_become_154 rfl (by decide) ?_
  refine w_bipush C 8 dX9_become_155 rfl (by decide) ?_
  refine w_acopy C 39 51 8 8 0 0 0 8 (by intro w hw; simp only [List.mem_cons, List.not_mem_nil, or_false] at hw; rcases hw with rfl | rfl | rfl | rfl; exacts [tw3_2, tw3_4, tw3_3, tw1_22]) (Nat.le_of_ble_eq_true rfl) (Nat.le_of_ble_eq_true rfl) (fun _ => rfl) (fun _ => rfl) rfl ⟨by decide, by decide⟩ ⟨by decide, by decide⟩ ⟨by decide, by decide⟩ (by decide) (by decide) ⟨Nat.le_of_ble_eq_true rfl, Nat.le_of_ble_eq_true rfl⟩ dX9_become_157 rfl ?_
  refine w_nst h (fun u15 h => ?_)
  refine w_aload_n C dX9_become_160 rfl 1 rfl ?_
  refine w_get C 30 12 (Nat.le_of_ble_eq_true rfl) rfl rfl inB_X9 (by decide) tw1_219 rfl dX9_become_161 rfl ?_
  refine w_iconst C 0 dX9_become_164 rfl (by decide) ?_
  refine w_aload_n C dX9_become_165 rfl 0 rfl ?_
  refine w_get C 42 12 (Nat.le_of_ble_eq_true rfl) rfl rfl inB_X9 (by decide) tw1_219 rfl dX9_become_166 rfl ?_
  refine w_iconst C 0 dX9_become_169 rfl (by decide) ?_
  refine w_bipush C 8 dX9_become_170 rfl (by decide) ?_
  refine w_acopy C 40 52 8 8 0 0 0 8 (by intro w hw; simp only [List.mem_cons, List.not_mem_nil, or_false] at hw; rcases hw with rfl | rfl | rfl | rfl; exacts [tw3_2, tw3_4, tw3_3, tw1_22]) (Nat.le_of_ble_eq_true rfl) (Nat.le_of_ble_eq_true rfl) (fun _ => rfl) (fun _ => rfl) rfl ⟨by decide, by decide⟩ ⟨by decide, by decide⟩ ⟨by decide, by decide⟩ (by decide) (by decide) ⟨Nat.le_of_ble_eq_true rfl, Nat.le_of_ble_eq_true rfl⟩ dX9_become_172 rfl ?_
  refine w_nst h (fun u16 h => ?_)
  refine w_aload_n C dX9_become_175 rfl 1 rfl ?_
  refine w_get C 30 13 (Nat.le_of_ble_eq_true rfl) rfl rfl inB_X9 (by decide) tw1_221 rfl dX9_become_176 rfl ?_
  refine w_iconst C 0 dX9_become_179 rfl (by decide) ?_
  refine w_aload_n C dX9_become_180 rfl 0 rfl ?_
  refine w_get C 42 13 (Nat.le_of_ble_eq_true rfl) rfl rfl inB_X9 (by decide) tw1_221 rfl dX9_become_181 rfl ?_
  refine w_iconst C 0 dX9_become_184 rfl (by decide) ?_
  refine w_iconst C 3 dX9_become_185 rfl (by decide) ?_
  refine w_acopy C 41 53 3 3 0 0 0 3 (by intro w hw; simp only [List.mem_cons, List.not_mem_nil, or_false] at hw; rcases hw with rfl | rfl | rfl | rfl; exacts [tw3_2, tw3_4, tw3_3, tw1_22]) (Nat.le_of_ble_eq_true rfl) (Nat.le_of_ble_eq_true rfl) (fun _ => rfl) (fun _ => rfl) rfl ⟨by decide, by decide⟩ ⟨by decide, by decide⟩ ⟨by decide, by decide⟩ (by decide) (by decide) ⟨Nat.le_of_ble_eq_true rfl, Nat.le_of_ble_eq_true rfl⟩ dX9_become_186 rfl ?_
  refine w_nst h (fun u17 h => ?_)
  exact w_rv hr h (by decide) dX9_become_189
theorem cfX9_become_2 (D : va_G) (cI : ClassId) (ad : Nat → Nat) {l : Launch} (had : gAp (gC D cI ad)) {F : Nat} {σ : St}  {σ' : St} (h : fX9_become_2 F σ = some σ') : MV l yX9_become (wB yX9_become cX9_become 2 none) 1 40 (gC D cI ad) [.ref (ad 42), .ref (ad 30)] σ σ' := mk_MV had (by decide +kernel) (Nat.le_of_ble_eq_true rfl) (fun X hX C hr => wfX9_become_2 C hr h)

def fX10_image (F : Nat) (σ : St) : Option St := bd1 (fX9_become_2 F σ) fun u1 => nm (up u1 0 3 1) fun u3 => some u3
set_option maxRecDepth 20000 in
theorem wfX10_image {X : XT} {D : va_G} {cI : ClassId} {ad : Nat → Nat} {F : Nat} {σ : St}  {σ' : St} (C : Cx X (gC D cI ad) cX10_image 1 RX10 2 61 0) (hr : RetV X (gC D cI ad) cX10_image 1 0 σ') (h : fX10_image F σ = some σ') : WP X (gC D cI ad) 1 0 0 σ [(0, .ref (ad 0))] [] := by
  unfold fX10_image at h
  refine w_aload_n C dX10_image_0 rfl 0 rfl ?_
  refine w_get C 0 8 (Nat.le_of_ble_eq_true rfl) rfl rfl inB_X10 (by decide) tw2_180 rfl dX10_image_1 rfl ?_
  refine w_aload_n C dX10_image_4 rfl 0 rfl ?_
  refine w_get C 0 7 (Nat.le_of_ble_eq_true rfl) rfl rfl inB_X10 (by decide) tw2_179 rfl dX10_image_5 rfl ?_
  refine bd1_w h (fun u1 hc h => ?_)
  refine w_callVv C (As := [.ref (ad 30)]) (st := []) 42 (Nat.le_of_ble_eq_true rfl) rfl rfl (cfX9_become_2 D cI ad (l := X.2.1) C.2.2.1 hc) tw3_24 cy_X9_become (by decide +kernel) ⟨Nat.le_of_ble_eq_true rfl, Nat.le_of_ble_eq_true rfl⟩ (by decide) rfl rfl (Nat.le_of_ble_eq_true rfl) dX10_image_8 rfl ?_
  refine w_aload_n C dX10_image_11 rfl 0 rfl ?_
  refine w_iconst C 1 dX10_image_12 rfl (by decide) ?_
  refine w_put C 0 3 1 (Nat.le_of_ble_eq_true rfl) rfl rfl inB_X10 tyX10_ok nmX10 (by decide) tw2_175 rfl rfl rfl (Nat.le_of_ble_eq_true rfl) rfl dX10_image_13 rfl ?_
  refine w_nst h (fun u3 h => ?_)
  exact w_rv hr h (by decide) dX10_image_16
theorem cfX10_image (D : va_G) (cI : ClassId) (ad : Nat → Nat) {l : Launch} (had : gAp (gC D cI ad)) {F : Nat} {σ : St}  {σ' : St} (h : fX10_image F σ = some σ') : MV l yX10_image (wB yX10_image cX10_image 1 none) 2 61 (gC D cI ad) [.ref (ad 0)] σ σ' := mk_MV had (by decide +kernel) (Nat.le_of_ble_eq_true rfl) (fun X hX C hr => wfX10_image C hr h)

def fX9_become_3 (F : Nat) (σ : St) : Option St := nm (up σ 30 0 (σ 42 0)) fun u2 => nm (up u2 30 1 (u2 42 1)) fun u4 => nm (up u4 30 2 (u4 42 2)) fun u6 => nm (acp u6 43 0 31 0 8) fun u7 => nm (acp u7 44 0 32 0 8) fun u8 => nm (acp u8 45 0 33 0 80) fun u9 => nm (acp u9 46 0 34 0 48) fun u10 => nm (acp u10 47 0 35 0 160) fun u11 => nm (acp u11 48 0 36 0 8) fun u12 => nm (acp u12 49 0 37 0 8) fun u13 => nm (acp u13 50 0 38 0 8) fun u14 => nm (acp u14 51 0 39 0 8) fun u15 => nm (acp u15 52 0 40 0 8) fun u16 => nm (acp u16 53 0 41 0 3) fun u17 => some u17
set_option maxRecDepth 20000 in
theorem wfX9_become_3 {X : XT} {D : va_G} {cI : ClassId} {ad : Nat → Nat} {F : Nat} {σ : St}  {σ' : St} (C : Cx X (gC D cI ad) cX9_become 2 RX9 1 40 0) (hr : RetV X (gC D cI ad) cX9_become 2 0 σ') (h : fX9_become_3 F σ = some σ') : WP X (gC D cI ad) 2 0 0 σ [(0, .ref (ad 30)), (1, .ref (ad 42))] [] := by
  unfold fX9_become_3 at h
  refine w_aload_n C dX9_become_0 rfl 0 rfl ?_
  refine w_aload_n C dX9_become_1 rfl 1 rfl ?_
  refine w_get C 42 0 (Nat.le_of_ble_eq_true rfl) rfl rfl inB_X9 (by decide) tw1_189 rfl dX9_become_2 rfl ?_
  refine w_put C 30 0 (σ 42 0) (Nat.le_of_ble_eq_true rfl) rfl rfl inB_X9 tyX9_ok nmX9 (by decide) tw1_189 rfl rfl rfl (Nat.le_of_ble_eq_true rfl) rfl dX9_become_5 rfl ?_
  refine w_nst h (fun u2 h => ?_)
  refine w_aload_n C dX9_become_8 rfl 0 rfl ?_
  refine w_aload_n C dX9_become_9 rfl 1 rfl ?_
  refine w_get C 42 1 (Nat.le_of_ble_eq_true rfl) rfl rfl inB_X9 (by decide) tw1_192 rfl dX9_become_10 rfl ?_
  refine w_put C 30 1 (u2 42 1) (Nat.le_of_ble_eq_true rfl) rfl rfl inB_X9 tyX9_ok nmX9 (by decide) tw1_192 rfl rfl rfl (Nat.le_of_ble_eq_true rfl) rfl dX9_become_13 rfl ?_
  refine w_nst h (fun u4 h => ?_)
  refine w_aload_n C dX9_become_16 rfl 0 rfl ?_
  refine w_aload_n C dX9_become_17 rfl 1 rfl ?_
  refine w_get C 42 2 (Nat.le_of_ble_eq_true rfl) rfl rfl inB_X9 (by decide) tw1_194 rfl dX9_become_18 rfl ?_
  refine w_put C 30 2 (u4 42 2) (Nat.le_of_ble_eq_true rfl) rfl rfl inB_X9 tyX9_ok nmX9 (by decide) tw1_194 rfl rfl rfl (Nat.le_of_ble_eq_true rfl) rfl dX9_become_21 rfl ?_
  refine w_nst h (fun u6 h => ?_)
  refine w_aload_n C dX9_become_24 rfl 1 rfl ?_
  refine w_get C 42 3 (Nat.le_of_ble_eq_true rfl) rfl rfl inB_X9 (by decide) tw1_197 rfl dX9_become_25 rfl ?_
  refine w_iconst C 0 dX9_become_28 rfl (by decide) ?_
  refine w_aload_n C dX9_become_29 rfl 0 rfl ?_
  refine w_get C 30 3 (Nat.le_of_ble_eq_true rfl) rfl rfl inB_X9 (by decide) tw1_197 rfl dX9_become_30 rfl ?_
  refine w_iconst C 0 dX9_become_33 rfl (by decide) ?_
  refine w_bipush C 8 dX9_become_34 rfl (by decide) ?_
  refine w_acopy C 43 31 8 8 0 0 0 8 (by intro w hw; simp only [List.mem_cons, List.not_mem_nil, or_false] at hw; rcases hw with rfl | rfl | rfl | rfl; exacts [tw3_2, tw3_4, tw3_3, tw1_22]) (Nat.le_of_ble_eq_true rfl) (Nat.le_of_ble_eq_true rfl) (fun _ => rfl) (fun _ => rfl) rfl ⟨by decide, by decide⟩ ⟨by decide, by decide⟩ ⟨by decide, by decide⟩ (by decide) (by decide) ⟨Nat.le_of_ble_eq_true rfl, Nat.le_of_ble_eq_true rfl⟩ dX9_become_36 rfl ?_
  refine w_nst h (fun u7 h => ?_)
  refine w_aload_n C dX9_become_39 rfl 1 rfl ?_
  refine w_get C 42 4 (Nat.le_of_ble_eq_true rfl) rfl rfl inB_X9 (by decide) tw1_199 rfl dX9_become_40 rfl ?_
  refine w_iconst C 0 dX9_become_43 rfl (by decide) ?_
  refine w_aload_n C dX9_become_44 rfl 0 rfl ?_
  refine w_get C 30 4 (Nat.le_of_ble_eq_true rfl) rfl rfl inB_X9 (by decide) tw1_199 rfl dX9_become_45 rfl ?_
  refine w_iconst C 0 dX9_become_48 rfl (by decide) ?_
  refine w_bipush C 8 dX9_become_49 rfl (by decide) ?_
  refine w_acopy C 44 32 8 8 0 0 0 8 (by intro w hw; simp only [List.mem_cons, List.not_mem_nil, or_false] at hw; rcases hw with rfl | rfl | rfl | rfl; exacts [tw3_2, tw3_4, tw3_3, tw1_22]) (Nat.le_of_ble_eq_true rfl) (Nat.le_of_ble_eq_true rfl) (fun _ => rfl) (fun _ => rfl) rfl ⟨by decide, by decide⟩ ⟨by decide, by decide⟩ ⟨by decide, by decide⟩ (by decide) (by decide) ⟨Nat.le_of_ble_eq_true rfl, Nat.le_of_ble_eq_true rfl⟩ dX9_become_51 rfl ?_
  refine w_nst h (fun u8 h => ?_)
  refine w_aload_n C dX9_become_54 rfl 1 rfl ?_
  refine w_get C 42 5 (Nat.le_of_ble_eq_true rfl) rfl rfl inB_X9 (by decide) tw1_203 rfl dX9_become_55 rfl ?_
  refine w_iconst C 0 dX9_become_58 rfl (by decide) ?_
  refine w_aload_n C dX9_become_59 rfl 0 rfl ?_
  refine w_get C 30 5 (Nat.le_of_ble_eq_true rfl) rfl rfl inB_X9 (by decide) tw1_203 rfl dX9_become_60 rfl ?_
  refine w_iconst C 0 dX9_become_63 rfl (by decide) ?_
  refine w_bipush C 80 dX9_become_64 rfl (by decide) ?_
  refine w_acopy C 45 33 80 80 0 0 0 80 (by intro w hw; simp only [List.mem_cons, List.not_mem_nil, or_false] at hw; rcases hw with rfl | rfl | rfl | rfl; exacts [tw3_2, tw3_4, tw3_3, tw1_22]) (Nat.le_of_ble_eq_true rfl) (Nat.le_of_ble_eq_true rfl) (fun _ => rfl) (fun _ => rfl) rfl ⟨by decide, by decide⟩ ⟨by decide, by decide⟩ ⟨by decide, by decide⟩ (by decide) (by decide) ⟨Nat.le_of_ble_eq_true rfl, Nat.le_of_ble_eq_true rfl⟩ dX9_become_66 rfl ?_
  refine w_nst h (fun u9 h => ?_)
  refine w_aload_n C dX9_become_69 rfl 1 rfl ?_
  refine w_get C 42 6 (Nat.le_of_ble_eq_true rfl) rfl rfl inB_X9 (by decide) tw1_207 rfl dX9_become_70 rfl ?_
  refine w_iconst C 0 dX9_become_73 rfl (by decide) ?_
  refine w_aload_n C dX9_become_74 rfl 0 rfl ?_
  refine w_get C 30 6 (Nat.le_of_ble_eq_true rfl) rfl rfl inB_X9 (by decide) tw1_207 rfl dX9_become_75 rfl ?_
  refine w_iconst C 0 dX9_become_78 rfl (by decide) ?_
  refine w_bipush C 48 dX9_become_79 rfl (by decide) ?_
  refine w_acopy C 46 34 48 48 0 0 0 48 (by intro w hw; simp only [List.mem_cons, List.not_mem_nil, or_false] at hw; rcases hw with rfl | rfl | rfl | rfl; exacts [tw3_2, tw3_4, tw3_3, tw1_22]) (Nat.le_of_ble_eq_true rfl) (Nat.le_of_ble_eq_true rfl) (fun _ => rfl) (fun _ => rfl) rfl ⟨by decide, by decide⟩ ⟨by decide, by decide⟩ ⟨by decide, by decide⟩ (by decide) (by decide) ⟨Nat.le_of_ble_eq_true rfl, Nat.le_of_ble_eq_true rfl⟩ dX9_become_81 rfl ?_
  refine w_nst h (fun u10 h => ?_)
  refine w_aload_n C dX9_become_84 rfl 1 rfl ?_
  refine w_get C 42 7 (Nat.le_of_ble_eq_true rfl) rfl rfl inB_X9 (by decide) tw1_210 rfl dX9_become_85 rfl ?_
  refine w_iconst C 0 dX9_become_88 rfl (by decide) ?_
  refine w_aload_n C dX9_become_89 rfl 0 rfl ?_
  refine w_get C 30 7 (Nat.le_of_ble_eq_true rfl) rfl rfl inB_X9 (by decide) tw1_210 rfl dX9_become_90 rfl ?_
  refine w_iconst C 0 dX9_become_93 rfl (by decide) ?_
  refine w_sipush C 160 dX9_become_94 rfl (by decide) ?_
  refine w_acopy C 47 35 160 160 0 0 0 160 (by intro w hw; simp only [List.mem_cons, List.not_mem_nil, or_false] at hw; rcases hw with rfl | rfl | rfl | rfl; exacts [tw3_2, tw3_4, tw3_3, tw1_22]) (Nat.le_of_ble_eq_true rfl) (Nat.le_of_ble_eq_true rfl) (fun _ => rfl) (fun _ => rfl) rfl ⟨by decide, by decide⟩ ⟨by decide, by decide⟩ ⟨by decide, by decide⟩ (by decide) (by decide) ⟨Nat.le_of_ble_eq_true rfl, Nat.le_of_ble_eq_true rfl⟩ dX9_become_97 rfl ?_
  refine w_nst h (fun u11 h => ?_)
  refine w_aload_n C dX9_become_100 rfl 1 rfl ?_
  refine w_get C 42 8 (Nat.le_of_ble_eq_true rfl) rfl rfl inB_X9 (by decide) tw1_211 rfl dX9_become_101 rfl ?_
  refine w_iconst C 0 dX9_become_104 rfl (by decide) ?_
  refine w_aload_n C dX9_become_105 rfl 0 rfl ?_
  refine w_get C 30 8 (Nat.le_of_ble_eq_true rfl) rfl rfl inB_X9 (by decide) tw1_211 rfl dX9_become_106 rfl ?_
  refine w_iconst C 0 dX9_become_109 rfl (by decide) ?_
  refine w_bipush C 8 dX9_become_110 rfl (by decide) ?_
  refine w_acopy C 48 36 8 8 0 0 0 8 (by intro w hw; simp only [List.mem_cons, List.not_mem_nil, or_false] at hw; rcases hw with rfl | rfl | rfl | rfl; exacts [tw3_2, tw3_4, tw3_3, tw1_22]) (Nat.le_of_ble_eq_true rfl) (Nat.le_of_ble_eq_true rfl) (fun _ => rfl) (fun _ => rfl) rfl ⟨by decide, by decide⟩ ⟨by decide, by decide⟩ ⟨by decide, by decide⟩ (by decide) (by decide) ⟨Nat.le_of_ble_eq_true rfl, Nat.le_of_ble_eq_true rfl⟩ dX9_become_112 rfl ?_
  refine w_nst h (fun u12 h => ?_)
  refine w_aload_n C dX9_become_115 rfl 1 rfl ?_
  refine w_get C 42 9 (Nat.le_of_ble_eq_true rfl) rfl rfl inB_X9 (by decide) tw1_213 rfl dX9_become_116 rfl ?_
  refine w_iconst C 0 dX9_become_119 rfl (by decide) ?_
  refine w_aload_n C dX9_become_120 rfl 0 rfl ?_
  refine w_get C 30 9 (Nat.le_of_ble_eq_true rfl) rfl rfl inB_X9 (by decide) tw1_213 rfl dX9_become_121 rfl ?_
  refine w_iconst C 0 dX9_become_124 rfl (by decide) ?_
  refine w_bipush C 8 dX9_become_125 rfl (by decide) ?_
  refine w_acopy C 49 37 8 8 0 0 0 8 (by intro w hw; simp only [List.mem_cons, List.not_mem_nil, or_false] at hw; rcases hw with rfl | rfl | rfl | rfl; exacts [tw3_2, tw3_4, tw3_3, tw1_22]) (Nat.le_of_ble_eq_true rfl) (Nat.le_of_ble_eq_true rfl) (fun _ => rfl) (fun _ => rfl) rfl ⟨by decide, by decide⟩ ⟨by decide, by decide⟩ ⟨by decide, by decide⟩ (by decide) (by decide) ⟨Nat.le_of_ble_eq_true rfl, Nat.le_of_ble_eq_true rfl⟩ dX9_become_127 rfl ?_
  refine w_nst h (fun u13 h => ?_)
  refine w_aload_n C dX9_become_130 rfl 1 rfl ?_
  refine w_get C 42 10 (Nat.le_of_ble_eq_true rfl) rfl rfl inB_X9 (by decide) tw1_215 rfl dX9_become_131 rfl ?_
  refine w_iconst C 0 dX9_become_134 rfl (by decide) ?_
  refine w_aload_n C dX9_become_135 rfl 0 rfl ?_
  refine w_get C 30 10 (Nat.le_of_ble_eq_true rfl) rfl rfl inB_X9 (by decide) tw1_215 rfl dX9_become_136 rfl ?_
  refine w_iconst C 0 dX9_become_139 rfl (by decide) ?_
  refine w_bipush C 8 dX9_become_140 rfl (by decide) ?_
  refine w_acopy C 50 38 8 8 0 0 0 8 (by intro w hw; simp only [List.mem_cons, List.not_mem_nil, or_false] at hw; rcases hw with rfl | rfl | rfl | rfl; exacts [tw3_2, tw3_4, tw3_3, tw1_22]) (Nat.le_of_ble_eq_true rfl) (Nat.le_of_ble_eq_true rfl) (fun _ => rfl) (fun _ => rfl) rfl ⟨by decide, by decide⟩ ⟨by decide, by decide⟩ ⟨by decide, by decide⟩ (by decide) (by decide) ⟨Nat.le_of_ble_eq_true rfl, Nat.le_of_ble_eq_true rfl⟩ dX9_become_142 rfl ?_
  refine w_nst h (fun u14 h => ?_)
  refine w_aload_n C dX9_become_145 rfl 1 rfl ?_
  refine w_get C 42 11 (Nat.le_of_ble_eq_true rfl) rfl rfl inB_X9 (by decide) tw1_217 rfl dX9_become_146 rfl ?_
  refine w_iconst C 0 dX9_become_149 rfl (by decide) ?_
  refine w_aload_n C dX9_become_150 rfl 0 rfl ?_
  refine w_get C 30 11 (Nat.le_of_ble_eq_true rfl) rfl rfl inB_X9 (by decide) tw1_217 rfl dX9_become_151 rfl ?_
  refine w_iconst C 0 dX9_become_154 rfl (by decide) ?_
  refine w_bipush C 8 dX9_become_155 rfl (by decide) ?_
  refine w_acopy C 51 39 8 8 0 0 0 8 (by intro w hw; simp only [List.mem_cons, List.not_mem_nil, or_false] at hw; rcases hw with rfl | rfl | rfl | rfl; exacts [tw3_2, tw3_4, tw3_3, tw1_22]) (Nat.le_of_ble_eq_true rfl) (Nat.le_of_ble_eq_true rfl) (fun _ => rfl) (fun _ => rfl) rfl ⟨by decide, by decide⟩ ⟨by decide, by decide⟩ ⟨by decide, by decide⟩ (by decide) (by decide) ⟨Nat.le_of_ble_eq_true rfl, Nat.le_of_ble_eq_true rfl⟩ dX9_become_157 rfl ?_
  refine w_nst h (fun u15 h => ?_)
  refine w_aload_n C dX9_become_160 rfl 1 rfl ?_
  refine w_get C 42 12 (Nat.le_of_ble_eq_true rfl) rfl rfl inB_X9 (by decide) tw1_219 rfl dX9_become_161 rfl ?_
  refine w_iconst C 0 dX9_become_164 rfl (by decide) ?_
  refine w_aload_n C dX9_become_165 rfl 0 rfl ?_
  refine w_get C 30 12 (Nat.le_of_ble_eq_true rfl) rfl rfl inB_X9 (by decide) tw1_219 rfl dX9_become_166 rfl ?_
  refine w_iconst C 0 dX9_become_169 rfl (by decide) ?_
  refine w_bipush C 8 dX9_become_170 rfl (by decide) ?_
  refine w_acopy C 52 40 8 8 0 0 0 8 (by intro w hw; simp only [List.mem_cons, List.not_mem_nil, or_false] at hw; rcases hw with rfl | rfl | rfl | rfl; exacts [tw3_2, tw3_4, tw3_3, tw1_22]) (Nat.le_of_ble_eq_true rfl) (Nat.le_of_ble_eq_true rfl) (fun _ => rfl) (fun _ => rfl) rfl ⟨by decide, by decide⟩ ⟨by decide, by decide⟩ ⟨by decide, by decide⟩ (by decide) (by decide) ⟨Nat.le_of_ble_eq_true rfl, Nat.le_of_ble_eq_true rfl⟩ dX9_become_172 rfl ?_
  refine w_nst h (fun u16 h => ?_)
  refine w_aload_n C dX9_become_175 rfl 1 rfl ?_
  refine w_get C 42 13 (Nat.le_of_ble_eq_true rfl) rfl rfl inB_X9 (by decide) tw1_221 rfl dX9_become_176 rfl ?_
  refine w_iconst C 0 dX9_become_179 rfl (by decide) ?_
  refine w_aload_n C dX9_become_180 rfl 0 rfl ?_
  refine w_get C 30 13 (Nat.le_of_ble_eq_true rfl) rfl rfl inB_X9 (by decide) tw1_221 rfl dX9_become_181 rfl ?_
  refine w_iconst C 0 dX9_become_184 rfl (by decide) ?_
  refine w_iconst C 3 dX9_become_185 rfl (by decide) ?_
  refine w_acopy C 53 41 3 3 0 0 0 3 (by intro w hw; simp only [List.mem_cons, List.not_mem_nil, or_false] at hw; rcases hw with rfl | rfl | rfl | rfl; exacts [tw3_2, tw3_4, tw3_3, tw1_22]) (Nat.le_of_ble_eq_true rfl) (Nat.le_of_ble_eq_true rfl) (fun _ => rfl) (fun _ => rfl) rfl ⟨by decide, by decide⟩ ⟨by decide, by decide⟩ ⟨by decide, by decide⟩ (by decide) (by decide) ⟨Nat.le_of_ble_eq_true rfl, Nat.le_of_ble_eq_true rfl⟩ dX9_become_186 rfl ?_
  refine w_nst h (fun u17 h => ?_)
  exact w_rv hr h (by decide) dX9_become_189
theorem cfX9_become_3 (D : va_G) (cI : ClassId) (ad : Nat → Nat) {l : Launch} (had : gAp (gC D cI ad)) {F : Nat} {σ : St}  {σ' : St} (h : fX9_become_3 F σ = some σ') : MV l yX9_become (wB yX9_become cX9_become 2 none) 1 40 (gC D cI ad) [.ref (ad 30), .ref (ad 42)] σ σ' := mk_MV had (by decide +kernel) (Nat.le_of_ble_eq_true rfl) (fun X hX C hr => wfX9_become_3 C hr h)

def fX10_restore (F : Nat) (σ : St) : Option (Int32 × St) := if (σ 0 3) = 0 then (some (0, σ)) else bd1 (fX9_become_3 F σ) fun u1 => some (1, u1)
set_option maxRecDepth 20000 in
theorem wfX10_restore {X : XT} {D : va_G} {cI : ClassId} {ad : Nat → Nat} {F : Nat} {σ : St}  {r : Int32} {σ' : St} (C : Cx X (gC D cI ad) cX10_restore 1 RX10 2 61 0) (hr : RetZ X (gC D cI ad) cX10_restore 1 0 r σ') (h : fX10_restore F σ = some (r, σ')) : WP X (gC D cI ad) 1 0 0 σ [(0, .ref (ad 0))] [] := by
  unfold fX10_restore at h
  refine w_aload_n C dX10_restore_0 rfl 0 rfl ?_
  refine w_get C 0 3 (Nat.le_of_ble_eq_true rfl) rfl rfl inB_X10 (by decide) tw2_175 rfl dX10_restore_1 rfl ?_
  refine w_if_ne C (qt := 9) dX10_restore_4 (by decide) rfl h (fun _ h => ?_) (fun _ h => ?_)
  · refine w_aload_n C dX10_restore_9 rfl 0 rfl ?_
    refine w_get C 0 7 (Nat.le_of_ble_eq_true rfl) rfl rfl inB_X10 (by decide) tw2_179 rfl dX10_restore_10 rfl ?_
    refine w_aload_n C dX10_restore_13 rfl 0 rfl ?_
    refine w_get C 0 8 (Nat.le_of_ble_eq_true rfl) rfl rfl inB_X10 (by decide) tw2_180 rfl dX10_restore_14 rfl ?_
    refine bd1_w h (fun u1 hc h => ?_)
    refine w_callVv C (As := [.ref (ad 42)]) (st := []) 30 (Nat.le_of_ble_eq_true rfl) rfl rfl (cfX9_become_3 D cI ad (l := X.2.1) C.2.2.1 hc) tw3_24 cy_X9_become (by decide +kernel) ⟨Nat.le_of_ble_eq_true rfl, Nat.le_of_ble_eq_true rfl⟩ (by decide) rfl rfl (Nat.le_of_ble_eq_true rfl) dX10_restore_17 rfl ?_
    refine w_iconst C 1 dX10_restore_20 rfl (by decide) ?_
    exact w_rz2 hr (by decide) h (by decide) dX10_restore_21
  · refine w_iconst C 0 dX10_restore_7 rfl (by decide) ?_
    exact w_rz2 hr (by decide) h (by decide) dX10_restore_8
theorem cfX10_restore (D : va_G) (cI : ClassId) (ad : Nat → Nat) {l : Launch} (had : gAp (gC D cI ad)) {F : Nat} {σ : St}  {r : Int32} {σ' : St} (h : fX10_restore F σ = some (r, σ')) : MI l yX10_restore (wB yX10_restore cX10_restore 1 (some .boolean)) 2 61 (gC D cI ad) [.ref (ad 0)] σ r σ' := mk_MZ had (by decide +kernel) (Nat.le_of_ble_eq_true rfl) (fun X hX C hr => wfX10_restore C hr h)

