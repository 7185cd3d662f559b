/-- the reference's constructor: Strings besides -/
def KM (l : Launch) (y : MethodName) (ws : List Cond) (R : Room) (D : va_G) (tys : List (ClassId × FieldType)) (sk : Nat → Nat) (mc ms a cj : Nat) (gs : List Value) (post : (Nat → Nat) → va_W) : Prop := ∀ sz : Nat,
  Met l y ws R (va_Pc [.ref a] (fun U => U.heap.size = sz ∧ va_P D vwCl [kE a cj gs] U.heap ∧ va_K D vwCl tys U ∧ NK U ∧ va_AO "java/lang/String" U ∧ (∀ q ∈ strR, vk_R q.1 q.2.1 q.2.2.1 (sk q.2.2.2) U) ∧ (∀ i, i < 17 → va_O "java/lang/String" (sk i) (va_A [kE a cj gs] sz) U U.heap))) (va_Qv (fun _ : Nat → Nat => True) (fun u t => va_P D vwCl (post u) t.heap ∧ va_D (va_A [kE a cj gs] sz) (post u)) (va_A [kE a cj gs] sz)) mc ms (va_A [kE a cj gs] sz)
theorem mk_KM {l : Launch} {D : va_G} {tys : List (ClassId × FieldType)} {cc : ByteArray} {fs : List Value} {sk : Nat → Nat} {y : MethodName} {maxL fr lo mc ms a ci : Nat} {post : (Nat → Nat) → va_W} (hy : plainName y.cls = true) (hyi : y.name = "<init>") (hlen : (lg_sl [.ref a]).length ≤ maxL) (body : ∀ (X : XT) (A : Nat → Prop), X.2.1 = l → Cy X D tys A cc maxL y.cls { frames := fr, cells := mc, slots := ms, locals := lo } → va_AO "java/lang/String" (xs X) → (∀ q ∈ strR, vk_R q.1 q.2.1 q.2.2.1 (sk q.2.2.2) (xs X)) → (∀ i, i < 17 → va_O "java/lang/String" (sk i) A (xs X) (xs X).heap) → RetK X D A cc maxL mc ms a ci post → WK X D A maxL 0 0 0 a ci fs [] (lv_args 0 [.ref a]) []) : KM l y (wB y cc maxL none) { frames := fr, cells := mc, slots := ms, locals := lo } D tys sk mc ms a ci fs post := by
  intro sz
  refine Met.ofW (cc := cc) (maxL := maxL) (ret := none) hy rfl ?_
  intro p e s m args below meth c s₁ B hml hv
  obtain ⟨rfl, hsz, hP, hK, hN, hO, hR, hSt⟩ := hv
  subst hsz
  have hts := fun w (hw : w ∈ BG) => atoms_spec (ws := wB y cc maxL none) B.pre w (List.mem_cons_of_mem _ hw)
  have hown : s.vm.findClass y.cls = some m.cls := findClass_of_methodNamed B.named
  have hin : meth.name = "<init>" := (name_of_methodNamed B.named B.method).1.trans hyi
  have hl := lv_entry [.ref a] (n := maxL) hlen
  rw [lg_entry_eq]
  generalize (lg_sl [.ref a] ++ List.replicate (maxL - (lg_sl [.ref a]).length) Slot.unset).toArray = ls at hl ⊢
  have hD0 : va_D (fun _ => True) [kE a ci fs] := ⟨fun i j p q hi hj _ => by
    have h1 : i < 1 := by simpa using (List.getElem?_eq_some_iff.mp hi).1
    have h2 : j < 1 := by simpa using (List.getElem?_eq_some_iff.mp hj).1
    omega, fun _ _ _ => trivial⟩
  have hD := hD0.self (sz := s.heap.size)
  generalize hAe : va_A [kE a ci fs] s.heap.size = A at hD hSt ⊢
  have hA : ∀ q : Nat, s.heap.size ≤ q → A q := fun q h => by rw [← hAe]; exact Or.inr h
  refine body (p, l, e, (headSpec (wB y cc maxL none) { frames := fr, cells := mc, slots := ms, locals := lo }).room, s, m, [.ref a].toArray, below, meth, c, _) A rfl ⟨⟨B.exec, B.bytes, hml, hown, hts⟩, hK, hA, hN, rfl, hin⟩ hO hR hSt ?_ s.heap [] ls hl hP hD va_S.rf
  intro pc lv fs9 pre u hdg he H locs ls hl hP hD hS
  rw [he] at hP hD
  exact W.vret B.exec B.bytes B.returns (fun t ht hW => ⟨⟨u, rfl, trivial, by rw [ht]; exact hP, hD⟩, hS.F ht⟩) hS.2.2 hdg B.notSynchronized
def kpX11 (cI cT : ClassId) (sk : Nat → Nat) (h0 : Nat) (u : Nat → Nat) : va_W := (h0, .inr (11, [.ref (u 0), .ref (u 1), .ref (u 2), .ref (u 3), .int 0, .ref (u 4), .ref (u 5), .ref (u 6), .ref (u 7), .ref (u 8), .ref (u 9), .ref (u 10), .ref (u 11), .ref (u 12), .ref (u 13), .ref (u 14), .ref (u 15), .ref (u 16), .int 0, .int 0, .int 0, .int 0, .int 0, .int 0, .int 0, .int 0, .int 0, .int (-1), .ref (u 17), .ref (u 18), .ref (u 19), .int 0, .int 0, .int 0, .int 0, .ref (u 20), .ref (u 21), .ref (u 22), .int 0, .ref (u 23), .ref (u 24), .ref (u 25), .ref (u 26), .ref (u 27), .ref (u 28), .ref (u 29), .ref (u 30), .ref (u 31), .int 0, .ref (u 32), .int 0, .int 0, .int 0, .ref (u 33), .ref (u 34), .ref (u 35), .ref (u 36), .ref (u 37), .ref (u 38), .ref (u 39), .ref (u 40)])) :: (((((((((((((((((((((((((((((((((((((((((([] : va_W) ++ [((u 0), .inl (cT, 5, .inr (.inr (.inr (.inr (va_up (va_up (va_up (va_up (va_up (fun _ => none) 0 (some (sk 0))) 1 (some (sk 1))) 2 (some (sk 2))) 3 (some (sk 3))) 4 (some (sk 4))))))))]) ++ [((u 1), .inl (cT, 6, .inr (.inr (.inr (.inr (va_up (va_up (va_up (va_up (va_up (va_up (fun _ => none) 0 (some (sk 8))) 1 (some (sk 9))) 2 (some (sk 10))) 3 (some (sk 2))) 4 (some (sk 11))) 5 (some (sk 12))))))))]) ++ [((u 2), .inl (cI, 4, .inl (upd (upd (upd (upd (fun _ => 0) 0 1) 1 0) 2 (-1)) 3 0)))]) ++ [((u 3), .inl (cI, 4, .inl (upd (upd (upd (upd (fun _ => 0) 0 0) 1 1) 2 0) 3 (-1))))]) ++ [((u 4), .inl (cI, 8, .inl (upd (upd (upd (upd (upd (upd (upd (upd (fun _ => 0) 0 0) 1 0) 2 12) 3 0) 4 0) 5 0) 6 12) 7 0)))]) ++ [((u 5), .inl (cI, 12, .inl (fun _ => 0)))]) ++ [((u 6), .inl (cI, 16, .inl (fun _ => 0)))]) ++ [((u 7), .inl (cI, 16, .inl (fun _ => 0)))]) ++ [((u 8), .inl (cI, 16, .inl (fun _ => 0)))]) ++ [((u 9), .inl (cI, 16, .inl (fun _ => 0)))]) ++ [((u 10), .inl (cI, 160, .inl (fun _ => 0)))]) ++ [((u 11), .inl (cI, 160, .inl (fun _ => 0)))]) ++ [((u 12), .inl (cI, 160, .inl (fun _ => 0)))]) ++ [((u 13), .inl (cI, 160, .inl (fun _ => 0)))]) ++ [((u 14), .inl (cI, 1400, .inl (fun _ => 0)))]) ++ [((u 15), .inl (cI, 3, .inl (fun _ => 0)))]) ++ [((u 16), .inl (cI, 700, .inl (fun _ => 0)))]) ++ [((u 17), .inl (cI, 8, .inl (fun _ => 0)))]) ++ [((u 18), .inl (cI, 48, .inl (fun _ => 0)))]) ++ [((u 19), .inl (cI, 5520, .inl (fun _ => 0)))]) ++ [((u 20), .inl (cI, 2, .inl (fun _ => 0)))]) ++ [((u 21), .inl (cI, 2, .inl (fun _ => 0)))]) ++ [((u 22), .inl (cI, 2, .inl (fun _ => 0)))]) ++ [((u 23), .inl (cI, 6, .inl (fun _ => 0)))]) ++ [((u 24), .inl (cI, 64, .inl (fun _ => 0)))]) ++ [((u 25), .inl (cI, 8, .inl (fun _ => 0)))]) ++ [((u 26), .inl (cI, 8, .inl (fun _ => 0)))]) ++ [((u 27), .inl (cI, 8, .inl (fun _ => 0)))]) ++ [((u 28), .inl (cI, 8, .inl (fun _ => 0)))]) ++ [((u 29), .inl (cI, 8, .inl (fun _ => 0)))]) ++ [((u 30), .inl (cI, 8, .inl (fun _ => 0)))]) ++ [((u 31), .inl (cI, 8, .inl (fun _ => 0)))]) ++ [((u 32), .inl (cI, 138, .inl (fun _ => 0)))]) ++ [((u 33), .inl (cI, 138, .inl (fun _ => 0)))]) ++ [((u 34), .inl (cI, 5520, .inl (fun _ => 0)))]) ++ [((u 35), .inl (cI, 8, .inl (fun _ => 0)))]) ++ [((u 36), .inl (cI, 8, .inl (fun _ => 0)))]) ++ [((u 37), .inl (cI, 8, .inl (fun _ => 0)))]) ++ [((u 38), .inl (cI, 8, .inl (fun _ => 0)))]) ++ [((u 39), .inl (cI, 8, .inl (fun _ => 0)))]) ++ [((u 40), .inl (cI, 3, .inl (fun _ => 0)))])
set_option maxRecDepth 40000 in
set_option maxHeartbeats 4000000 in
theorem wkX11 {X : XT} {A : Nat → Prop} (D : va_G) (cI cT : ClassId) (sk : Nat → Nat) (h0 : Nat) (C : Cy X D [(cI, .int), (cT, .object "java/lang/String")] A cX11_init 1 RX11 { frames := 1, cells := 41, slots := 14393, locals := 12 }) (hO : va_AO "java/lang/String" (xs X)) (hR : ∀ q ∈ strR, vk_R q.1 q.2.1 q.2.2.1 (sk q.2.2.2) (xs X)) (hSt : ∀ i, i < 17 → va_O "java/lang/String" (sk i) A (xs X) (xs X).heap) (hr : RetK X D A cX11_init 1 41 14393 h0 11 (kpX11 cI cT sk h0)) : WK X D A 1 0 0 0 h0 11 [.null, .null, .null, .null, .int 0, .null, .null, .null, .null, .null, .null, .null, .null, .null, .null, .null, .null, .null, .int 0, .int 0, .int 0, .int 0, .int 0, .int 0, .int 0, .int 0, .int 0, .int 0, .null, .null, .null, .int 0, .int 0, .int 0, .int 0, .null, .null, .null, .int 0, .null, .null, .null, .null, .null, .null, .null, .null, .null, .int 0, .null, .int 0, .int 0, .int 0, .null, .null, .null, .null, .null, .null, .null, .null] [] [(0, .ref h0)] [] := by
  refine k_aload_n C dX11_init_0 rfl 0 rfl ?_
  refine k_obj C tw6_148 tw1_32 tw1_33 dX11_init_1 rfl ⟨by decide, by decide⟩ ?_
  refine k_aload_n C dX11_init_4 rfl 0 rfl ?_
  refine k_iconst C 5 dX11_init_5 rfl (by decide) ?_
  refine k_newS C (cT := cT) 5 1 5 rfl hO tw6_149 (by decide) (by decide) (by decide) ⟨rfl, rfl⟩ ⟨by decide, by decide⟩ dX11_init_6 rfl (fun q0 => ?_)
  refine k_dup C rfl dX11_init_9 rfl ?_
  refine k_iconst C 0 dX11_init_10 rfl (by decide) ?_
  refine k_ldcS C hR (tx := "step") 0 (by decide) dX11_init_11 rfl ?_
  refine k_aastL C rfl hSt 0 0 (by decide) (by decide) (by show ¬ (_ ∨ _); decide) dX11_init_13 rfl ?_
  refine k_dup C rfl dX11_init_14 rfl ?_
  refine k_iconst C 1 dX11_init_15 rfl (by decide) ?_
  refine k_ldcS C hR (tx := "turn") 1 (by decide) dX11_init_16 rfl ?_
  refine k_aastL C rfl hSt 1 1 (by decide) (by decide) (by show ¬ (_ ∨ _); decide) dX11_init_18 rfl ?_
  refine k_dup C rfl dX11_init_19 rfl ?_
  refine k_iconst C 2 dX11_init_20 rfl (by decide) ?_
  refine k_ldcS C hR (tx := "hop") 2 (by decide) dX11_init_21 rfl ?_
  refine k_aastL C rfl hSt 2 2 (by decide) (by decide) (by show ¬ (_ ∨ _); decide) dX11_init_23 rfl ?_
  refine k_dup C rfl dX11_init_24 rfl ?_
  refine k_iconst C 3 dX11_init_25 rfl (by decide) ?_
  refine k_ldcS C hR (tx := "glove") 3 (by decide) dX11_init_26 rfl ?_
  refine k_aastL C rfl hSt 3 3 (by decide) (by decide) (by show ¬ (_ ∨ _); decide) dX11_init_28 rfl ?_
  refine k_dup C rfl dX11_init_29 rfl ?_
  refine k_iconst C 4 dX11_init_30 rfl (by decide) ?_
  refine k_ldcS C hR (tx := "bow") 4 (by decide) dX11_init_31 rfl ?_
  refine k_aastL C rfl hSt 4 4 (by decide) (by decide) (by show ¬ (_ ∨ _); decide) dX11_init_33 rfl ?_
  refine k_putF C 0 [.ref q0, .null, .null, .null, .int 0, .null, .null, .null, .null, .null, .null, .null, .null, .null, .null, .null, .null, .null, .int 0, .int 0, .int 0, .int 0, .int 0, .int 0, .int 0, .int 0, .int 0, .int 0, .null, .null, .null, .int 0, .int 0, .int 0, .int 0, .null, .null, .null, .int 0, .null, .null, .null, .null, .null, .null, .null, .null, .null, .int 0, .null, .int 0, .int 0, .int 0, .null, .null, .null, .null, .null, .null, .null, .null] rfl inB_X11 tyX11_ok nmX11 (by decide) tw6_161 rfl rfl rfl rfl (Nat.le_of_ble_eq_true rfl) rfl dX11_init_34 rfl ?_
  refine k_aload_n C dX11_init_37 rfl 0 rfl ?_
  refine k_bipush C 6 dX11_init_38 rfl (by decide) ?_
  refine k_newS C (cT := cT) 6 2 11 rfl hO tw6_149 (by decide) (by decide) (by decide) ⟨rfl, rfl⟩ ⟨by decide, by decide⟩ dX11_init_40 rfl (fun q1 => ?_)
  refine k_dup C rfl dX11_init_43 rfl ?_
  refine k_iconst C 0 dX11_init_44 rfl (by decide) ?_
  refine k_ldcS C hR (tx := "n") 8 (by decide) dX11_init_45 rfl ?_
  refine k_aastL C rfl hSt 0 8 (by decide) (by decide) (by show ¬ (_ ∨ _); decide) dX11_init_47 rfl ?_
  refine k_dup C rfl dX11_init_48 rfl ?_
  refine k_iconst C 1 dX11_init_49 rfl (by decide) ?_
  refine k_ldcS C hR (tx := "about") 9 (by decide) dX11_init_50 rfl ?_
  refine k_aastL C rfl hSt 1 9 (by decide) (by decide) (by show ¬ (_ ∨ _); decide) dX11_init_52 rfl ?_
  refine k_dup C rfl dX11_init_53 rfl ?_
  refine k_iconst C 2 dX11_init_54 rfl (by decide) ?_
  refine k_ldcS C hR (tx := "time") 10 (by decide) dX11_init_55 rfl ?_
  refine k_aastL C rfl hSt 2 10 (by decide) (by decide) (by show ¬ (_ ∨ _); decide) dX11_init_57 rfl ?_
  refine k_dup C rfl dX11_init_58 rfl ?_
  refine k_iconst C 3 dX11_init_59 rfl (by decide) ?_
  refine k_ldcS C hR (tx := "hop") 2 (by decide) dX11_init_60 rfl ?_
  refine k_aastL C rfl hSt 3 2 (by decide) (by decide) (by show ¬ (_ ∨ _); decide) dX11_init_62 rfl ?_
  refine k_dup C rfl dX11_init_63 rfl ?_
  refine k_iconst C 4 dX11_init_64 rfl (by decide) ?_
  refine k_ldcS C hR (tx := "place") 11 (by decide) dX11_init_65 rfl ?_
  refine k_aastL C rfl hSt 4 11 (by decide) (by decide) (by show ¬ (_ ∨ _); decide) dX11_init_67 rfl ?_
  refine k_dup C rfl dX11_init_68 rfl ?_
  refine k_iconst C 5 dX11_init_69 rfl (by decide) ?_
  refine k_ldcS C hR (tx := "lead") 12 (by decide) dX11_init_70 rfl ?_
  refine k_aastL C rfl hSt 5 12 (by decide) (by decide) (by show ¬ (_ ∨ _); decide) dX11_init_72 rfl ?_
  refine k_putF C 1 [.ref q0, .ref q1, .null, .null, .int 0, .null, .null, .null, .null, .null, .null, .null, .null, .null, .null, .null, .null, .null, .int 0, .int 0, .int 0, .int 0, .int 0, .int 0, .int 0, .int 0, .int 0, .int 0, .null, .null, .null, .int 0, .int 0, .int 0, .int 0, .null, .null, .null, .int 0, .null, .null, .null, .null, .null, .null, .null, .null, .null, .int 0, .null, .int 0, .int 0, .int 0, .null, .null, .null, .null, .null, .null, .null, .null] rfl inB_X11 tyX11_ok nmX11 (by decide) tw6_162 rfl rfl rfl rfl (Nat.le_of_ble_eq_true rfl) rfl dX11_init_73 rfl ?_
  refine k_aload_n C dX11_init_76 rfl 0 rfl ?_
  refine k_iconst C 4 dX11_init_77 rfl (by decide) ?_
  refine k_newa C (cI := cI) 4 3 15 rfl tw_arrI (by decide) (by decide) (by decide) ⟨rfl, rfl⟩ ⟨by decide, by decide⟩ dX11_init_78 rfl (fun q2 => ?_)
  refine k_dup C rfl dX11_init_80 rfl ?_
  refine k_iconst C 0 dX11_init_81 rfl (by decide) ?_
  refine k_iconst C 1 dX11_init_82 rfl (by decide) ?_
  refine k_iastL C rfl 0 (by decide) (by show ¬ (_ ∨ _); decide) dX11_init_83 rfl ?_
  refine k_dup C rfl dX11_init_84 rfl ?_
  refine k_iconst C 1 dX11_init_85 rfl (by decide) ?_
  refine k_iconst C 0 dX11_init_86 rfl (by decide) ?_
  refine k_iastL C rfl 1 (by decide) (by show ¬ (_ ∨ _); decide) dX11_init_87 rfl ?_
  refine k_dup C rfl dX11_init_88 rfl ?_
  refine k_iconst C 2 dX11_init_89 rfl (by decide) ?_
  refine k_iconst C (-1) dX11_init_90 rfl (by decide) ?_
  refine k_iastL C rfl 2 (by decide) (by show ¬ (_ ∨ _); decide) dX11_init_91 rfl ?_
  refine k_dup C rfl dX11_init_92 rfl ?_
  refine k_iconst C 3 dX11_init_93 rfl (by decide) ?_
  refine k_iconst C 0 dX11_init_94 rfl (by decide) ?_
  refine k_iastL C rfl 3 (by decide) (by show ¬ (_ ∨ _); decide) dX11_init_95 rfl ?_
  refine k_putF C 2 [.ref q0, .ref q1, .ref q2, .null, .int 0, .null, .null, .null, .null, .null, .null, .null, .null, .null, .null, .null, .null, .null, .int 0, .int 0, .int 0, .int 0, .int 0, .int 0, .int 0, .int 0, .int 0, .int 0, .null, .null, .null, .int 0, .int 0, .int 0, .int 0, .null, .null, .null, .int 0, .null, .null, .null, .null, .null, .null, .null, .null, .null, .int 0, .null, .int 0, .int 0, .int 0, .null, .null, .null, .null, .null, .null, .null, .null] rfl inB_X11 tyX11_ok nmX11 (by decide) tw6_163 rfl rfl rfl rfl (Nat.le_of_ble_eq_true rfl) rfl dX11_init_96 rfl ?_
  refine k_aload_n C dX11_init_99 rfl 0 rfl ?_
  refine k_iconst C 4 dX11_init_100 rfl (by decide) ?_
  refine k_newa C (cI := cI) 4 4 19 rfl tw_arrI (by decide) (by decide) (by decide) ⟨rfl, rfl⟩ ⟨by decide, by decide⟩ dX11_init_101 rfl (fun q3 => ?_)
  refine k_dup C rfl dX11_init_103 rfl ?_
  refine k_iconst C 0 dX11_init_104 rfl (by decide) ?_
  refine k_iconst C 0 dX11_init_105 rfl (by decide) ?_
  refine k_iastL C rfl 0 (by decide) (by show ¬ (_ ∨ _); decide) dX11_init_106 rfl ?_
  refine k_dup C rfl dX11_init_107 rfl ?_
  refine k_iconst C 1 dX11_init_108 rfl (by decide) ?_
  refine k_iconst C 1 dX11_init_109 rfl (by decide) ?_
  refine k_iastL C rfl 1 (by decide) (by show ¬ (_ ∨ _); decide) dX11_init_110 rfl ?_
  refine k_dup C rfl dX11_init_111 rfl ?_
  refine k_iconst C 2 dX11_init_112 rfl (by decide) ?_
  refine k_iconst C 0 dX11_init_113 rfl (by decide) ?_
  refine k_iastL C rfl 2 (by decide) (by show ¬ (_ ∨ _); decide) dX11_init_114 rfl ?_
  refine k_dup C rfl dX11_init_115 rfl ?_
  refine k_iconst C 3 dX11_init_116 rfl (by decide) ?_
  refine k_iconst C (-1) dX11_init_117 rfl (by decide) ?_
  refine k_iastL C rfl 3 (by decide) (by show ¬ (_ ∨ _); decide) dX11_init_118 rfl ?_
  refine k_putF C 3 [.ref q0, .ref q1, .ref q2, .ref q3, .int 0, .null, .null, .null, .null, .null, .null, .null, .null, .null, .null, .null, .null, .null, .int 0, .int 0, .int 0, .int 0, .int 0, .int 0, .int 0, .int 0, .int 0, .int 0, .null, .null, .null, .int 0, .int 0, .int 0, .int 0, .null, .null, .null, .int 0, .null, .null, .null, .null, .null, .null, .null, .null, .null, .int 0, .null, .int 0, .int 0, .int 0, .null, .null, .null, .null, .null, .null, .null, .null] rfl inB_X11 tyX11_ok nmX11 (by decide) tw6_164 rfl rfl rfl rfl (Nat.le_of_ble_eq_true rfl) rfl dX11_init_119 rfl ?_
  refine k_aload_n C dX11_init_122 rfl 0 rfl ?_
  refine k_bipush C 8 dX11_init_123 rfl (by decide) ?_
  refine k_newa C (cI := cI) 8 5 27 rfl tw_arrI (by decide) (by decide) (by decide) ⟨rfl, rfl⟩ ⟨by decide, by decide⟩ dX11_init_125 rfl (fun q4 => ?_)
  refine k_dup C rfl dX11_init_127 rfl ?_
  refine k_iconst C 0 dX11_init_128 rfl (by decide) ?_
  refine k_iconst C 0 dX11_init_129 rfl (by decide) ?_
  refine k_iastL C rfl 0 (by decide) (by show ¬ (_ ∨ _); decide) dX11_init_130 rfl ?_
  refine k_dup C rfl dX11_init_131 rfl ?_
  refine k_iconst C 1 dX11_init_132 rfl (by decide) ?_
  refine k_iconst C 0 dX11_init_133 rfl (by decide) ?_
  refine k_iastL C rfl 1 (by decide) (by show ¬ (_ ∨ _); decide) dX11_init_134 rfl ?_
  refine k_dup C rfl dX11_init_135 rfl ?_
  refine k_iconst C 2 dX11_init_136 rfl (by decide) ?_
  refine k_bipush C 12 dX11_init_137 rfl (by decide) ?_
  refine k_iastL C rfl 2 (by decide) (by show ¬ (_ ∨ _); decide) dX11_init_139 rfl ?_
  refine k_dup C rfl dX11_init_140 rfl ?_
  refine k_iconst C 3 dX11_init_141 rfl (by decide) ?_
  refine k_iconst C 0 dX11_init_142 rfl (by decide) ?_
  refine k_iastL C rfl 3 (by decide) (by show ¬ (_ ∨ _); decide) dX11_init_143 rfl ?_
  refine k_dup C rfl dX11_init_144 rfl ?_
  refine k_iconst C 4 dX11_init_145 rfl (by decide) ?_
  refine k_iconst C 0 dX11_init_146 rfl (by decide) ?_
  refine k_iastL C rfl 4 (by decide) (by show ¬ (_ ∨ _); decide) dX11_init_147 rfl ?_
  refine k_dup C rfl dX11_init_148 rfl ?_
  refine k_iconst C 5 dX11_init_149 rfl (by decide) ?_
  refine k_iconst C 0 dX11_init_150 rfl (by decide) ?_
  refine k_iastL C rfl 5 (by decide) (by show ¬ (_ ∨ _); decide) dX11_init_151 rfl ?_
  refine k_dup C rfl dX11_init_152 rfl ?_
  refine k_bipush C 6 dX11_init_153 rfl (by decide) ?_
  refine k_bipush C 12 dX11_init_155 rfl (by decide) ?_
  refine k_iastL C rfl 6 (by decide) (by show ¬ (_ ∨ _); decide) dX11_init_157 rfl ?_
  refine k_dup C rfl dX11_init_158 rfl ?_
  refine k_bipush C 7 dX11_init_159 rfl (by decide) ?_
  refine k_iconst C 0 dX11_init_161 rfl (by decide) ?_
  refine k_iastL C rfl 7 (by decide) (by show ¬ (_ ∨ _); decide) dX11_init_162 rfl ?_
  refine k_putF C 5 [.ref q0, .ref q1, .ref q2, .ref q3, .int 0, .ref q4, .null, .null, .null, .null, .null, .null, .null, .null, .null, .null, .null, .null, .int 0, .int 0, .int 0, .int 0, .int 0, .int 0, .int 0, .int 0, .int 0, .int 0, .null, .null, .null, .int 0, .int 0, .int 0, .int 0, .null, .null, .null, .int 0, .null, .null, .null, .null, .null, .null, .null, .null, .null, .int 0, .null, .int 0, .int 0, .int 0, .null, .null, .null, .null, .null, .null, .null, .null] rfl inB_X11 tyX11_ok nmX11 (by decide) tw6_166 rfl rfl rfl rfl (Nat.le_of_ble_eq_true rfl) rfl dX11_init_163 rfl ?_
  refine k_aload_n C dX11_init_166 rfl 0 rfl ?_
  refine k_bipush C 12 dX11_init_167 rfl (by decide) ?_
  refine k_newa C (cI := cI) 12 6 39 rfl tw_arrI (by decide) (by decide) (by decide) ⟨rfl, rfl⟩ ⟨by decide, by decide⟩ dX11_init_169 rfl (fun q5 => ?_)
  refine k_putF C 6 [.ref q0, .ref q1, .ref q2, .ref q3, .int 0, .ref q4, .ref q5, .null, .null, .null, .null, .null, .null, .null, .null, .null, .null, .null, .int 0, .int 0, .int 0, .int 0, .int 0, .int 0, .int 0, .int 0, .int 0, .int 0, .null, .null, .null, .int 0, .int 0, .int 0, .int 0, .null, .null, .null, .int 0, .null, .null, .null, .null, .null, .null, .null, .null, .null, .int 0, .null, .int 0, .int 0, .int 0, .null, .null, .null, .null, .null, .null, .null, .null] rfl inB_X11 tyX11_ok nmX11 (by decide) tw6_167 rfl rfl rfl rfl (Nat.le_of_ble_eq_true rfl) rfl dX11_init_171 rfl ?_
  refine k_aload_n C dX11_init_174 rfl 0 rfl ?_
  refine k_bipush C 16 dX11_init_175 rfl (by decide) ?_
  refine k_newa C (cI := cI) 16 7 55 rfl tw_arrI (by decide) (by decide) (by decide) ⟨rfl, rfl⟩ ⟨by decide, by decide⟩ dX11_init_177 rfl (fun q6 => ?_)
  refine k_putF C 7 [.ref q0, .ref q1, .ref q2, .ref q3, .int 0, .ref q4, .ref q5, .ref q6, .null, .null, .null, .null, .null, .null, .null, .null, .null, .null, .int 0, .int 0, .int 0, .int 0, .int 0, .int 0, .int 0, .int 0, .int 0, .int 0, .null, .null, .null, .int 0, .int 0, .int 0, .int 0, .null, .null, .null, .int 0, .null, .null, .null, .null, .null, .null, .null, .null, .null, .int 0, .null, .int 0, .int 0, .int 0, .null, .null, .null, .null, .null, .null, .null, .null] rfl inB_X11 tyX11_ok nmX11 (by decide) tw6_168 rfl rfl rfl rfl (Nat.le_of_ble_eq_true rfl) rfl dX11_init_179 rfl ?_
  refine k_aload_n C dX11_init_182 rfl 0 rfl ?_
  refine k_bipush C 16 dX11_init_183 rfl (by decide) ?_
  refine k_newa C (cI := cI) 16 8 71 rfl tw_arrI (by decide) (by decide) (by decide) ⟨rfl, rfl⟩ ⟨by decide, by decide⟩ dX11_init_185 rfl (fun q7 => ?_)
  refine k_putF C 8 [.ref q0, .ref q1, .ref q2, .ref q3, .int 0, .ref q4, .ref q5, .ref q6, .ref q7, .null, .null, .null, .null, .null, .null, .null, .null, .null, .int 0, .int 0, .int 0, .int 0, .int 0, .int 0, .int 0, .int 0, .int 0, .int 0, .null, .null, .null, .int 0, .int 0, .int 0, .int 0, .null, .null, .null, .int 0, .null, .null, .null, .null, .null, .null, .null, .null, .null, .int 0, .null, .int 0, .int 0, .int 0, .null, .null, .null, .null, .null, .null, .null, .null] rfl inB_X11 tyX11_ok nmX11 (by decide) tw6_169 rfl rfl rfl rfl (Nat.le_of_ble_eq_true rfl) rfl dX11_init_187 rfl ?_
  refine k_aload_n C dX11_init_190 rfl 0 rfl ?_
  refine k_bipush C 16 dX11_init_191 rfl (by decide) ?_
  refine k_newa C (cI := cI) 16 9 87 rfl tw_arrI (by decide) (by decide) (by decide) ⟨rfl, rfl⟩ ⟨by decide, by decide⟩ dX11_init_193 rfl (fun q8 => ?_)
  refine k_putF C 9 [.ref q0, .ref q1, .ref q2, .ref q3, .int 0, .ref q4, .ref q5, .ref q6, .ref q7, .ref q8, .null, .null, .null, .null, .null, .null, .null, .null, .int 0, .int 0, .int 0, .int 0, .int 0, .int 0, .int 0, .int 0, .int 0, .int 0, .null, .null, .null, .int 0, .int 0, .int 0, .int 0, .null, .null, .null, .int 0, .null, .null, .null, .null, .null, .null, .null, .null, .null, .int 0, .null, .int 0, .int 0, .int 0, .null, .null, .null, .null, .null, .null, .null, .null] rfl inB_X11 tyX11_ok nmX11 (by decide) tw6_170 rfl rfl rfl rfl (Nat.le_of_ble_eq_true rfl) rfl dX11_init_195 rfl ?_
  refine k_aload_n C dX11_init_198 rfl 0 rfl ?_
  refine k_bipush C 16 dX11_init_199 rfl (by decide) ?_
  refine k_newa C (cI := cI) 16 10 103 rfl tw_arrI (by decide) (by decide) (by decide) ⟨rfl, rfl⟩ ⟨by decide, by decide⟩ dX11_init_201 rfl (fun q9 => ?_)
  refine k_putF C 10 [.ref q0, .ref q1, .ref q2, .ref q3, .int 0, .ref q4, .ref q5, .ref q6, .ref q7, .ref q8, .ref q9, .null, .null, .null, .null, .null, .null, .null, .int 0, .int 0, .int 0, .int 0, .int 0, .int 0, .int 0, .int 0, .int 0, .int 0, .null, .null, .null, .int 0, .int 0, .int 0, .int 0, .null, .null, .null, .int 0, .null, .null, .null, .null, .null, .null, .null, .null, .null, .int 0, .null, .int 0, .int 0, .int 0, .null, .null, .null, .null, .null, .null, .null, .null] rfl inB_X11 tyX11_ok nmX11 (by decide) tw6_171 rfl rfl rfl rfl (Nat.le_of_ble_eq_true rfl) rfl dX11_init_203 rfl ?_
  refine k_aload_n C dX11_init_206 rfl 0 rfl ?_
  refine k_sipush C 160 dX11_init_207 rfl (by decide) ?_
  refine k_newa C (cI := cI) 160 11 263 rfl tw_arrI (by decide) (by decide) (by decide) ⟨rfl, rfl⟩ ⟨by decide, by decide⟩ dX11_init_210 rfl (fun q10 => ?_)
  refine k_putF C 11 [.ref q0, .ref q1, .ref q2, .ref q3, .int 0, .ref q4, .ref q5, .ref q6, .ref q7, .ref q8, .ref q9, .ref q10, .null, .null, .null, .null, .null, .null, .int 0, .int 0, .int 0, .int 0, .int 0, .int 0, .int 0, .int 0, .int 0, .int 0, .null, .null, .null, .int 0, .int 0, .int 0, .int 0, .null, .null, .null, .int 0, .null, .null, .null, .null, .null, .null, .null, .null, .null, .int 0, .null, .int 0, .int 0, .int 0, .null, .null, .null, .null, .null, .null, .null, .null] rfl inB_X11 tyX11_ok nmX11 (by decide) tw6_172 rfl rfl rfl rfl (Nat.le_of_ble_eq_true rfl) rfl dX11_init_212 rfl ?_
  refine k_aload_n C dX11_init_215 rfl 0 rfl ?_
  refine k_sipush C 160 dX11_init_216 rfl (by decide) ?_
  refine k_newa C (cI := cI) 160 12 423 rfl tw_arrI (by decide) (by decide) (by decide) ⟨rfl, rfl⟩ ⟨by decide, by decide⟩ dX11_init_219 rfl (fun q11 => ?_)
  refine k_putF C 12 [.ref q0, .ref q1, .ref q2, .ref q3, .int 0, .ref q4, .ref q5, .ref q6, .ref q7, .ref q8, .ref q9, .ref q10, .ref q11, .null, .null, .null, .null, .null, .int 0, .int 0, .int 0, .int 0, .int 0, .int 0, .int 0, .int 0, .int 0, .int 0, .null, .null, .null, .int 0, .int 0, .int 0, .int 0, .null, .null, .null, .int 0, .null, .null, .null, .null, .null, .null, .null, .null, .null, .int 0, .null, .int 0, .int 0, .int 0, .null, .null, .null, .null, .null, .null, .null, .null] rfl inB_X11 tyX11_ok nmX11 (by decide) tw6_173 rfl rfl rfl rfl (Nat.le_of_ble_eq_true rfl) rfl dX11_init_221 rfl ?_
  refine k_aload_n C dX11_init_224 rfl 0 rfl ?_
  refine k_sipush C 160 dX11_init_225 rfl (by decide) ?_
  refine k_newa C (cI := cI) 160 13 583 rfl tw_arrI (by decide) (by decide) (by decide) ⟨rfl, rfl⟩ ⟨by decide, by decide⟩ dX11_init_228 rfl (fun q12 => ?_)
  refine k_putF C 13 [.ref q0, .ref q1, .ref q2, .ref q3, .int 0, .ref q4, .ref q5, .ref q6, .ref q7, .ref q8, .ref q9, .ref q10, .ref q11, .ref q12, .null, .null, .null, .null, .int 0, .int 0, .int 0, .int 0, .int 0, .int 0, .int 0, .int 0, .int 0, .int 0, .null, .null, .null, .int 0, .int 0, .int 0, .int 0, .null, .null, .null, .int 0, .null, .null, .null, .null, .null, .null, .null, .null, .null, .int 0, .null, .int 0, .int 0, .int 0, .null, .null, .null, .null, .null, .null, .null, .null] rfl inB_X11 tyX11_ok nmX11 (by decide) tw6_174 rfl rfl rfl rfl (Nat.le_of_ble_eq_true rfl) rfl dX11_init_230 rfl ?_
  refine k_aload_n C dX11_init_233 rfl 0 rfl ?_
  refine k_sipush C 160 dX11_init_234 rfl (by decide) ?_
  refine k_newa C (cI := cI) 160 14 743 rfl tw_arrI (by decide) (by decide) (by decide) ⟨rfl, rfl⟩ ⟨by decide, by decide⟩ dX11_init_237 rfl (fun q13 => ?_)
  refine k_putF C 14 [.ref q0, .ref q1, .ref q2, .ref q3, .int 0, .ref q4, .ref q5, .ref q6, .ref q7, .ref q8, .ref q9, .ref q10, .ref q11, .ref q12, .ref q13, .null, .null, .null, .int 0, .int 0, .int 0, .int 0, .int 0, .int 0, .int 0, .int 0, .int 0, .int 0, .null, .null, .null, .int 0, .int 0, .int 0, .int 0, .null, .null, .null, .int 0, .null, .null, .null, .null, .null, .null, .null, .null, .null, .int 0, .null, .int 0, .int 0, .int 0, .null, .null, .null, .null, .null, .null, .null, .null] rfl inB_X11 tyX11_ok nmX11 (by decide) tw6_175 rfl rfl rfl rfl (Nat.le_of_ble_eq_true rfl) rfl dX11_init_239 rfl ?_
  refine k_aload_n C dX11_init_242 rfl 0 rfl ?_
  refine k_sipush C 1400 dX11_init_243 rfl (by decide) ?_
  refine k_newa C (cI := cI) 1400 15 2143 rfl tw_arrI (by decide) (by decide) (by decide) ⟨rfl, rfl⟩ ⟨by decide, by decide⟩ dX11_init_246 rfl (fun q14 => ?_)
  refine k_putF C 15 [.ref q0, .ref q1, .ref q2, .ref q3, .int 0, .ref q4, .ref q5, .ref q6, .ref q7, .ref q8, .ref q9, .ref q10, .ref q11, .ref q12, .ref q13, .ref q14, .null, .null, .int 0, .int 0, .int 0, .int 0, .int 0, .int 0, .int 0, .int 0, .int 0, .int 0, .null, .null, .null, .int 0, .int 0, .int 0, .int 0, .null, .null, .null, .int 0, .null, .null, .null, .null, .null, .null, .null, .null, .null, .int 0, .null, .int 0, .int 0, .int 0, .null, .null, .null, .null, .null, .null, .null, .null] rfl inB_X11 tyX11_ok nmX11 (by decide) tw6_176 rfl rfl rfl rfl (Nat.le_of_ble_eq_true rfl) rfl dX11_init_248 rfl ?_
  refine k_aload_n C dX11_init_251 rfl 0 rfl ?_
  refine k_iconst C 3 dX11_init_252 rfl (by decide) ?_
  refine k_newa C (cI := cI) 3 16 2146 rfl tw_arrI (by decide) (by decide) (by decide) ⟨rfl, rfl⟩ ⟨by decide, by decide⟩ dX11_init_253 rfl (fun q15 => ?_)
  refine k_putF C 16 [.ref q0, .ref q1, .ref q2, .ref q3, .int 0, .ref q4, .ref q5, .ref q6, .ref q7, .ref q8, .ref q9, .ref q10, .ref q11, .ref q12, .ref q13, .ref q14, .ref q15, .null, .int 0, .int 0, .int 0, .int 0, .int 0, .int 0, .int 0, .int 0, .int 0, .int 0, .null, .null, .null, .int 0, .int 0, .int 0, .int 0, .null, .null, .null, .int 0, .null, .null, .null, .null, .null, .null, .null, .null, .null, .int 0, .null, .int 0, .int 0, .int 0, .null, .null, .null, .null, .null, .null, .null, .null] rfl inB_X11 tyX11_ok nmX11 (by decide) tw6_177 rfl rfl rfl rfl (Nat.le_of_ble_eq_true rfl) rfl dX11_init_255 rfl ?_
  refine k_aload_n C dX11_init_258 rfl 0 rfl ?_
  refine k_sipush C 700 dX11_init_259 rfl (by decide) ?_
  refine k_newa C (cI := cI) 700 17 2846 rfl tw_arrI (by decide) (by decide) (by decide) ⟨rfl, rfl⟩ ⟨by decide, by decide⟩ dX11_init_262 rfl (fun q16 => ?_)
  refine k_putF C 17 [.ref q0, .ref q1, .ref q2, .ref q3, .int 0, .ref q4, .ref q5, .ref q6, .ref q7, .ref q8, .ref q9, .ref q10, .ref q11, .ref q12, .ref q13, .ref q14, .ref q15, .ref q16, .int 0, .int 0, .int 0, .int 0, .int 0, .int 0, .int 0, .int 0, .int 0, .int 0, .null, .null, .null, .int 0, .int 0, .int 0, .int 0, .null, .null, .null, .int 0, .null, .null, .null, .null, .null, .null, .null, .null, .null, .int 0, .null, .int 0, .int 0, .int 0, .null, .null, .null, .null, .null, .null, .null, .null] rfl inB_X11 tyX11_ok nmX11 (by decide) tw6_178 rfl rfl rfl rfl (Nat.le_of_ble_eq_true rfl) rfl dX11_init_264 rfl ?_
  refine k_aload_n C dX11_init_267 rfl 0 rfl ?_
  refine k_iconst C (-1) dX11_init_268 rfl (by decide) ?_
  refine k_put C 27 [.ref q0, .ref q1, .ref q2, .ref q3, .int 0, .ref q4, .ref q5, .ref q6, .ref q7, .ref q8, .ref q9, .ref q10, .ref q11, .ref q12, .ref q13, .ref q14, .ref q15, .ref q16, .int 0, .int 0, .int 0, .int 0, .int 0, .int 0, .int 0, .int 0, .int 0, .int (-1), .null, .null, .null, .int 0, .int 0, .int 0, .int 0, .null, .null, .null, .int 0, .null, .null, .null, .null, .null, .null, .null, .null, .null, .int 0, .null, .int 0, .int 0, .int 0, .null, .null, .null, .null, .null, .null, .null, .null] rfl inB_X11 tyX11_ok nmX11 (by decide) tw6_188 rfl rfl rfl (Nat.le_of_ble_eq_true rfl) rfl dX11_init_269 rfl ?_
  refine k_aload_n C dX11_init_272 rfl 0 rfl ?_
  refine k_bipush C 8 dX11_init_273 rfl (by decide) ?_
  refine k_newa C (cI := cI) 8 18 2854 rfl tw_arrI (by decide) (by decide) (by decide) ⟨rfl, rfl⟩ ⟨by decide, by decide⟩ dX11_init_275 rfl (fun q17 => ?_)
  refine k_putF C 28 [.ref q0, .ref q1, .ref q2, .ref q3, .int 0, .ref q4, .ref q5, .ref q6, .ref q7, .ref q8, .ref q9, .ref q10, .ref q11, .ref q12, .ref q13, .ref q14, .ref q15, .ref q16, .int 0, .int 0, .int 0, .int 0, .int 0, .int 0, .int 0, .int 0, .int 0, .int (-1), .ref q17, .null, .null, .int 0, .int 0, .int 0, .int 0, .null, .null, .null, .int 0, .null, .null, .null, .null, .null, .null, .null, .null, .null, .int 0, .null, .int 0, .int 0, .int 0, .null, .null, .null, .null, .null, .null, .null, .null] rfl inB_X11 tyX11_ok nmX11 (by decide) tw6_189 rfl rfl rfl rfl (Nat.le_of_ble_eq_true rfl) rfl dX11_init_277 rfl ?_
  refine k_aload_n C dX11_init_280 rfl 0 rfl ?_
  refine k_bipush C 48 dX11_init_281 rfl (by decide) ?_
  refine k_newa C (cI := cI) 48 19 2902 rfl tw_arrI (by decide) (by decide) (by decide) ⟨rfl, rfl⟩ ⟨by decide, by decide⟩ dX11_init_283 rfl (fun q18 => ?_)
  refine k_putF C 29 [.ref q0, .ref q1, .ref q2, .ref q3, .int 0, .ref q4, .ref q5, .ref q6, .ref q7, .ref q8, .ref q9, .ref q10, .ref q11, .ref q12, .ref q13, .ref q14, .ref q15, .ref q16, .int 0, .int 0, .int 0, .int 0, .int 0, .int 0, .int 0, .int 0, .int 0, .int (-1), .ref q17, .ref q18, .null, .int 0, .int 0, .int 0, .int 0, .null, .null, .null, .int 0, .null, .null, .null, .null, .null, .null, .null, .null, .null, .int 0, .null, .int 0, .int 0, .int 0, .null, .null, .null, .null, .null, .null, .null, .null] rfl inB_X11 tyX11_ok nmX11 (by decide) tw6_190 rfl rfl rfl rfl (Nat.le_of_ble_eq_true rfl) rfl dX11_init_285 rfl ?_
  refine k_aload_n C dX11_init_288 rfl 0 rfl ?_
  refine k_sipush C 5520 dX11_init_289 rfl (by decide) ?_
  refine k_newa C (cI := cI) 5520 20 8422 rfl tw_arrI (by decide) (by decide) (by decide) ⟨rfl, rfl⟩ ⟨by decide, by decide⟩ dX11_init_292 rfl (fun q19 => ?_)
  refine k_putF C 30 [.ref q0, .ref q1, .ref q2, .ref q3, .int 0, .ref q4, .ref q5, .ref q6, .ref q7, .ref q8, .ref q9, .ref q10, .ref q11, .ref q12, .ref q13, .ref q14, .ref q15, .ref q16, .int 0, .int 0, .int 0, .int 0, .int 0, .int 0, .int 0, .int 0, .int 0, .int (-1), .ref q17, .ref q18, .ref q19, .int 0, .int 0, .int 0, .int 0, .null, .null, .null, .int 0, .null, .null, .null, .null, .null, .null, .null, .null, .null, .int 0, .null, .int 0, .int 0, .int 0, .null, .null, .null, .null, .null, .null, .null, .null] rfl inB_X11 tyX11_ok nmX11 (by decide) tw6_191 rfl rfl rfl rfl (Nat.le_of_ble_eq_true rfl) rfl dX11_init_294 rfl ?_
  refine k_aload_n C dX11_init_297 rfl 0 rfl ?_
  refine k_iconst C 2 dX11_init_298 rfl (by decide) ?_
  refine k_newa C (cI := cI) 2 21 8424 rfl tw_arrI (by decide) (by decide) (by decide) ⟨rfl, rfl⟩ ⟨by decide, by decide⟩ dX11_init_299 rfl (fun q20 => ?_)
  refine k_putF C 35 [.ref q0, .ref q1, .ref q2, .ref q3, .int 0, .ref q4, .ref q5, .ref q6, .ref q7, .ref q8, .ref q9, .ref q10, .ref q11, .ref q12, .ref q13, .ref q14, .ref q15, .ref q16, .int 0, .int 0, .int 0, .int 0, .int 0, .int 0, .int 0, .int 0, .int 0, .int (-1), .ref q17, .ref q18, .ref q19, .int 0, .int 0, .int 0, .int 0, .ref q20, .null, .null, .int 0, .null, .null, .null, .null, .null, .null, .null, .null, .null, .int 0, .null, .int 0, .int 0, .int 0, .null, .null, .null, .null, .null, .null, .null, .null] rfl inB_X11 tyX11_ok nmX11 (by decide) tw6_196 rfl rfl rfl rfl (Nat.le_of_ble_eq_true rfl) rfl dX11_init_301 rfl ?_
  refine k_aload_n C dX11_init_304 rfl 0 rfl ?_
  refine k_iconst C 2 dX11_init_305 rfl (by decide) ?_
  refine k_newa C (cI := cI) 2 22 8426 rfl tw_arrI (by decide) (by decide) (by decide) ⟨rfl, rfl⟩ ⟨by decide, by decide⟩ dX11_init_306 rfl (fun q21 => ?_)
  refine k_putF C 36 [.ref q0, .ref q1, .ref q2, .ref q3, .int 0, .ref q4, .ref q5, .ref q6, .ref q7, .ref q8, .ref q9, .ref q10, .ref q11, .ref q12, .ref q13, .ref q14, .ref q15, .ref q16, .int 0, .int 0, .int 0, .int 0, .int 0, .int 0, .int 0, .int 0, .int 0, .int (-1), .ref q17, .ref q18, .ref q19, .int 0, .int 0, .int 0, .int 0, .ref q20, .ref q21, .null, .int 0, .null, .null, .null, .null, .null, .null, .null, .null, .null, .int 0, .null, .int 0, .int 0, .int 0, .null, .null, .null, .null, .null, .null, .null, .null] rfl inB_X11 tyX11_ok nmX11 (by decide) tw6_197 rfl rfl rfl rfl (Nat.le_of_ble_eq_true rfl) rfl dX11_init_308 rfl ?_
  refine k_aload_n C dX11_init_311 rfl 0 rfl ?_
  refine k_iconst C 2 dX11_init_312 rfl (by decide) ?_
  refine k_newa C (cI := cI) 2 23 8428 rfl tw_arrI (by decide) (by decide) (by decide) ⟨rfl, rfl⟩ ⟨by decide, by decide⟩ dX11_init_313 rfl (fun q22 => ?_)
  refine k_putF C 37 [.ref q0, .ref q1, .ref q2, .ref q3, .int 0, .ref q4, .ref q5, .ref q6, .ref q7, .ref q8, .ref q9, .ref q10, .ref q11, .ref q12, .ref q13, .ref q14, .ref q15, .ref q16, .int 0, .int 0, .int 0, .int 0, .int 0, .int 0, .int 0, .int 0, .int 0, .int (-1), .ref q17, .ref q18, .ref q19, .int 0, .int 0, .int 0, .int 0, .ref q20, .ref q21, .ref q22, .int 0, .null, .null, .null, .null, .null, .null, .null, .null, .null, .int 0, .null, .int 0, .int 0, .int 0, .null, .null, .null, .null, .null, .null, .null, .null] rfl inB_X11 tyX11_ok nmX11 (by decide) tw6_198 rfl rfl rfl rfl (Nat.le_of_ble_eq_true rfl) rfl dX11_init_315 rfl ?_
  refine k_aload_n C dX11_init_318 rfl 0 rfl ?_
  refine k_bipush C 6 dX11_init_319 rfl (by decide) ?_
  refine k_newa C (cI := cI) 6 24 8434 rfl tw_arrI (by decide) (by decide) (by decide) ⟨rfl, rfl⟩ ⟨by decide, by decide⟩ dX11_init_321 rfl (fun q23 => ?_)
  refine k_putF C 39 [.ref q0, .ref q1, .ref q2, .ref q3, .int 0, .ref q4, .ref q5, .ref q6, .ref q7, .ref q8, .ref q9, .ref q10, .ref q11, .ref q12, .ref q13, .ref q14, .ref q15, .ref q16, .int 0, .int 0, .int 0, .int 0, .int 0, .int 0, .int 0, .int 0, .int 0, .int (-1), .ref q17, .ref q18, .ref q19, .int 0, .int 0, .int 0, .int 0, .ref q20, .ref q21, .ref q22, .int 0, .ref q23, .null, .null, .null, .null, .null, .null, .null, .null, .int 0, .null, .int 0, .int 0, .int 0, .null, .null, .null, .null, .null, .null, .null, .null] rfl inB_X11 tyX11_ok nmX11 (by decide) tw6_200 rfl rfl rfl rfl (Nat.le_of_ble_eq_true rfl) rfl dX11_init_323 rfl ?_
  refine k_aload_n C dX11_init_326 rfl 0 rfl ?_
  refine k_bipush C 64 dX11_init_327 rfl (by decide) ?_
  refine k_newa C (cI := cI) 64 25 8498 rfl tw_arrI (by decide) (by decide) (by decide) ⟨rfl, rfl⟩ ⟨by decide, by decide⟩ dX11_init_329 rfl (fun q24 => ?_)
  refine k_putF C 40 [.ref q0, .ref q1, .ref q2, .ref q3, .int 0, .ref q4, .ref q5, .ref q6, .ref q7, .ref q8, .ref q9, .ref q10, .ref q11, .ref q12, .ref q13, .ref q14, .ref q15, .ref q16, .int 0, .int 0, .int 0, .int 0, .int 0, .int 0, .int 0, .int 0, .int 0, .int (-1), .ref q17, .ref q18, .ref q19, .int 0, .int 0, .int 0, .int 0, .ref q20, .ref q21, .ref q22, .int 0, .ref q23, .ref q24, .null, .null, .null, .null, .null, .null, .null, .int 0, .null, .int 0, .int 0, .int 0, .null, .null, .null, .null, .null, .null, .null, .null] rfl inB_X11 tyX11_ok nmX11 (by decide) tw6_201 rfl rfl rfl rfl (Nat.le_of_ble_eq_true rfl) rfl dX11_init_331 rfl ?_
  refine k_aload_n C dX11_init_334 rfl 0 rfl ?_
  refine k_bipush C 8 dX11_init_335 rfl (by decide) ?_
  refine k_newa C (cI := cI) 8 26 8506 rfl tw_arrI (by decide) (by decide) (by decide) ⟨rfl, rfl⟩ ⟨by decide, by decide⟩ dX11_init_337 rfl (fun q25 => ?_)
  refine k_putF C 41 [.ref q0, .ref q1, .ref q2, .ref q3, .int 0, .ref q4, .ref q5, .ref q6, .ref q7, .ref q8, .ref q9, .ref q10, .ref q11, .ref q12, .ref q13, .ref q14, .ref q15, .ref q16, .int 0, .int 0, .int 0, .int 0, .int 0, .int 0, .int 0, .int 0, .int 0, .int (-1), .ref q17, .ref q18, .ref q19, .int 0, .int 0, .int 0, .int 0, .ref q20, .ref q21, .ref q22, .int 0, .ref q23, .ref q24, .ref q25, .null, .null, .null, .null, .null, .null, .int 0, .null, .int 0, .int 0, .int 0, .null, .null, .null, .null, .null, .null, .null, .null] rfl inB_X11 tyX11_ok nmX11 (by decide) tw6_202 rfl rfl rfl rfl (Nat.le_of_ble_eq_true rfl) rfl dX11_init_339 rfl ?_
  refine k_aload_n C dX11_init_342 rfl 0 rfl ?_
  refine k_bipush C 8 dX11_init_343 rfl (by decide) ?_
  refine k_newa C (cI := cI) 8 27 8514 rfl tw_arrI (by decide) (by decide) (by decide) ⟨rfl, rfl⟩ ⟨by decide, by decide⟩ dX11_init_345 rfl (fun q26 => ?_)
  refine k_putF C 42 [.ref q0, .ref q1, .ref q2, .ref q3, .int 0, .ref q4, .ref q5, .ref q6, .ref q7, .ref q8, .ref q9, .ref q10, .ref q11, .ref q12, .ref q13, .ref q14, .ref q15, .ref q16, .int 0, .int 0, .int 0, .int 0, .int 0, .int 0, .int 0, .int 0, .int 0, .int (-1), .ref q17, .ref q18, .ref q19, .int 0, .int 0, .int 0, .int 0, .ref q20, .ref q21, .ref q22, .int 0, .ref q23, .ref q24, .ref q25, .ref q26, .null, .null, .null, .null, .null, .int 0, .null, .int 0, .int 0, .int 0, .null, .null, .null, .null, .null, .null, .null, .null] rfl inB_X11 tyX11_ok nmX11 (by decide) tw6_203 rfl rfl rfl rfl (Nat.le_of_ble_eq_true rfl) rfl dX11_init_347 rfl ?_
  refine k_aload_n C dX11_init_350 rfl 0 rfl ?_
  refine k_bipush C 8 dX11_init_351 rfl (by decide) ?_
  refine k_newa C (cI := cI) 8 28 8522 rfl tw_arrI (by decide) (by decide) (by decide) ⟨rfl, rfl⟩ ⟨by decide, by decide⟩ dX11_init_353 rfl (fun q27 => ?_)
  refine k_putF C 43 [.ref q0, .ref q1, .ref q2, .ref q3, .int 0, .ref q4, .ref q5, .ref q6, .ref q7, .ref q8, .ref q9, .ref q10, .ref q11, .ref q12, .ref q13, .ref q14, .ref q15, .ref q16, .int 0, .int 0, .int 0, .int 0, .int 0, .int 0, .int 0, .int 0, .int 0, .int (-1), .ref q17, .ref q18, .ref q19, .int 0, .int 0, .int 0, .int 0, .ref q20, .ref q21, .ref q22, .int 0, .ref q23, .ref q24, .ref q25, .ref q26, .ref q27, .null, .null, .null, .null, .int 0, .null, .int 0, .int 0, .int 0, .null, .null, .null, .null, .null, .null, .null, .null] rfl inB_X11 tyX11_ok nmX11 (by decide) tw6_204 rfl rfl rfl rfl (Nat.le_of_ble_eq_true rfl) rfl dX11_init_355 rfl ?_
  refine k_aload_n C dX11_init_358 rfl 0 rfl ?_
  refine k_bipush C 8 dX11_init_359 rfl (by decide) ?_
  refine k_newa C (cI := cI) 8 29 8530 rfl tw_arrI (by decide) (by decide) (by decide) ⟨rfl, rfl⟩ ⟨by decide, by decide⟩ dX11_init_361 rfl (fun q28 => ?_)
  refine k_putF C 44 [.ref q0, .ref q1, .ref q2, .ref q3, .int 0, .ref q4, .ref q5, .ref q6, .ref q7, .ref q8, .ref q9, .ref q10, .ref q11, .ref q12, .ref q13, .ref q14, .ref q15, .ref q16, .int 0, .int 0, .int 0, .int 0, .int 0, .int 0, .int 0, .int 0, .int 0, .int (-1), .ref q17, .ref q18, .ref q19, .int 0, .int 0, .int 0, .int 0, .ref q20, .ref q21, .ref q22, .int 0, .ref q23, .ref q24, .ref q25, .ref q26, .ref q27, .ref q28, .null, .null, .null, .int 0, .null, .int 0, .int 0, .int 0, .null, .null, .null, .null, .null, .null, .null, .null] rfl inB_X11 tyX11_ok nmX11 (by decide) tw6_205 rfl rfl rfl rfl (Nat.le_of_ble_eq_true rfl) rfl dX11_init_363 rfl ?_
  refine k_aload_n C dX11_init_366 rfl 0 rfl ?_
  refine k_bipush C 8 dX11_init_367 rfl (by decide) ?_
  refine k_newa C (cI := cI) 8 30 8538 rfl tw_arrI (by decide) (by decide) (by decide) ⟨rfl, rfl⟩ ⟨by decide, by decide⟩ dX11_init_369 rfl (fun q29 => ?_)
  refine k_putF C 45 [.ref q0, .ref q1, .ref q2, .ref q3, .int 0, .ref q4, .ref q5, .ref q6, .ref q7, .ref q8, .ref q9, .ref q10, .ref q11, .ref q12, .ref q13, .ref q14, .ref q15, .ref q16, .int 0, .int 0, .int 0, .int 0, .int 0, .int 0, .int 0, .int 0, .int 0, .int (-1), .ref q17, .ref q18, .ref q19, .int 0, .int 0, .int 0, .int 0, .ref q20, .ref q21, .ref q22, .int 0, .ref q23, .ref q24, .ref q25, .ref q26, .ref q27, .ref q28, .ref q29, .null, .null, .int 0, .null, .int 0, .int 0, .int 0, .null, .null, .null, .null, .null, .null, .null, .null] rfl inB_X11 tyX11_ok nmX11 (by decide) tw6_206 rfl rfl rfl rfl (Nat.le_of_ble_eq_true rfl) rfl dX11_init_371 rfl ?_
  refine k_aload_n C dX11_init_374 rfl 0 rfl ?_
  refine k_bipush C 8 dX11_init_375 rfl (by decide) ?_
  refine k_newa C (cI := cI) 8 31 8546 rfl tw_arrI (by decide) (by decide) (by decide) ⟨rfl, rfl⟩ ⟨by decide, by decide⟩ dX11_init_377 rfl (fun q30 => ?_)
  refine k_putF C 46 [.ref q0, .ref q1, .ref q2, .ref q3, .int 0, .ref q4, .ref q5, .ref q6, .ref q7, .ref q8, .ref q9, .ref q10, .ref q11, .ref q12, .ref q13, .ref q14, .ref q15, .ref q16, .int 0, .int 0, .int 0, .int 0, .int 0, .int 0, .int 0, .int 0, .int 0, .int (-1), .ref q17, .ref q18, .ref q19, .int 0, .int 0, .int 0, .int 0, .ref q20, .ref q21, .ref q22, .int 0, .ref q23, .ref q24, .ref q25, .ref q26, .ref q27, .ref q28, .ref q29, .ref q30, .null, .int 0, .null, .int 0, .int 0, .int 0, .null, .null, .null, .null, .null, .null, .null, .null] rfl inB_X11 tyX11_ok nmX11 (by decide) tw6_207 rfl rfl rfl rfl (Nat.le_of_ble_eq_true rfl) rfl dX11_init_379 rfl ?_
  refine k_aload_n C dX11_init_382 rfl 0 rfl ?_
  refine k_bipush C 8 dX11_init_383 rfl (by decide) ?_
  refine k_newa C (cI := cI) 8 32 8554 rfl tw_arrI (by decide) (by decide) (by decide) ⟨rfl, rfl⟩ ⟨by decide, by decide⟩ dX11_init_385 rfl (fun q31 => ?_)
  refine k_putF C 47 [.ref q0, .ref q1, .ref q2, .ref q3, .int 0, .ref q4, .ref q5, .ref q6, .ref q7, .ref q8, .ref q9, .ref q10, .ref q11, .ref q12, .ref q13, .ref q14, .ref q15, .ref q16, .int 0, .int 0, .int 0, .int 0, .int 0, .int 0, .int 0, .int 0, .int 0, .int (-1), .ref q17, .ref q18, .ref q19, .int 0, .int 0, .int 0, .int 0, .ref q20, .ref q21, .ref q22, .int 0, .ref q23, .ref q24, .ref q25, .ref q26, .ref q27, .ref q28, .ref q29, .ref q30, .ref q31, .int 0, .null, .int 0, .int 0, .int 0, .null, .null, .null, .null, .null, .null, .null, .null] rfl inB_X11 tyX11_ok nmX11 (by decide) tw6_208 rfl rfl rfl rfl (Nat.le_of_ble_eq_true rfl) rfl dX11_init_387 rfl ?_
  refine k_aload_n C dX11_init_390 rfl 0 rfl ?_
  refine k_sipush C 138 dX11_init_391 rfl (by decide) ?_
  refine k_newa C (cI := cI) 138 33 8692 rfl tw_arrI (by decide) (by decide) (by decide) ⟨rfl, rfl⟩ ⟨by decide, by decide⟩ dX11_init_394 rfl (fun q32 => ?_)
  refine k_putF C 49 [.ref q0, .ref q1, .ref q2, .ref q3, .int 0, .ref q4, .ref q5, .ref q6, .ref q7, .ref q8, .ref q9, .ref q10, .ref q11, .ref q12, .ref q13, .ref q14, .ref q15, .ref q16, .int 0, .int 0, .int 0, .int 0, .int 0, .int 0, .int 0, .int 0, .int 0, .int (-1), .ref q17, .ref q18, .ref q19, .int 0, .int 0, .int 0, .int 0, .ref q20, .ref q21, .ref q22, .int 0, .ref q23, .ref q24, .ref q25, .ref q26, .ref q27, .ref q28, .ref q29, .ref q30, .ref q31, .int 0, .ref q32, .int 0, .int 0, .int 0, .null, .null, .null, .null, .null, .null, .null, .null] rfl inB_X11 tyX11_ok nmX11 (by decide) tw6_210 rfl rfl rfl rfl (Nat.le_of_ble_eq_true rfl) rfl dX11_init_396 rfl ?_
  refine k_aload_n C dX11_init_399 rfl 0 rfl ?_
  refine k_sipush C 138 dX11_init_400 rfl (by decide) ?_
  refine k_newa C (cI := cI) 138 34 8830 rfl tw_arrI (by decide) (by decide) (by decide) ⟨rfl, rfl⟩ ⟨by decide, by decide⟩ dX11_init_403 rfl (fun q33 => ?_)
  refine k_putF C 53 [.ref q0, .ref q1, .ref q2, .ref q3, .int 0, .ref q4, .ref q5, .ref q6, .ref q7, .ref q8, .ref q9, .ref q10, .ref q11, .ref q12, .ref q13, .ref q14, .ref q15, .ref q16, .int 0, .int 0, .int 0, .int 0, .int 0, .int 0, .int 0, .int 0, .int 0, .int (-1), .ref q17, .ref q18, .ref q19, .int 0, .int 0, .int 0, .int 0, .ref q20, .ref q21, .ref q22, .int 0, .ref q23, .ref q24, .ref q25, .ref q26, .ref q27, .ref q28, .ref q29, .ref q30, .ref q31, .int 0, .ref q32, .int 0, .int 0, .int 0, .ref q33, .null, .null, .null, .null, .null, .null, .null] rfl inB_X11 tyX11_ok nmX11 (by decide) tw6_214 rfl rfl rfl rfl (Nat.le_of_ble_eq_true rfl) rfl dX11_init_405 rfl ?_
  refine k_aload_n C dX11_init_408 rfl 0 rfl ?_
  refine k_sipush C 5520 dX11_init_409 rfl (by decide) ?_
  refine k_newa C (cI := cI) 5520 35 14350 rfl tw_arrI (by decide) (by decide) (by decide) ⟨rfl, rfl⟩ ⟨by decide, by decide⟩ dX11_init_412 rfl (fun q34 => ?_)
  refine k_putF C 54 [.ref q0, .ref q1, .ref q2, .ref q3, .int 0, .ref q4, .ref q5, .ref q6, .ref q7, .ref q8, .ref q9, .ref q10, .ref q11, .ref q12, .ref q13, .ref q14, .ref q15, .ref q16, .int 0, .int 0, .int 0, .int 0, .int 0, .int 0, .int 0, .int 0, .int 0, .int (-1), .ref q17, .ref q18, .ref q19, .int 0, .int 0, .int 0, .int 0, .ref q20, .ref q21, .ref q22, .int 0, .ref q23, .ref q24, .ref q25, .ref q26, .ref q27, .ref q28, .ref q29, .ref q30, .ref q31, .int 0, .ref q32, .int 0, .int 0, .int 0, .ref q33, .ref q34, .null, .null, .null, .null, .null, .null] rfl inB_X11 tyX11_ok nmX11 (by decide) tw6_215 rfl rfl rfl rfl (Nat.le_of_ble_eq_true rfl) rfl dX11_init_414 rfl ?_
  refine k_aload_n C dX11_init_417 rfl 0 rfl ?_
  refine k_bipush C 8 dX11_init_418 rfl (by decide) ?_
  refine k_newa C (cI := cI) 8 36 14358 rfl tw_arrI (by decide) (by decide) (by decide) ⟨rfl, rfl⟩ ⟨by decide, by decide⟩ dX11_init_420 rfl (fun q35 => ?_)
  refine k_putF C 55 [.ref q0, .ref q1, .ref q2, .ref q3, .int 0, .ref q4, .ref q5, .ref q6, .ref q7, .ref q8, .ref q9, .ref q10, .ref q11, .ref q12, .ref q13, .ref q14, .ref q15, .ref q16, .int 0, .int 0, .int 0, .int 0, .int 0, .int 0, .int 0, .int 0, .int 0, .int (-1), .ref q17, .ref q18, .ref q19, .int 0, .int 0, .int 0, .int 0, .ref q20, .ref q21, .ref q22, .int 0, .ref q23, .ref q24, .ref q25, .ref q26, .ref q27, .ref q28, .ref q29, .ref q30, .ref q31, .int 0, .ref q32, .int 0, .int 0, .int 0, .ref q33, .ref q34, .ref q35, .null, .null, .null, .null, .null] rfl inB_X11 tyX11_ok nmX11 (by decide) tw6_216 rfl rfl rfl rfl (Nat.le_of_ble_eq_true rfl) rfl dX11_init_422 rfl ?_
  refine k_aload_n C dX11_init_425 rfl 0 rfl ?_
  refine k_bipush C 8 dX11_init_426 rfl (by decide) ?_
  refine k_newa C (cI := cI) 8 37 14366 rfl tw_arrI (by decide) (by decide) (by decide) ⟨rfl, rfl⟩ ⟨by decide, by decide⟩ dX11_init_428 rfl (fun q36 => ?_)
  refine k_putF C 56 [.ref q0, .ref q1, .ref q2, .ref q3, .int 0, .ref q4, .ref q5, .ref q6, .ref q7, .ref q8, .ref q9, .ref q10, .ref q11, .ref q12, .ref q13, .ref q14, .ref q15, .ref q16, .int 0, .int 0, .int 0, .int 0, .int 0, .int 0, .int 0, .int 0, .int 0, .int (-1), .ref q17, .ref q18, .ref q19, .int 0, .int 0, .int 0, .int 0, .ref q20, .ref q21, .ref q22, .int 0, .ref q23, .ref q24, .ref q25, .ref q26, .ref q27, .ref q28, .ref q29, .ref q30, .ref q31, .int 0, .ref q32, .int 0, .int 0, .int 0, .ref q33, .ref q34, .ref q35, .ref q36, .null, .null, .null, .null] rfl inB_X11 tyX11_ok nmX11 (by decide) tw6_217 rfl rfl rfl rfl (Nat.le_of_ble_eq_true rfl) rfl dX11_init_430 rfl ?_
  refine k_aload_n C dX11_init_433 rfl 0 rfl ?_
  refine k_bipush C 8 dX11_init_434 rfl (by decide) ?_
  refine k_newa C (cI := cI) 8 38 14374 rfl tw_arrI (by decide) (by decide) (by decide) ⟨rfl, rfl⟩ ⟨by decide, by decide⟩ dX11_init_436 rfl (fun q37 => ?_)
  refine k_putF C 57 [.ref q0, .ref q1, .ref q2, .ref q3, .int 0, .ref q4, .ref q5, .ref q6, .ref q7, .ref q8, .ref q9, .ref q10, .ref q11, .ref q12, .ref q13, .ref q14, .ref q15, .ref q16, .int 0, .int 0, .int 0, .int 0, .int 0, .int 0, .int 0, .int 0, .int 0, .int (-1), .ref q17, .ref q18, .ref q19, .int 0, .int 0, .int 0, .int 0, .ref q20, .ref q21, .ref q22, .int 0, .ref q23, .ref q24, .ref q25, .ref q26, .ref q27, .ref q28, .ref q29, .ref q30, .ref q31, .int 0, .ref q32, .int 0, .int 0, .int 0, .ref q33, .ref q34, .ref q35, .ref q36, .ref q37, .null, .null, .null] rfl inB_X11 tyX11_ok nmX11 (by decide) tw6_218 rfl rfl rfl rfl (Nat.le_of_ble_eq_true rfl) rfl dX11_init_438 rfl ?_
  refine k_aload_n C dX11_init_441 rfl 0 rfl ?_
  refine k_bipush C 8 dX11_init_442 rfl (by decide) ?_
  refine k_newa C (cI := cI) 8 39 14382 rfl tw_arrI (by decide) (by decide) (by decide) ⟨rfl, rfl⟩ ⟨by decide, by decide⟩ dX11_init_444 rfl (fun q38 => ?_)
  refine k_putF C 58 [.ref q0, .ref q1, .ref q2, .ref q3, .int 0, .ref q4, .ref q5, .ref q6, .ref q7, .ref q8, .ref q9, .ref q10, .ref q11, .ref q12, .ref q13, .ref q14, .ref q15, .ref q16, .int 0, .int 0, .int 0, .int 0, .int 0, .int 0, .int 0, .int 0, .int 0, .int (-1), .ref q17, .ref q18, .ref q19, .int 0, .int 0, .int 0, .int 0, .ref q20, .ref q21, .ref q22, .int 0, .ref q23, .ref q24, .ref q25, .ref q26, .ref q27, .ref q28, .ref q29, .ref q30, .ref q31, .int 0, .ref q32, .int 0, .int 0, .int 0, .ref q33, .ref q34, .ref q35, .ref q36, .ref q37, .ref q38, .null, .null] rfl inB_X11 tyX11_ok nmX11 (by decide) tw6_219 rfl rfl rfl rfl (Nat.le_of_ble_eq_true rfl) rfl dX11_init_446 rfl ?_
  refine k_aload_n C dX11_init_449 rfl 0 rfl ?_
  refine k_bipush C 8 dX11_init_450 rfl (by decide) ?_
  refine k_newa C (cI := cI) 8 40 14390 rfl tw_arrI (by decide) (by decide) (by decide) ⟨rfl, rfl⟩ ⟨by decide, by decide⟩ dX11_init_452 rfl (fun q39 => ?_)
  refine k_putF C 59 [.ref q0, .ref q1, .ref q2, .ref q3, .int 0, .ref q4, .ref q5, .ref q6, .ref q7, .ref q8, .ref q9, .ref q10, .ref q11, .ref q12, .ref q13, .ref q14, .ref q15, .ref q16, .int 0, .int 0, .int 0, .int 0, .int 0, .int 0, .int 0, .int 0, .int 0, .int (-1), .ref q17, .ref q18, .ref q19, .int 0, .int 0, .int 0, .int 0, .ref q20, .ref q21, .ref q22, .int 0, .ref q23, .ref q24, .ref q25, .ref q26, .ref q27, .ref q28, .ref q29, .ref q30, .ref q31, .int 0, .ref q32, .int 0, .int 0, .int 0, .ref q33, .ref q34, .ref q35, .ref q36, .ref q37, .ref q38, .ref q39, .null] rfl inB_X11 tyX11_ok nmX11 (by decide) tw6_220 rfl rfl rfl rfl (Nat.le_of_ble_eq_true rfl) rfl dX11_init_454 rfl ?_
  refine k_aload_n C dX11_init_457 rfl 0 rfl ?_
  refine k_iconst C 3 dX11_init_458 rfl (by decide) ?_
  refine k_newa C (cI := cI) 3 41 14393 rfl tw_arrI (by decide) (by decide) (by decide) ⟨rfl, rfl⟩ ⟨by decide, by decide⟩ dX11_init_459 rfl (fun q40 => ?_)
  refine k_putF C 60 [.ref q0, .ref q1, .ref q2, .ref q3, .int 0, .ref q4, .ref q5, .ref q6, .ref q7, .ref q8, .ref q9, .ref q10, .ref q11, .ref q12, .ref q13, .ref q14, .ref q15, .ref q16, .int 0, .int 0, .int 0, .int 0, .int 0, .int 0, .int 0, .int 0, .int 0, .int (-1), .ref q17, .ref q18, .ref q19, .int 0, .int 0, .int 0, .int 0, .ref q20, .ref q21, .ref q22, .int 0, .ref q23, .ref q24, .ref q25, .ref q26, .ref q27, .ref q28, .ref q29, .ref q30, .ref q31, .int 0, .ref q32, .int 0, .int 0, .int 0, .ref q33, .ref q34, .ref q35, .ref q36, .ref q37, .ref q38, .ref q39, .ref q40] rfl inB_X11 tyX11_ok nmX11 (by decide) tw6_221 rfl rfl rfl rfl (Nat.le_of_ble_eq_true rfl) rfl dX11_init_461 rfl ?_
  exact hr _ _ _ _ (fun k => ([q0, q1, q2, q3, q4, q5, q6, q7, q8, q9, q10, q11, q12, q13, q14, q15, q16, q17, q18, q19, q20, q21, q22, q23, q24, q25, q26, q27, q28, q29, q30, q31, q32, q33, q34, q35, q36, q37, q38, q39, q40] : List Nat).getD k 0) dX11_init_464 rfl

theorem kmX11 {l : Launch} (D : va_G) (cI cT : ClassId) (sk : Nat → Nat) (h0 : Nat) : KM l yX11_init (wB yX11_init cX11_init 1 none) { frames := 1, cells := 41, slots := 14393, locals := 12 } D [(cI, .int), (cT, .object "java/lang/String")] sk 41 14393 h0 11 [.null, .null, .null, .null, .int 0, .null, .null, .null, .null, .null, .null, .null, .null, .null, .null, .null, .null, .null, .int 0, .int 0, .int 0, .int 0, .int 0, .int 0, .int 0, .int 0, .int 0, .int 0, .null, .null, .null, .int 0, .int 0, .int 0, .int 0, .null, .null, .null, .int 0, .null, .null, .null, .null, .null, .null, .null, .null, .null, .int 0, .null, .int 0, .int 0, .int 0, .null, .null, .null, .null, .null, .null, .null, .null] (kpX11 cI cT sk h0) := mk_KM (by decide +kernel) (by decide +kernel) (Nat.le_of_ble_eq_true rfl) (fun X A hX C hO hR hSt hr => wkX11 D cI cT sk h0 C hO hR hSt hr)
