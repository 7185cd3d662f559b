theorem l_ix {j : Nat} (k : Nat) {v : Int32} (hv : v = nI k) : nI j + v = nI (j + k) := by rw [hv, nI_add]
theorem lgc (x : Int64) : lg_cmp x x = 0 := by simp [lg_cmp]
abbrev lvL (Z : ZT) (b : Nat) (i4 : Int32) : List (Nat × Value) := [(0, .ref b), (1, .ref (zc Z 0)), (2, .ref (zm Z 0)), (3, .ref (zo Z)), (4, .int i4)]
def Sm_feed (F : Nat) (Rl : St → St → Prop) : Prop := ∀ (σ τ : St) (a0 a1 a2 a3 a4 : Int32), Rl σ τ → ∃ (r : Int32) (σ' τ' : St), fX10_feed F σ a0 a1 a2 a3 a4 = some (r, σ') ∧ fX11_feed F τ a0 a1 a2 a3 a4 = some (r, τ') ∧ Rl σ' τ'
set_option maxRecDepth 20000 in
theorem lc_feed {X : XT} {Z : ZT} {b L : Nat} {xv : Nat → Int32} (C : CL X Z b L xv) (hst : X.2.1.stackTraces = false) {F : Nat} {Rl : St → St → Prop} (S : Sm_feed F Rl) {j : Nat} {i4 : Int32} (hi : i4 = nI (6 * j)) (hj : 6 * j + 6 ≤ L) (hL : L ≤ 3072) {σ τ : St} {f : Nat → Int64} (hR : Rl σ τ) (kend : ∀ (σ' τ' : St) (f' : Nat → Int64), Rl σ' τ' → WL X Z (131 + 6 * (j + 1)) (18958 + 36 * (j + 1)) 2062 σ' τ' f' (lvL Z b i4) []) : WL X Z (131 + 6 * j) (18958 + 36 * j) 184 σ τ f (lvL Z b i4) [] := by
  obtain ⟨r, σ', τ', hx1, hm1, hR'⟩ := S σ τ (xv (6 * j + 1)) (xv (6 * j + 2)) (xv (6 * j + 3)) (xv (6 * j + 4)) (xv (6 * j + 5)) hR
  refine l_aload_n C 1 rfl dL_law_184 rfl ?_
  refine l_aload_n C 0 rfl dL_law_185 rfl ?_
  refine l_iload C 4 rfl dL_law_186 rfl ?_
  refine l_iconst C 1 (by decide) dL_law_188 rfl ?_
  refine l_iadd C dL_law_189 rfl ?_
  refine l_sld C (6 * j + 1) (by rw [hi]; exact l_ix 1 (by decide)) ⟨by omega, by omega⟩ dL_law_190 rfl ?_
  refine l_aload_n C 0 rfl dL_law_191 rfl ?_
  refine l_iload C 4 rfl dL_law_192 rfl ?_
  refine l_iconst C 2 (by decide) dL_law_194 rfl ?_
  refine l_iadd C dL_law_195 rfl ?_
  refine l_sld C (6 * j + 2) (by rw [hi]; exact l_ix 2 (by decide)) ⟨by omega, by omega⟩ dL_law_196 rfl ?_
  refine l_aload_n C 0 rfl dL_law_197 rfl ?_
  refine l_iload C 4 rfl dL_law_198 rfl ?_
  refine l_iconst C 3 (by decide) dL_law_200 rfl ?_
  refine l_iadd C dL_law_201 rfl ?_
  refine l_sld C (6 * j + 3) (by rw [hi]; exact l_ix 3 (by decide)) ⟨by omega, by omega⟩ dL_law_202 rfl ?_
  refine l_aload_n C 0 rfl dL_law_203 rfl ?_
  refine l_iload C 4 rfl dL_law_204 rfl ?_
  refine l_iconst C 4 (by decide) dL_law_206 rfl ?_
  refine l_iadd C dL_law_207 rfl ?_
  refine l_sld C (6 * j + 4) (by rw [hi]; exact l_ix 4 (by decide)) ⟨by omega, by omega⟩ dL_law_208 rfl ?_
  refine l_aload_n C 0 rfl dL_law_209 rfl ?_
  refine l_iload C 4 rfl dL_law_210 rfl ?_
  refine l_iconst C 5 (by decide) dL_law_212 rfl ?_
  refine l_iadd C dL_law_213 rfl ?_
  refine l_sld C (6 * j + 5) (by rw [hi]; exact l_ix 5 (by decide)) ⟨by omega, by omega⟩ dL_law_214 rfl ?_
  refine l_callCi C (n := 5) (As := [.int (xv (6 * j + 1)), .int (xv (6 * j + 2)), .int (xv (6 * j + 3)), .int (xv (6 * j + 4)), .int (xv (6 * j + 5))]) (st := []) (cfX10_feed Z.1 Z.2.1 Z.2.2.2.2.1 C.2.1.2.1.1 hx1) tw2_218 cy_X10_feed (by decide +kernel) ⟨by decide, by decide⟩ ⟨by omega, by omega⟩ rfl rfl (Nat.le_of_ble_eq_true rfl) dL_law_215 rfl ?_
  refine l_aload_n C 2 rfl dL_law_218 rfl ?_
  refine l_aload_n C 0 rfl dL_law_219 rfl ?_
  refine l_iload C 4 rfl dL_law_220 rfl ?_
  refine l_iconst C 1 (by decide) dL_law_222 rfl ?_
  refine l_iadd C dL_law_223 rfl ?_
  refine l_sld C (6 * j + 1) (by rw [hi]; exact l_ix 1 (by decide)) ⟨by omega, by omega⟩ dL_law_224 rfl ?_
  refine l_aload_n C 0 rfl dL_law_225 rfl ?_
  refine l_iload C 4 rfl dL_law_226 rfl ?_
  refine l_iconst C 2 (by decide) dL_law_228 rfl ?_
  refine l_iadd C dL_law_229 rfl ?_
  refine l_sld C (6 * j + 2) (by rw [hi]; exact l_ix 2 (by decide)) ⟨by omega, by omega⟩ dL_law_230 rfl ?_
  refine l_aload_n C 0 rfl dL_law_231 rfl ?_
  refine l_iload C 4 rfl dL_law_232 rfl ?_
  refine l_iconst C 3 (by decide) dL_law_234 rfl ?_
  refine l_iadd C dL_law_235 rfl ?_
  refine l_sld C (6 * j + 3) (by rw [hi]; exact l_ix 3 (by decide)) ⟨by omega, by omega⟩ dL_law_236 rfl ?_
  refine l_aload_n C 0 rfl dL_law_237 rfl ?_
  refine l_iload C 4 rfl dL_law_238 rfl ?_
  refine l_iconst C 4 (by decide) dL_law_240 rfl ?_
  refine l_iadd C dL_law_241 rfl ?_
  refine l_sld C (6 * j + 4) (by rw [hi]; exact l_ix 4 (by decide)) ⟨by omega, by omega⟩ dL_law_242 rfl ?_
  refine l_aload_n C 0 rfl dL_law_243 rfl ?_
  refine l_iload C 4 rfl dL_law_244 rfl ?_
  refine l_iconst C 5 (by decide) dL_law_246 rfl ?_
  refine l_iadd C dL_law_247 rfl ?_
  refine l_sld C (6 * j + 5) (by rw [hi]; exact l_ix 5 (by decide)) ⟨by omega, by omega⟩ dL_law_248 rfl ?_
  refine l_callMi C (n := 5) (As := [.int (xv (6 * j + 1)), .int (xv (6 * j + 2)), .int (xv (6 * j + 3)), .int (xv (6 * j + 4)), .int (xv (6 * j + 5))]) (st := [.int r]) (cfX11_feed Z.1 Z.2.1 Z.2.2.1 Z.2.2.2.2.2.1 C.2.1.2.1.2 hm1) tw7_109 cy_X11_feed (by decide +kernel) ⟨by decide, by decide⟩ ⟨by omega, by omega⟩ rfl rfl (Nat.le_of_ble_eq_true rfl) dL_law_249 rfl ?_
  refine l_eqT (q := 2062) C rfl dL_law_252 (by decide) ?_
  exact l_wid (by omega) (by omega) (kend _ _ _ hR')
theorem ks_L_ball : Cond.static yL_ball ∈ BG ∧ Cond.initialized (yL_ball).cls ∈ BG ∧ Cond.codeWith yL_ball cL_ball 4 (some .int) [(0, 9, 12, 13)] ∈ BG := ⟨tw3_33, tw1_0, BG_t3 34 (by decide +kernel) (by decide +kernel)⟩
def Sm_ball (F : Nat) (Rl : St → St → Prop) : Prop := ∀ (σ τ : St) (a0 : Int32), Rl σ τ → ∃ (res : Nat × Int32 × St) (r : Int32) (τ' : St), fX10_ball F σ a0 = some res ∧ (res.1 = 0 ∨ res.1 = 2) ∧ fX11_ball F τ a0 = some (r, τ') ∧ τ' 0 4 = (if res.1 = 0 then (0 : Int32) else 1) ∧ (res.1 = 0 → res.2.1 = r) ∧ Rl res.2.2 τ'
set_option maxRecDepth 20000 in
theorem lc_ball {X : XT} {Z : ZT} {b L : Nat} {xv : Nat → Int32} (C : CL X Z b L xv) (hst : X.2.1.stackTraces = false) {F : Nat} {Rl : St → St → Prop} (S : Sm_ball F Rl) {j : Nat} {i4 : Int32} (hi : i4 = nI (6 * j)) (hj : 6 * j + 6 ≤ L) (hL : L ≤ 3072) {σ τ : St} {f : Nat → Int64} (hR : Rl σ τ) (kend : ∀ (σ' τ' : St) (f' : Nat → Int64), Rl σ' τ' → WL X Z (131 + 6 * (j + 1)) (18958 + 36 * (j + 1)) 2062 σ' τ' f' (lvL Z b i4) []) : WL X Z (131 + 6 * j) (18958 + 36 * j) 257 σ τ f (lvL Z b i4) [] := by
  obtain ⟨res, r, τ', hx1, hres, hm1, hk, hv, hR'⟩ := S σ τ (xv (6 * j + 1)) hR
  refine l_aload_n C 1 rfl dL_law_257 rfl ?_
  refine l_aload_n C 0 rfl dL_law_258 rfl ?_
  refine l_iload C 4 rfl dL_law_259 rfl ?_
  refine l_iconst C 1 (by decide) dL_law_261 rfl ?_
  refine l_iadd C dL_law_262 rfl ?_
  refine l_sld C (6 * j + 1) (by rw [hi]; exact l_ix 1 (by decide)) ⟨by omega, by omega⟩ dL_law_263 rfl ?_
  refine l_aload_n C 3 rfl dL_law_264 rfl ?_
  refine l_callW C (n := 3) (As := [.ref (zc Z 0), .int (xv (6 * j + 1)), .ref (zo Z)]) (st := []) (c2 := 131 + 6 * (j + 1)) (s2 := 18958 + 36 * (j + 1)) (mw_L_ball Z.1 Z.2.1 (zL Z) Z.2.2.2.2.1 (zo Z) C.2.1.2.1.1 hst C.2.1.2.2.2.1.2.1 hx1 hres) tw3_32 ks_L_ball (by decide +kernel) ⟨by decide, by decide⟩ ⟨by omega, by omega⟩ ⟨by omega, by omega⟩ rfl rfl (Nat.le_of_ble_eq_true rfl) dL_law_265 rfl ?_
  refine l_istore C [(5, .int (if res.1 = 0 then (0 : Int32) else 1)), (0, .ref b), (1, .ref (zc Z 0)), (2, .ref (zm Z 0)), (3, .ref (zo Z)), (4, .int i4)] (by decide) rfl dL_law_268 rfl ?_
  refine l_aload_n C 3 rfl dL_law_270 rfl ?_
  refine l_aload_n C 1 rfl dL_law_271 rfl ?_
  refine l_iload C 5 rfl dL_law_272 rfl ?_
  refine l_iconst C 1 (by decide) dL_law_274 rfl ?_
  refine l_iadd C dL_law_275 rfl ?_
  refine l_sld C (6 * j + 1) (by rw [hi]; exact l_ix 1 (by decide)) ⟨by omega, by omega⟩ dL_law_276 rfl ?_
  refine l_callMi C (n := 1) (As := [.int (xv (6 * j + 1))]) (st := []) (cfX11_ball Z.1 Z.2.1 Z.2.2.1 Z.2.2.2.2.2.1 C.2.1.2.1.2 hm1) tw7_113 cy_X11_ball (by decide +kernel) ⟨by decide, by decide⟩ ⟨by omega, by omega⟩ rfl rfl (Nat.le_of_ble_eq_true rfl) dL_law_277 rfl ?_
  refine l_istore C [(6, .int r), (5, .int (if res.1 = 0 then (0 : Int32) else 1)), (0, .ref b), (1, .ref (zc Z 0)), (2, .ref (zm Z 0)), (3, .ref (zo Z)), (4, .int i4)] (by decide) rfl dL_law_280 rfl ?_
  refine l_aload_n C 4 rfl dL_law_282 rfl ?_
  refine l_callMi C (n := 0) (As := []) (st := []) (cfX11_thrown (F := 0) Z.1 Z.2.1 Z.2.2.1 Z.2.2.2.2.2.1 C.2.1.2.1.2 (r := τ' 0 4) rfl) tw7_105 cy_X11_thrown (by decide +kernel) ⟨by decide, by decide⟩ ⟨by omega, by omega⟩ rfl rfl (Nat.le_of_ble_eq_true rfl) dL_law_283 rfl ?_
  refine l_iload C 1 rfl dL_law_286 rfl ?_
  refine l_eqT (q := 293) C hk dL_law_288 (by decide) ?_
  refine l_iload C 1 rfl dL_law_293 rfl ?_
  refine l_ifne (qt := 310) C dL_law_295 (by decide) rfl (fun _ => ?_) (fun hz => ?_)
  · refine l_goto (q := 2062) C dL_law_310 (by decide) ?_
    exact l_sub [2, 3, 4, 5, 6] rfl (kend _ _ _ hR')
  · have h0 : res.1 = 0 := by
      rcases hres with h | h
      · exact h
      · rw [h] at hz; exact absurd hz (by decide)
    refine l_aload_n C 5 rfl dL_law_298 rfl ?_
    refine l_iconst C 0 (by decide) dL_law_299 rfl ?_
    refine l_laload C dL_law_300 rfl ?_
    refine l_iload C 0 rfl dL_law_301 rfl ?_
    refine l_i2l C dL_law_303 rfl ?_
    refine l_lcmp C dL_law_304 rfl ?_
    refine l_zeroT (q := 310) C (by rw [if_pos h0, ← hv h0]; exact lgc _) dL_law_305 (by decide) ?_
    refine l_goto (q := 2062) C dL_law_310 (by decide) ?_
    exact l_sub [2, 3, 4, 5, 6] rfl (kend _ _ _ hR')
def Sm_fault (F : Nat) (Rl : St → St → Prop) : Prop := ∀ (σ τ : St), Rl σ τ → ∃ (r : Int32) (τ' : St), fX10_fault F σ = some r ∧ fX11_fault F τ = some (r, τ') ∧ Rl σ τ'
set_option maxRecDepth 20000 in
theorem lc_fault {X : XT} {Z : ZT} {b L : Nat} {xv : Nat → Int32} (C : CL X Z b L xv) (hst : X.2.1.stackTraces = false) {F : Nat} {Rl : St → St → Prop} (S : Sm_fault F Rl) {j : Nat} {i4 : Int32} (hi : i4 = nI (6 * j)) (hj : 6 * j + 6 ≤ L) (hL : L ≤ 3072) {σ τ : St} {f : Nat → Int64} (hR : Rl σ τ) (kend : ∀ (σ' τ' : St) (f' : Nat → Int64), Rl σ' τ' → WL X Z (131 + 6 * (j + 1)) (18958 + 36 * (j + 1)) 2062 σ' τ' f' (lvL Z b i4) []) : WL X Z (131 + 6 * j) (18958 + 36 * j) 313 σ τ f (lvL Z b i4) [] := by
  obtain ⟨r, τ', hx1, hm1, hR'⟩ := S σ τ hR
  refine l_aload_n C 1 rfl dL_law_313 rfl ?_
  refine l_callCi C (n := 0) (As := []) (st := []) (cfX10_fault Z.1 Z.2.1 Z.2.2.2.2.1 C.2.1.2.1.1 hx1) tw2_226 cy_X10_fault (by decide +kernel) ⟨by decide, by decide⟩ ⟨by omega, by omega⟩ rfl rfl (Nat.le_of_ble_eq_true rfl) dL_law_314 rfl ?_
  refine l_aload_n C 2 rfl dL_law_317 rfl ?_
  refine l_callMi C (n := 0) (As := []) (st := [.int r]) (cfX11_fault Z.1 Z.2.1 Z.2.2.1 Z.2.2.2.2.2.1 C.2.1.2.1.2 hm1) tw7_233 cy_X11_fault (by decide +kernel) ⟨by decide, by decide⟩ ⟨by omega, by omega⟩ rfl rfl (Nat.le_of_ble_eq_true rfl) dL_law_318 rfl ?_
  refine l_eqT (q := 2062) C rfl dL_law_321 (by decide) ?_
  exact l_wid (by omega) (by omega) (kend _ _ _ hR')
theorem ks_L_count : Cond.static yL_count ∈ BG ∧ Cond.initialized (yL_count).cls ∈ BG ∧ Cond.codeWith yL_count cL_count 4 (some .int) [(0, 9, 12, 18)] ∈ BG := ⟨tw4_81, tw1_0, BG_t4 82 (by decide +kernel) (by decide +kernel)⟩
def Sm_count (F : Nat) (Rl : St → St → Prop) : Prop := ∀ (σ τ : St) (a0 : Int32), Rl σ τ → ∃ (res : Nat × Int32 × St) (r : Int32) (τ' : St), fX10_count F σ a0 = some res ∧ (res.1 = 0 ∨ res.1 = 1) ∧ fX11_count F τ a0 = some (r, τ') ∧ τ' 0 4 = (if res.1 = 0 then (0 : Int32) else 1) ∧ (res.1 = 0 → res.2.1 = r) ∧ Rl res.2.2 τ'
set_option maxRecDepth 20000 in
theorem lc_count {X : XT} {Z : ZT} {b L : Nat} {xv : Nat → Int32} (C : CL X Z b L xv) (hst : X.2.1.stackTraces = false) {F : Nat} {Rl : St → St → Prop} (S : Sm_count F Rl) {j : Nat} {i4 : Int32} (hi : i4 = nI (6 * j)) (hj : 6 * j + 6 ≤ L) (hL : L ≤ 3072) {σ τ : St} {f : Nat → Int64} (hR : Rl σ τ) (kend : ∀ (σ' τ' : St) (f' : Nat → Int64), Rl σ' τ' → WL X Z (131 + 6 * (j + 1)) (18958 + 36 * (j + 1)) 2062 σ' τ' f' (lvL Z b i4) []) : WL X Z (131 + 6 * j) (18958 + 36 * j) 326 σ τ f (lvL Z b i4) [] := by
  obtain ⟨res, r, τ', hx1, hres, hm1, hk, hv, hR'⟩ := S σ τ (xv (6 * j + 1)) hR
  refine l_aload_n C 1 rfl dL_law_326 rfl ?_
  refine l_aload_n C 0 rfl dL_law_327 rfl ?_
  refine l_iload C 4 rfl dL_law_328 rfl ?_
  refine l_iconst C 1 (by decide) dL_law_330 rfl ?_
  refine l_iadd C dL_law_331 rfl ?_
  refine l_sld C (6 * j + 1) (by rw [hi]; exact l_ix 1 (by decide)) ⟨by omega, by omega⟩ dL_law_332 rfl ?_
  refine l_aload_n C 3 rfl dL_law_333 rfl ?_
  refine l_callW C (n := 3) (As := [.ref (zc Z 0), .int (xv (6 * j + 1)), .ref (zo Z)]) (st := []) (c2 := 131 + 6 * (j + 1)) (s2 := 18958 + 36 * (j + 1)) (mw_L_count Z.1 Z.2.1 (zL Z) Z.2.2.2.2.1 (zo Z) C.2.1.2.1.1 hst C.2.1.2.2.2.1.2.1 hx1 hres) tw4_80 ks_L_count (by decide +kernel) ⟨by decide, by decide⟩ ⟨by omega, by omega⟩ ⟨by omega, by omega⟩ rfl rfl (Nat.le_of_ble_eq_true rfl) dL_law_334 rfl ?_
  refine l_istore C [(5, .int (if res.1 = 0 then (0 : Int32) else 1)), (0, .ref b), (1, .ref (zc Z 0)), (2, .ref (zm Z 0)), (3, .ref (zo Z)), (4, .int i4)] (by decide) rfl dL_law_337 rfl ?_
  refine l_aload_n C 3 rfl dL_law_339 rfl ?_
  refine l_aload_n C 1 rfl dL_law_340 rfl ?_
  refine l_iload C 5 rfl dL_law_341 rfl ?_
  refine l_iconst C 1 (by decide) dL_law_343 rfl ?_
  refine l_iadd C dL_law_344 rfl ?_
  refine l_sld C (6 * j + 1) (by rw [hi]; exact l_ix 1 (by decide)) ⟨by omega, by omega⟩ dL_law_345 rfl ?_
  refine l_callMi C (n := 1) (As := [.int (xv (6 * j + 1))]) (st := []) (cfX11_count Z.1 Z.2.1 Z.2.2.1 Z.2.2.2.2.2.1 C.2.1.2.1.2 hm1) tw7_237 cy_X11_count (by decide +kernel) ⟨by decide, by decide⟩ ⟨by omega, by omega⟩ rfl rfl (Nat.le_of_ble_eq_true rfl) dL_law_346 rfl ?_
  refine l_istore C [(6, .int r), (5, .int (if res.1 = 0 then (0 : Int32) else 1)), (0, .ref b), (1, .ref (zc Z 0)), (2, .ref (zm Z 0)), (3, .ref (zo Z)), (4, .int i4)] (by decide) rfl dL_law_349 rfl ?_
  refine l_aload_n C 4 rfl dL_law_351 rfl ?_
  refine l_callMi C (n := 0) (As := []) (st := []) (cfX11_thrown (F := 0) Z.1 Z.2.1 Z.2.2.1 Z.2.2.2.2.2.1 C.2.1.2.1.2 (r := τ' 0 4) rfl) tw7_105 cy_X11_thrown (by decide +kernel) ⟨by decide, by decide⟩ ⟨by omega, by omega⟩ rfl rfl (Nat.le_of_ble_eq_true rfl) dL_law_352 rfl ?_
  refine l_iload C 1 rfl dL_law_355 rfl ?_
  refine l_eqT (q := 362) C hk dL_law_357 (by decide) ?_
  refine l_iload C 1 rfl dL_law_362 rfl ?_
  refine l_ifne (qt := 379) C dL_law_364 (by decide) rfl (fun _ => ?_) (fun hz => ?_)
  · refine l_goto (q := 2062) C dL_law_379 (by decide) ?_
    exact l_sub [2, 3, 4, 5, 6] rfl (kend _ _ _ hR')
  · have h0 : res.1 = 0 := by
      rcases hres with h | h
      · exact h
      · rw [h] at hz; exact absurd hz (by decide)
    refine l_aload_n C 5 rfl dL_law_367 rfl ?_
    refine l_iconst C 0 (by decide) dL_law_368 rfl ?_
    refine l_laload C dL_law_369 rfl ?_
    refine l_iload C 0 rfl dL_law_370 rfl ?_
    refine l_i2l C dL_law_372 rfl ?_
    refine l_lcmp C dL_law_373 rfl ?_
    refine l_zeroT (q := 379) C (by rw [if_pos h0, ← hv h0]; exact lgc _) dL_law_374 (by decide) ?_
    refine l_goto (q := 2062) C dL_law_379 (by decide) ?_
    exact l_sub [2, 3, 4, 5, 6] rfl (kend _ _ _ hR')
theorem ks_L_knees : Cond.static yL_knees ∈ BG ∧ Cond.initialized (yL_knees).cls ∈ BG ∧ Cond.codeWith yL_knees cL_knees 4 (some .int) [(0, 9, 12, 18)] ∈ BG := ⟨tw4_234, tw1_0, BG_t4 235 (by decide +kernel) (by decide +kernel)⟩
def Sm_knees (F : Nat) (Rl : St → St → Prop) : Prop := ∀ (σ τ : St) (a0 : Int32), Rl σ τ → ∃ (res : Nat × Int32 × St) (r : Int32) (τ' : St), fX10_knees F σ a0 = some res ∧ (res.1 = 0 ∨ res.1 = 1) ∧ fX11_knees F τ a0 = some (r, τ') ∧ τ' 0 4 = (if res.1 = 0 then (0 : Int32) else 1) ∧ (res.1 = 0 → res.2.1 = r) ∧ Rl res.2.2 τ'
set_option maxRecDepth 20000 in
theorem lc_knees {X : XT} {Z : ZT} {b L : Nat} {xv : Nat → Int32} (C : CL X Z b L xv) (hst : X.2.1.stackTraces = false) {F : Nat} {Rl : St → St → Prop} (S : Sm_knees F Rl) {j : Nat} {i4 : Int32} (hi : i4 = nI (6 * j)) (hj : 6 * j + 6 ≤ L) (hL : L ≤ 3072) {σ τ : St} {f : Nat → Int64} (hR : Rl σ τ) (kend : ∀ (σ' τ' : St) (f' : Nat → Int64), Rl σ' τ' → WL X Z (131 + 6 * (j + 1)) (18958 + 36 * (j + 1)) 2062 σ' τ' f' (lvL Z b i4) []) : WL X Z (131 + 6 * j) (18958 + 36 * j) 382 σ τ f (lvL Z b i4) [] := by
  obtain ⟨res, r, τ', hx1, hres, hm1, hk, hv, hR'⟩ := S σ τ (xv (6 * j + 1)) hR
  refine l_aload_n C 1 rfl dL_law_382 rfl ?_
  refine l_aload_n C 0 rfl dL_law_383 rfl ?_
  refine l_iload C 4 rfl dL_law_384 rfl ?_
  refine l_iconst C 1 (by decide) dL_law_386 rfl ?_
  refine l_iadd C dL_law_387 rfl ?_
  refine l_sld C (6 * j + 1) (by rw [hi]; exact l_ix 1 (by decide)) ⟨by omega, by omega⟩ dL_law_388 rfl ?_
  refine l_aload_n C 3 rfl dL_law_389 rfl ?_
  refine l_callW C (n := 3) (As := [.ref (zc Z 0), .int (xv (6 * j + 1)), .ref (zo Z)]) (st := []) (c2 := 131 + 6 * (j + 1)) (s2 := 18958 + 36 * (j + 1)) (mw_L_knees Z.1 Z.2.1 (zL Z) Z.2.2.2.2.1 (zo Z) C.2.1.2.1.1 hst C.2.1.2.2.2.1.2.1 hx1 hres) tw4_233 ks_L_knees (by decide +kernel) ⟨by decide, by decide⟩ ⟨by omega, by omega⟩ ⟨by omega, by omega⟩ rfl rfl (Nat.le_of_ble_eq_true rfl) dL_law_390 rfl ?_
  refine l_istore C [(5, .int (if res.1 = 0 then (0 : Int32) else 1)), (0, .ref b), (1, .ref (zc Z 0)), (2, .ref (zm Z 0)), (3, .ref (zo Z)), (4, .int i4)] (by decide) rfl dL_law_393 rfl ?_
  refine l_aload_n C 3 rfl dL_law_395 rfl ?_
  refine l_aload_n C 1 rfl dL_law_396 rfl ?_
  refine l_iload C 5 rfl dL_law_397 rfl ?_
  refine l_iconst C 1 (by decide) dL_law_399 rfl ?_
  refine l_iadd C dL_law_400 rfl ?_
  refine l_sld C (6 * j + 1) (by rw [hi]; exact l_ix 1 (by decide)) ⟨by omega, by omega⟩ dL_law_401 rfl ?_
  refine l_callMi C (n := 1) (As := [.int (xv (6 * j + 1))]) (st := []) (cfX11_knees Z.1 Z.2.1 Z.2.2.1 Z.2.2.2.2.2.1 C.2.1.2.1.2 hm1) tw8_91 cy_X11_knees (by decide +kernel) ⟨by decide, by decide⟩ ⟨by omega, by omega⟩ rfl rfl (Nat.le_of_ble_eq_true rfl) dL_law_402 rfl ?_
  refine l_istore C [(6, .int r), (5, .int (if res.1 = 0 then (0 : Int32) else 1)), (0, .ref b), (1, .ref (zc Z 0)), (2, .ref (zm Z 0)), (3, .ref (zo Z)), (4, .int i4)] (by decide) rfl dL_law_405 rfl ?_
  refine l_aload_n C 4 rfl dL_law_407 rfl ?_
  refine l_callMi C (n := 0) (As := []) (st := []) (cfX11_thrown (F := 0) Z.1 Z.2.1 Z.2.2.1 Z.2.2.2.2.2.1 C.2.1.2.1.2 (r := τ' 0 4) rfl) tw7_105 cy_X11_thrown (by decide +kernel) ⟨by decide, by decide⟩ ⟨by omega, by omega⟩ rfl rfl (Nat.le_of_ble_eq_true rfl) dL_law_408 rfl ?_
  refine l_iload C 1 rfl dL_law_411 rfl ?_
  refine l_eqT (q := 418) C hk dL_law_413 (by decide) ?_
  refine l_iload C 1 rfl dL_law_418 rfl ?_
  refine l_ifne (qt := 435) C dL_law_420 (by decide) rfl (fun _ => ?_) (fun hz => ?_)
  · refine l_goto (q := 2062) C dL_law_435 (by decide) ?_
    exact l_sub [2, 3, 4, 5, 6] rfl (kend _ _ _ hR')
  · have h0 : res.1 = 0 := by
      rcases hres with h | h
      · exact h
      · rw [h] at hz; exact absurd hz (by decide)
    refine l_aload_n C 5 rfl dL_law_423 rfl ?_
    refine l_iconst C 0 (by decide) dL_law_424 rfl ?_
    refine l_laload C dL_law_425 rfl ?_
    refine l_iload C 0 rfl dL_law_426 rfl ?_
    refine l_i2l C dL_law_428 rfl ?_
    refine l_lcmp C dL_law_429 rfl ?_
    refine l_zeroT (q := 435) C (by rw [if_pos h0, ← hv h0]; exact lgc _) dL_law_430 (by decide) ?_
    refine l_goto (q := 2062) C dL_law_435 (by decide) ?_
    exact l_sub [2, 3, 4, 5, 6] rfl (kend _ _ _ hR')
theorem ks_L_dance : Cond.static yL_dance ∈ BG ∧ Cond.initialized (yL_dance).cls ∈ BG ∧ Cond.codeWith yL_dance cL_dance 5 (some .int) [(0, 10, 13, 18)] ∈ BG := ⟨tw5_6, tw1_0, BG_t5 7 (by decide +kernel) (by decide +kernel)⟩
def Sm_dance (F : Nat) (Rl : St → St → Prop) : Prop := ∀ (σ τ : St) (a0 a1 : Int32), Rl σ τ → ∃ (res : Nat × Int32 × St) (r : Int32) (τ' : St), fX10_dance F σ a0 a1 = some res ∧ (res.1 = 0 ∨ res.1 = 1) ∧ fX11_dance F τ a0 a1 = some (r, τ') ∧ τ' 0 4 = (if res.1 = 0 then (0 : Int32) else 1) ∧ (res.1 = 0 → res.2.1 = r) ∧ Rl res.2.2 τ'
set_option maxRecDepth 20000 in
theorem lc_dance {X : XT} {Z : ZT} {b L : Nat} {xv : Nat → Int32} (C : CL X Z b L xv) (hst : X.2.1.stackTraces = false) {F : Nat} {Rl : St → St → Prop} (S : Sm_dance F Rl) {j : Nat} {i4 : Int32} (hi : i4 = nI (6 * j)) (hj : 6 * j + 6 ≤ L) (hL : L ≤ 3072) {σ τ : St} {f : Nat → Int64} (hR : Rl σ τ) (kend : ∀ (σ' τ' : St) (f' : Nat → Int64), Rl σ' τ' → WL X Z (131 + 6 * (j + 1)) (18958 + 36 * (j + 1)) 2062 σ' τ' f' (lvL Z b i4) []) : WL X Z (131 + 6 * j) (18958 + 36 * j) 438 σ τ f (lvL Z b i4) [] := by
  obtain ⟨res, r, τ', hx1, hres, hm1, hk, hv, hR'⟩ := S σ τ (xv (6 * j + 1)) (xv (6 * j + 2)) hR
  refine l_aload_n C 1 rfl dL_law_438 rfl ?_
  refine l_aload_n C 0 rfl dL_law_439 rfl ?_
  refine l_iload C 4 rfl dL_law_440 rfl ?_
  refine l_iconst C 1 (by decide) dL_law_442 rfl ?_
  refine l_iadd C dL_law_443 rfl ?_
  refine l_sld C (6 * j + 1) (by rw [hi]; exact l_ix 1 (by decide)) ⟨by omega, by omega⟩ dL_law_444 rfl ?_
  refine l_aload_n C 0 rfl dL_law_445 rfl ?_
  refine l_iload C 4 rfl dL_law_446 rfl ?_
  refine l_iconst C 2 (by decide) dL_law_448 rfl ?_
  refine l_iadd C dL_law_449 rfl ?_
  refine l_sld C (6 * j + 2) (by rw [hi]; exact l_ix 2 (by decide)) ⟨by omega, by omega⟩ dL_law_450 rfl ?_
  refine l_aload_n C 3 rfl dL_law_451 rfl ?_
  refine l_callW C (n := 4) (As := [.ref (zc Z 0), .int (xv (6 * j + 1)), .int (xv (6 * j + 2)), .ref (zo Z)]) (st := []) (c2 := 131 + 6 * (j + 1)) (s2 := 18958 + 36 * (j + 1)) (mw_L_dance Z.1 Z.2.1 (zL Z) Z.2.2.2.2.1 (zo Z) C.2.1.2.1.1 hst C.2.1.2.2.2.1.2.1 hx1 hres) tw5_5 ks_L_dance (by decide +kernel) ⟨by decide, by decide⟩ ⟨by omega, by omega⟩ ⟨by omega, by omega⟩ rfl rfl (Nat.le_of_ble_eq_true rfl) dL_law_452 rfl ?_
  refine l_istore C [(5, .int (if res.1 = 0 then (0 : Int32) else 1)), (0, .ref b), (1, .ref (zc Z 0)), (2, .ref (zm Z 0)), (3, .ref (zo Z)), (4, .int i4)] (by decide) rfl dL_law_455 rfl ?_
  refine l_aload_n C 3 rfl dL_law_457 rfl ?_
  refine l_aload_n C 1 rfl dL_law_458 rfl ?_
  refine l_iload C 5 rfl dL_law_459 rfl ?_
  refine l_iconst C 1 (by decide) dL_law_461 rfl ?_
  refine l_iadd C dL_law_462 rfl ?_
  refine l_sld C (6 * j + 1) (by rw [hi]; exact l_ix 1 (by decide)) ⟨by omega, by omega⟩ dL_law_463 rfl ?_
  refine l_aload_n C 1 rfl dL_law_464 rfl ?_
  refine l_iload C 5 rfl dL_law_465 rfl ?_
  refine l_iconst C 2 (by decide) dL_law_467 rfl ?_
  refine l_iadd C dL_law_468 rfl ?_
  refine l_sld C (6 * j + 2) (by rw [hi]; exact l_ix 2 (by decide)) ⟨by omega, by omega⟩ dL_law_469 rfl ?_
  refine l_callMi C (n := 2) (As := [.int (xv (6 * j + 1)), .int (xv (6 * j + 2))]) (st := []) (cfX11_dance Z.1 Z.2.1 Z.2.2.1 Z.2.2.2.2.2.1 C.2.1.2.1.2 hm1) tw8_102 cy_X11_dance (by decide +kernel) ⟨by decide, by decide⟩ ⟨by omega, by omega⟩ rfl rfl (Nat.le_of_ble_eq_true rfl) dL_law_470 rfl ?_
  refine l_istore C [(6, .int r), (5, .int (if res.1 = 0 then (0 : Int32) else 1)), (0, .ref b), (1, .ref (zc Z 0)), (2, .ref (zm Z 0)), (3, .ref (zo Z)), (4, .int i4)] (by decide) rfl dL_law_473 rfl ?_
  refine l_aload_n C 4 rfl dL_law_475 rfl ?_
  refine l_callMi C (n := 0) (As := []) (st := []) (cfX11_thrown (F := 0) Z.1 Z.2.1 Z.2.2.1 Z.2.2.2.2.2.1 C.2.1.2.1.2 (r := τ' 0 4) rfl) tw7_105 cy_X11_thrown (by decide +kernel) ⟨by decide, by decide⟩ ⟨by omega, by omega⟩ rfl rfl (Nat.le_of_ble_eq_true rfl) dL_law_476 rfl ?_
  refine l_iload C 1 rfl dL_law_479 rfl ?_
  refine l_eqT (q := 486) C hk dL_law_481 (by decide) ?_
  refine l_iload C 1 rfl dL_law_486 rfl ?_
  refine l_ifne (qt := 503) C dL_law_488 (by decide) rfl (fun _ => ?_) (fun hz => ?_)
  · refine l_goto (q := 2062) C dL_law_503 (by decide) ?_
    exact l_sub [2, 3, 4, 5, 6] rfl (kend _ _ _ hR')
  · have h0 : res.1 = 0 := by
      rcases hres with h | h
      · exact h
      · rw [h] at hz; exact absurd hz (by decide)
    refine l_aload_n C 5 rfl dL_law_491 rfl ?_
    refine l_iconst C 0 (by decide) dL_law_492 rfl ?_
    refine l_laload C dL_law_493 rfl ?_
    refine l_iload C 0 rfl dL_law_494 rfl ?_
    refine l_i2l C dL_law_496 rfl ?_
    refine l_lcmp C dL_law_497 rfl ?_
    refine l_zeroT (q := 503) C (by rw [if_pos h0, ← hv h0]; exact lgc _) dL_law_498 (by decide) ?_
    refine l_goto (q := 2062) C dL_law_503 (by decide) ?_
    exact l_sub [2, 3, 4, 5, 6] rfl (kend _ _ _ hR')
theorem ks_L_step : Cond.static yL_step ∈ BG ∧ Cond.initialized (yL_step).cls ∈ BG ∧ Cond.codeWith yL_step cL_step 6 (some .int) [(0, 12, 15, 18)] ∈ BG := ⟨tw5_31, tw1_0, BG_t5 32 (by decide +kernel) (by decide +kernel)⟩
def Sm_step (F : Nat) (Rl : St → St → Prop) : Prop := ∀ (σ τ : St) (a0 a1 a2 : Int32), Rl σ τ → ∃ (res : Nat × Int32 × St) (r : Int32) (τ' : St), fX10_step F σ a0 a1 a2 = some res ∧ (res.1 = 0 ∨ res.1 = 1) ∧ fX11_step F τ a0 a1 a2 = some (r, τ') ∧ τ' 0 4 = (if res.1 = 0 then (0 : Int32) else 1) ∧ (res.1 = 0 → res.2.1 = r) ∧ Rl res.2.2 τ'
set_option maxRecDepth 20000 in
theorem lc_step {X : XT} {Z : ZT} {b L : Nat} {xv : Nat → Int32} (C : CL X Z b L xv) (hst : X.2.1.stackTraces = false) {F : Nat} {Rl : St → St → Prop} (S : Sm_step F Rl) {j : Nat} {i4 : Int32} (hi : i4 = nI (6 * j)) (hj : 6 * j + 6 ≤ L) (hL : L ≤ 3072) {σ τ : St} {f : Nat → Int64} (hR : Rl σ τ) (kend : ∀ (σ' τ' : St) (f' : Nat → Int64), Rl σ' τ' → WL X Z (131 + 6 * (j + 1)) (18958 + 36 * (j + 1)) 2062 σ' τ' f' (lvL Z b i4) []) : WL X Z (131 + 6 * j) (18958 + 36 * j) 506 σ τ f (lvL Z b i4) [] := by
  obtain ⟨res, r, τ', hx1, hres, hm1, hk, hv, hR'⟩ := S σ τ (xv (6 * j + 1)) (xv (6 * j + 2)) (xv (6 * j + 3)) hR
  refine l_aload_n C 1 rfl dL_law_506 rfl ?_
  refine l_aload_n C 0 rfl dL_law_507 rfl ?_
  refine l_iload C 4 rfl dL_law_508 rfl ?_
  refine l_iconst C 1 (by decide) dL_law_510 rfl ?_
  refine l_iadd C dL_law_511 rfl ?_
  refine l_sld C (6 * j + 1) (by rw [hi]; exact l_ix 1 (by decide)) ⟨by omega, by omega⟩ dL_law_512 rfl ?_
  refine l_aload_n C 0 rfl dL_law_513 rfl ?_
  refine l_iload C 4 rfl dL_law_514 rfl ?_
  refine l_iconst C 2 (by decide) dL_law_516 rfl ?_
  refine l_iadd C dL_law_517 rfl ?_
  refine l_sld C (6 * j + 2) (by rw [hi]; exact l_ix 2 (by decide)) ⟨by omega, by omega⟩ dL_law_518 rfl ?_
  refine l_aload_n C 0 rfl dL_law_519 rfl ?_
  refine l_iload C 4 rfl dL_law_520 rfl ?_
  refine l_iconst C 3 (by decide) dL_law_522 rfl ?_
  refine l_iadd C dL_law_523 rfl ?_
  refine l_sld C (6 * j + 3) (by rw [hi]; exact l_ix 3 (by decide)) ⟨by omega, by omega⟩ dL_law_524 rfl ?_
  refine l_aload_n C 3 rfl dL_law_525 rfl ?_
  refine l_callW C (n := 5) (As := [.ref (zc Z 0), .int (xv (6 * j + 1)), .int (xv (6 * j + 2)), .int (xv (6 * j + 3)), .ref (zo Z)]) (st := []) (c2 := 131 + 6 * (j + 1)) (s2 := 18958 + 36 * (j + 1)) (mw_L_step Z.1 Z.2.1 (zL Z) Z.2.2.2.2.1 (zo Z) C.2.1.2.1.1 hst C.2.1.2.2.2.1.2.1 hx1 hres) tw5_30 ks_L_step (by decide +kernel) ⟨by decide, by decide⟩ ⟨by omega, by omega⟩ ⟨by omega, by omega⟩ rfl rfl (Nat.le_of_ble_eq_true rfl) dL_law_526 rfl ?_
  refine l_istore C [(5, .int (if res.1 = 0 then (0 : Int32) else 1)), (0, .ref b), (1, .ref (zc Z 0)), (2, .ref (zm Z 0)), (3, .ref (zo Z)), (4, .int i4)] (by decide) rfl dL_law_529 rfl ?_
  refine l_aload_n C 3 rfl dL_law_531 rfl ?_
  refine l_aload_n C 1 rfl dL_law_532 rfl ?_
  refine l_iload C 5 rfl dL_law_533 rfl ?_
  refine l_iconst C 1 (by decide) dL_law_535 rfl ?_
  refine l_iadd C dL_law_536 rfl ?_
  refine l_sld C (6 * j + 1) (by rw [hi]; exact l_ix 1 (by decide)) ⟨by omega, by omega⟩ dL_law_537 rfl ?_
  refine l_aload_n C 1 rfl dL_law_538 rfl ?_
  refine l_iload C 5 rfl dL_law_539 rfl ?_
  refine l_iconst C 2 (by decide) dL_law_541 rfl ?_
  refine l_iadd C dL_law_542 rfl ?_
  refine l_sld C (6 * j + 2) (by rw [hi]; exact l_ix 2 (by decide)) ⟨by omega, by omega⟩ dL_law_543 rfl ?_
  refine l_aload_n C 1 rfl dL_law_544 rfl ?_
  refine l_iload C 5 rfl dL_law_545 rfl ?_
  refine l_iconst C 3 (by decide) dL_law_547 rfl ?_
  refine l_iadd C dL_law_548 rfl ?_
  refine l_sld C (6 * j + 3) (by rw [hi]; exact l_ix 3 (by decide)) ⟨by omega, by omega⟩ dL_law_549 rfl ?_
  refine l_callMi C (n := 3) (As := [.int (xv (6 * j + 1)), .int (xv (6 * j + 2)), .int (xv (6 * j + 3))]) (st := []) (cfX11_step Z.1 Z.2.1 Z.2.2.1 Z.2.2.2.2.2.1 C.2.1.2.1.2 hm1) tw8_110 cy_X11_step (by decide +kernel) ⟨by decide, by decide⟩ ⟨by omega, by omega⟩ rfl rfl (Nat.le_of_ble_eq_true rfl) dL_law_550 rfl ?_
  refine l_istore C [(6, .int r), (5, .int (if res.1 = 0 then (0 : Int32) else 1)), (0, .ref b), (1, .ref (zc Z 0)), (2, .ref (zm Z 0)), (3, .ref (zo Z)), (4, .int i4)] (by decide) rfl dL_law_553 rfl ?_
  refine l_aload_n C 4 rfl dL_law_555 rfl ?_
  refine l_callMi C (n := 0) (As := []) (st := []) (cfX11_thrown (F := 0) Z.1 Z.2.1 Z.2.2.1 Z.2.2.2.2.2.1 C.2.1.2.1.2 (r := τ' 0 4) rfl) tw7_105 cy_X11_thrown (by decide +kernel) ⟨by decide, by decide⟩ ⟨by omega, by omega⟩ rfl rfl (Nat.le_of_ble_eq_true rfl) dL_law_556 rfl ?_
  refine l_iload C 1 rfl dL_law_559 rfl ?_
  refine l_eqT (q := 566) C hk dL_law_561 (by decide) ?_
  refine l_iload C 1 rfl dL_law_566 rfl ?_
  refine l_ifne (qt := 583) C dL_law_568 (by decide) rfl (fun _ => ?_) (fun hz => ?_)
  · refine l_goto (q := 2062) C dL_law_583 (by decide) ?_
    exact l_sub [2, 3, 4, 5, 6] rfl (kend _ _ _ hR')
  · have h0 : res.1 = 0 := by
      rcases hres with h | h
      · exact h
      · rw [h] at hz; exact absurd hz (by decide)
    refine l_aload_n C 5 rfl dL_law_571 rfl ?_
    refine l_iconst C 0 (by decide) dL_law_572 rfl ?_
    refine l_laload C dL_law_573 rfl ?_
    refine l_iload C 0 rfl dL_law_574 rfl ?_
    refine l_i2l C dL_law_576 rfl ?_
    refine l_lcmp C dL_law_577 rfl ?_
    refine l_zeroT (q := 583) C (by rw [if_pos h0, ← hv h0]; exact lgc _) dL_law_578 (by decide) ?_
    refine l_goto (q := 2062) C dL_law_583 (by decide) ?_
    exact l_sub [2, 3, 4, 5, 6] rfl (kend _ _ _ hR')
theorem ks_L_where : Cond.static yL_where ∈ BG ∧ Cond.initialized (yL_where).cls ∈ BG ∧ Cond.codeWith yL_where cL_where 7 (some .int) [(0, 14, 17, 18)] ∈ BG := ⟨tw5_45, tw1_0, BG_t5 46 (by decide +kernel) (by decide +kernel)⟩
def Sm_where (F : Nat) (Rl : St → St → Prop) : Prop := ∀ (σ τ : St) (a0 a1 a2 a3 : Int32), Rl σ τ → ∃ (res : Nat × Int32 × St) (r : Int32) (τ' : St), fX10_where F σ a0 a1 a2 a3 = some res ∧ (res.1 = 0 ∨ res.1 = 1) ∧ fX11_where F τ a0 a1 a2 a3 = some (r, τ') ∧ τ' 0 4 = (if res.1 = 0 then (0 : Int32) else 1) ∧ (res.1 = 0 → res.2.1 = r) ∧ Rl res.2.2 τ'
set_option maxRecDepth 20000 in
theorem lc_where {X : XT} {Z : ZT} {b L : Nat} {xv : Nat → Int32} (C : CL X Z b L xv) (hst : X.2.1.stackTraces = false) {F : Nat} {Rl : St → St → Prop} (S : Sm_where F Rl) {j : Nat} {i4 : Int32} (hi : i4 = nI (6 * j)) (hj : 6 * j + 6 ≤ L) (hL : L ≤ 3072) {σ τ : St} {f : Nat → Int64} (hR : Rl σ τ) (kend : ∀ (σ' τ' : St) (f' : Nat → Int64), Rl σ' τ' → WL X Z (131 + 6 * (j + 1)) (18958 + 36 * (j + 1)) 2062 σ' τ' f' (lvL Z b i4) []) : WL X Z (131 + 6 * j) (18958 + 36 * j) 586 σ τ f (lvL Z b i4) [] := by
  obtain ⟨res, r, τ', hx1, hres, hm1, hk, hv, hR'⟩ := S σ τ (xv (6 * j + 1)) (xv (6 * j + 2)) (xv (6 * j + 3)) (xv (6 * j + 4)) hR
  refine l_aload_n C 1 rfl dL_law_586 rfl ?_
  refine l_aload_n C 0 rfl dL_law_587 rfl ?_
  refine l_iload C 4 rfl dL_law_588 rfl ?_
  refine l_iconst C 1 (by decide) dL_law_590 rfl ?_
  refine l_iadd C dL_law_591 rfl ?_
  refine l_sld C (6 * j + 1) (by rw [hi]; exact l_ix 1 (by decide)) ⟨by omega, by omega⟩ dL_law_592 rfl ?_
  refine l_aload_n C 0 rfl dL_law_593 rfl ?_
  refine l_iload C 4 rfl dL_law_594 rfl ?_
  refine l_iconst C 2 (by decide) dL_law_596 rfl ?_
  refine l_iadd C dL_law_597 rfl ?_
  refine l_sld C (6 * j + 2) (by rw [hi]; exact l_ix 2 (by decide)) ⟨by omega, by omega⟩ dL_law_598 rfl ?_
  refine l_aload_n C 0 rfl dL_law_599 rfl ?_
  refine l_iload C 4 rfl dL_law_600 rfl ?_
  refine l_iconst C 3 (by decide) dL_law_602 rfl ?_
  refine l_iadd C dL_law_603 rfl ?_
  refine l_sld C (6 * j + 3) (by rw [hi]; exact l_ix 3 (by decide)) ⟨by omega, by omega⟩ dL_law_604 rfl ?_
  refine l_aload_n C 0 rfl dL_law_605 rfl ?_
  refine l_iload C 4 rfl dL_law_606 rfl ?_
  refine l_iconst C 4 (by decide) dL_law_608 rfl ?_
  refine l_iadd C dL_law_609 rfl ?_
  refine l_sld C (6 * j + 4) (by rw [hi]; exact l_ix 4 (by decide)) ⟨by omega, by omega⟩ dL_law_610 rfl ?_
  refine l_aload_n C 3 rfl dL_law_611 rfl ?_
  refine l_callW C (n := 6) (As := [.ref (zc Z 0), .int (xv (6 * j + 1)), .int (xv (6 * j + 2)), .int (xv (6 * j + 3)), .int (xv (6 * j + 4)), .ref (zo Z)]) (st := []) (c2 := 131 + 6 * (j + 1)) (s2 := 18958 + 36 * (j + 1)) (mw_L_where Z.1 Z.2.1 (zL Z) Z.2.2.2.2.1 (zo Z) C.2.1.2.1.1 hst C.2.1.2.2.2.1.2.1 hx1 hres) tw5_44 ks_L_where (by decide +kernel) ⟨by decide, by decide⟩ ⟨by omega, by omega⟩ ⟨by omega, by omega⟩ rfl rfl (Nat.le_of_ble_eq_true rfl) dL_law_612 rfl ?_
  refine l_istore C [(5, .int (if res.1 = 0 then (0 : Int32) else 1)), (0, .ref b), (1, .ref (zc Z 0)), (2, .ref (zm Z 0)), (3, .ref (zo Z)), (4, .int i4)] (by decide) rfl dL_law_615 rfl ?_
  refine l_aload_n C 3 rfl dL_law_617 rfl ?_
  refine l_aload_n C 1 rfl dL_law_618 rfl ?_
  refine l_iload C 5 rfl dL_law_619 rfl ?_
  refine l_iconst C 1 (by decide) dL_law_621 rfl ?_
  refine l_iadd C dL_law_622 rfl ?_
  refine l_sld C (6 * j + 1) (by rw [hi]; exact l_ix 1 (by decide)) ⟨by omega, by omega⟩ dL_law_623 rfl ?_
  refine l_aload_n C 1 rfl dL_law_624 rfl ?_
  refine l_iload C 5 rfl dL_law_625 rfl ?_
  refine l_iconst C 2 (by decide) dL_law_627 rfl ?_
  refine l_iadd C dL_law_628 rfl ?_
  refine l_sld C (6 * j + 2) (by rw [hi]; exact l_ix 2 (by decide)) ⟨by omega, by omega⟩ dL_law_629 rfl ?_
  refine l_aload_n C 1 rfl dL_law_630 rfl ?_
  refine l_iload C 5 rfl dL_law_631 rfl ?_
  refine l_iconst C 3 (by decide) dL_law_633 rfl ?_
  refine l_iadd C dL_law_634 rfl ?_
  refine l_sld C (6 * j + 3) (by rw [hi]; exact l_ix 3 (by decide)) ⟨by omega, by omega⟩ dL_law_635 rfl ?_
  refine l_aload_n C 1 rfl dL_law_636 rfl ?_
  refine l_iload C 5 rfl dL_law_637 rfl ?_
  refine l_iconst C 4 (by decide) dL_law_639 rfl ?_
  refine l_iadd C dL_law_640 rfl ?_
  refine l_sld C (6 * j + 4) (by rw [hi]; exact l_ix 4 (by decide)) ⟨by omega, by omega⟩ dL_law_641 rfl ?_
  refine l_callMi C (n := 4) (As := [.int (xv (6 * j + 1)), .int (xv (6 * j + 2)), .int (xv (6 * j + 3)), .int (xv (6 * j + 4))]) (st := []) (cfX11_where Z.1 Z.2.1 Z.2.2.1 Z.2.2.2.2.2.1 C.2.1.2.1.2 hm1) tw8_119 cy_X11_where (by decide +kernel) ⟨by decide, by decide⟩ ⟨by omega, by omega⟩ rfl rfl (Nat.le_of_ble_eq_true rfl) dL_law_642 rfl ?_
  refine l_istore C [(6, .int r), (5, .int (if res.1 = 0 then (0 : Int32) else 1)), (0, .ref b), (1, .ref (zc Z 0)), (2, .ref (zm Z 0)), (3, .ref (zo Z)), (4, .int i4)] (by decide) rfl dL_law_645 rfl ?_
  refine l_aload_n C 4 rfl dL_law_647 rfl ?_
  refine l_callMi C (n := 0) (As := []) (st := []) (cfX11_thrown (F := 0) Z.1 Z.2.1 Z.2.2.1 Z.2.2.2.2.2.1 C.2.1.2.1.2 (r := τ' 0 4) rfl) tw7_105 cy_X11_thrown (by decide +kernel) ⟨by decide, by decide⟩ ⟨by omega, by omega⟩ rfl rfl (Nat.le_of_ble_eq_true rfl) dL_law_648 rfl ?_
  refine l_iload C 1 rfl dL_law_651 rfl ?_
  refine l_eqT (q := 658) C hk dL_law_653 (by decide) ?_
  refine l_iload C 1 rfl dL_law_658 rfl ?_
  refine l_ifne (qt := 675) C dL_law_660 (by decide) rfl (fun _ => ?_) (fun hz => ?_)
  · refine l_goto (q := 2062) C dL_law_675 (by decide) ?_
    exact l_sub [2, 3, 4, 5, 6] rfl (kend _ _ _ hR')
  · have h0 : res.1 = 0 := by
      rcases hres with h | h
      · exact h
      · rw [h] at hz; exact absurd hz (by decide)
    refine l_aload_n C 5 rfl dL_law_663 rfl ?_
    refine l_iconst C 0 (by decide) dL_law_664 rfl ?_
    refine l_laload C dL_law_665 rfl ?_
    refine l_iload C 0 rfl dL_law_666 rfl ?_
    refine l_i2l C dL_law_668 rfl ?_
    refine l_lcmp C dL_law_669 rfl ?_
    refine l_zeroT (q := 675) C (by rw [if_pos h0, ← hv h0]; exact lgc _) dL_law_670 (by decide) ?_
    refine l_goto (q := 2062) C dL_law_675 (by decide) ?_
    exact l_sub [2, 3, 4, 5, 6] rfl (kend _ _ _ hR')
theorem ks_L_bound : Cond.static yL_bound ∈ BG ∧ Cond.initialized (yL_bound).cls ∈ BG ∧ Cond.codeWith yL_bound cL_bound 5 (some .int) [(0, 10, 13, 18)] ∈ BG := ⟨tw5_60, tw1_0, BG_t5 61 (by decide +kernel) (by decide +kernel)⟩
def Sm_bound (F : Nat) (Rl : St → St → Prop) : Prop := ∀ (σ τ : St) (a0 a1 : Int32), Rl σ τ → ∃ (res : Nat × Int32 × St) (r : Int32) (τ' : St), fX10_bound F σ a0 a1 = some res ∧ (res.1 = 0 ∨ res.1 = 1) ∧ fX11_bound F τ a0 a1 = some (r, τ') ∧ τ' 0 4 = (if res.1 = 0 then (0 : Int32) else 1) ∧ (res.1 = 0 → res.2.1 = r) ∧ Rl res.2.2 τ'
set_option maxRecDepth 20000 in
theorem lc_bound {X : XT} {Z : ZT} {b L : Nat} {xv : Nat → Int32} (C : CL X Z b L xv) (hst : X.2.1.stackTraces = false) {F : Nat} {Rl : St → St → Prop} (S : Sm_bound F Rl) {j : Nat} {i4 : Int32} (hi : i4 = nI (6 * j)) (hj : 6 * j + 6 ≤ L) (hL : L ≤ 3072) {σ τ : St} {f : Nat → Int64} (hR : Rl σ τ) (kend : ∀ (σ' τ' : St) (f' : Nat → Int64), Rl σ' τ' → WL X Z (131 + 6 * (j + 1)) (18958 + 36 * (j + 1)) 2062 σ' τ' f' (lvL Z b i4) []) : WL X Z (131 + 6 * j) (18958 + 36 * j) 678 σ τ f (lvL Z b i4) [] := by
  obtain ⟨res, r, τ', hx1, hres, hm1, hk, hv, hR'⟩ := S σ τ (xv (6 * j + 1)) (xv (6 * j + 2)) hR
  refine l_aload_n C 1 rfl dL_law_678 rfl ?_
  refine l_aload_n C 0 rfl dL_law_679 rfl ?_
  refine l_iload C 4 rfl dL_law_680 rfl ?_
  refine l_iconst C 1 (by decide) dL_law_682 rfl ?_
  refine l_iadd C dL_law_683 rfl ?_
  refine l_sld C (6 * j + 1) (by rw [hi]; exact l_ix 1 (by decide)) ⟨by omega, by omega⟩ dL_law_684 rfl ?_
  refine l_aload_n C 0 rfl dL_law_685 rfl ?_
  refine l_iload C 4 rfl dL_law_686 rfl ?_
  refine l_iconst C 2 (by decide) dL_law_688 rfl ?_
  refine l_iadd C dL_law_689 rfl ?_
  refine l_sld C (6 * j + 2) (by rw [hi]; exact l_ix 2 (by decide)) ⟨by omega, by omega⟩ dL_law_690 rfl ?_
  refine l_aload_n C 3 rfl dL_law_691 rfl ?_
  refine l_callW C (n := 4) (As := [.ref (zc Z 0), .int (xv (6 * j + 1)), .int (xv (6 * j + 2)), .ref (zo Z)]) (st := []) (c2 := 131 + 6 * (j + 1)) (s2 := 18958 + 36 * (j + 1)) (mw_L_bound Z.1 Z.2.1 (zL Z) Z.2.2.2.2.1 (zo Z) C.2.1.2.1.1 hst C.2.1.2.2.2.1.2.1 hx1 hres) tw5_59 ks_L_bound (by decide +kernel) ⟨by decide, by decide⟩ ⟨by omega, by omega⟩ ⟨by omega, by omega⟩ rfl rfl (Nat.le_of_ble_eq_true rfl) dL_law_692 rfl ?_
  refine l_istore C [(5, .int (if res.1 = 0 then (0 : Int32) else 1)), (0, .ref b), (1, .ref (zc Z 0)), (2, .ref (zm Z 0)), (3, .ref (zo Z)), (4, .int i4)] (by decide) rfl dL_law_695 rfl ?_
  refine l_aload_n C 3 rfl dL_law_697 rfl ?_
  refine l_aload_n C 1 rfl dL_law_698 rfl ?_
  refine l_iload C 5 rfl dL_law_699 rfl ?_
  refine l_iconst C 1 (by decide) dL_law_701 rfl ?_
  refine l_iadd C dL_law_702 rfl ?_
  refine l_sld C (6 * j + 1) (by rw [hi]; exact l_ix 1 (by decide)) ⟨by omega, by omega⟩ dL_law_703 rfl ?_
  refine l_aload_n C 1 rfl dL_law_704 rfl ?_
  refine l_iload C 5 rfl dL_law_705 rfl ?_
  refine l_iconst C 2 (by decide) dL_law_707 rfl ?_
  refine l_iadd C dL_law_708 rfl ?_
  refine l_sld C (6 * j + 2) (by rw [hi]; exact l_ix 2 (by decide)) ⟨by omega, by omega⟩ dL_law_709 rfl ?_
  refine l_callMi C (n := 2) (As := [.int (xv (6 * j + 1)), .int (xv (6 * j + 2))]) (st := []) (cfX11_bound Z.1 Z.2.1 Z.2.2.1 Z.2.2.2.2.2.1 C.2.1.2.1.2 hm1) tw8_125 cy_X11_bound (by decide +kernel) ⟨by decide, by decide⟩ ⟨by omega, by omega⟩ rfl rfl (Nat.le_of_ble_eq_true rfl) dL_law_710 rfl ?_
  refine l_istore C [(6, .int r), (5, .int (if res.1 = 0 then (0 : Int32) else 1)), (0, .ref b), (1, .ref (zc Z 0)), (2, .ref (zm Z 0)), (3, .ref (zo Z)), (4, .int i4)] (by decide) rfl dL_law_713 rfl ?_
  refine l_aload_n C 4 rfl dL_law_715 rfl ?_
  refine l_callMi C (n := 0) (As := []) (st := []) (cfX11_thrown (F := 0) Z.1 Z.2.1 Z.2.2.1 Z.2.2.2.2.2.1 C.2.1.2.1.2 (r := τ' 0 4) rfl) tw7_105 cy_X11_thrown (by decide +kernel) ⟨by decide, by decide⟩ ⟨by omega, by omega⟩ rfl rfl (Nat.le_of_ble_eq_true rfl) dL_law_716 rfl ?_
  refine l_iload C 1 rfl dL_law_719 rfl ?_
  refine l_eqT (q := 726) C hk dL_law_721 (by decide) ?_
  refine l_iload C 1 rfl dL_law_726 rfl ?_
  refine l_ifne (qt := 743) C dL_law_728 (by decide) rfl (fun _ => ?_) (fun hz => ?_)
  · refine l_goto (q := 2062) C dL_law_743 (by decide) ?_
    exact l_sub [2, 3, 4, 5, 6] rfl (kend _ _ _ hR')
  · have h0 : res.1 = 0 := by
      rcases hres with h | h
      · exact h
      · rw [h] at hz; exact absurd hz (by decide)
    refine l_aload_n C 5 rfl dL_law_731 rfl ?_
    refine l_iconst C 0 (by decide) dL_law_732 rfl ?_
    refine l_laload C dL_law_733 rfl ?_
    refine l_iload C 0 rfl dL_law_734 rfl ?_
    refine l_i2l C dL_law_736 rfl ?_
    refine l_lcmp C dL_law_737 rfl ?_
    refine l_zeroT (q := 743) C (by rw [if_pos h0, ← hv h0]; exact lgc _) dL_law_738 (by decide) ?_
    refine l_goto (q := 2062) C dL_law_743 (by decide) ?_
    exact l_sub [2, 3, 4, 5, 6] rfl (kend _ _ _ hR')
theorem ks_L_clauses : Cond.static yL_clauses ∈ BG ∧ Cond.initialized (yL_clauses).cls ∈ BG ∧ Cond.codeWith yL_clauses cL_clauses 5 (some .int) [(0, 10, 13, 18)] ∈ BG := ⟨tw5_68, tw1_0, BG_t5 69 (by decide +kernel) (by decide +kernel)⟩
def Sm_clauses (F : Nat) (Rl : St → St → Prop) : Prop := ∀ (σ τ : St) (a0 a1 : Int32), Rl σ τ → ∃ (res : Nat × Int32 × St) (r : Int32) (τ' : St), fX10_clauses F σ a0 a1 = some res ∧ (res.1 = 0 ∨ res.1 = 1) ∧ fX11_clauses F τ a0 a1 = some (r, τ') ∧ τ' 0 4 = (if res.1 = 0 then (0 : Int32) else 1) ∧ (res.1 = 0 → res.2.1 = r) ∧ Rl res.2.2 τ'
set_option maxRecDepth 20000 in
theorem lc_clauses {X : XT} {Z : ZT} {b L : Nat} {xv : Nat → Int32} (C : CL X Z b L xv) (hst : X.2.1.stackTraces = false) {F : Nat} {Rl : St → St → Prop} (S : Sm_clauses F Rl) {j : Nat} {i4 : Int32} (hi : i4 = nI (6 * j)) (hj : 6 * j + 6 ≤ L) (hL : L ≤ 3072) {σ τ : St} {f : Nat → Int64} (hR : Rl σ τ) (kend : ∀ (σ' τ' : St) (f' : Nat → Int64), Rl σ' τ' → WL X Z (131 + 6 * (j + 1)) (18958 + 36 * (j + 1)) 2062 σ' τ' f' (lvL Z b i4) []) : WL X Z (131 + 6 * j) (18958 + 36 * j) 746 σ τ f (lvL Z b i4) [] := by
  obtain ⟨res, r, τ', hx1, hres, hm1, hk, hv, hR'⟩ := S σ τ (xv (6 * j + 1)) (xv (6 * j + 2)) hR
  refine l_aload_n C 1 rfl dL_law_746 rfl ?_
  refine l_aload_n C 0 rfl dL_law_747 rfl ?_
  refine l_iload C 4 rfl dL_law_748 rfl ?_
  refine l_iconst C 1 (by decide) dL_law_750 rfl ?_
  refine l_iadd C dL_law_751 rfl ?_
  refine l_sld C (6 * j + 1) (by rw [hi]; exact l_ix 1 (by decide)) ⟨by omega, by omega⟩ dL_law_752 rfl ?_
  refine l_aload_n C 0 rfl dL_law_753 rfl ?_
  refine l_iload C 4 rfl dL_law_754 rfl ?_
  refine l_iconst C 2 (by decide) dL_law_756 rfl ?_
  refine l_iadd C dL_law_757 rfl ?_
  refine l_sld C (6 * j + 2) (by rw [hi]; exact l_ix 2 (by decide)) ⟨by omega, by omega⟩ dL_law_758 rfl ?_
  refine l_aload_n C 3 rfl dL_law_759 rfl ?_
  refine l_callW C (n := 4) (As := [.ref (zc Z 0), .int (xv (6 * j + 1)), .int (xv (6 * j + 2)), .ref (zo Z)]) (st := []) (c2 := 131 + 6 * (j + 1)) (s2 := 18958 + 36 * (j + 1)) (mw_L_clauses Z.1 Z.2.1 (zL Z) Z.2.2.2.2.1 (zo Z) C.2.1.2.1.1 hst C.2.1.2.2.2.1.2.1 hx1 hres) tw5_67 ks_L_clauses (by decide +kernel) ⟨by decide, by decide⟩ ⟨by omega, by omega⟩ ⟨by omega, by omega⟩ rfl rfl (Nat.le_of_ble_eq_true rfl) dL_law_760 rfl ?_
  refine l_istore C [(5, .int (if res.1 = 0 then (0 : Int32) else 1)), (0, .ref b), (1, .ref (zc Z 0)), (2, .ref (zm Z 0)), (3, .ref (zo Z)), (4, .int i4)] (by decide) rfl dL_law_763 rfl ?_
  refine l_aload_n C 3 rfl dL_law_765 rfl ?_
  refine l_aload_n C 1 rfl dL_law_766 rfl ?_
  refine l_iload C 5 rfl dL_law_767 rfl ?_
  refine l_iconst C 1 (by decide) dL_law_769 rfl ?_
  refine l_iadd C dL_law_770 rfl ?_
  refine l_sld C (6 * j + 1) (by rw [hi]; exact l_ix 1 (by decide)) ⟨by omega, by omega⟩ dL_law_771 rfl ?_
  refine l_aload_n C 1 rfl dL_law_772 rfl ?_
  refine l_iload C 5 rfl dL_law_773 rfl ?_
  refine l_iconst C 2 (by decide) dL_law_775 rfl ?_
  refine l_iadd C dL_law_776 rfl ?_
  refine l_sld C (6 * j + 2) (by rw [hi]; exact l_ix 2 (by decide)) ⟨by omega, by omega⟩ dL_law_777 rfl ?_
  refine l_callMi C (n := 2) (As := [.int (xv (6 * j + 1)), .int (xv (6 * j + 2))]) (st := []) (cfX11_clauses Z.1 Z.2.1 Z.2.2.1 Z.2.2.2.2.2.1 C.2.1.2.1.2 hm1) tw8_133 cy_X11_clauses (by decide +kernel) ⟨by decide, by decide⟩ ⟨by omega, by omega⟩ rfl rfl (Nat.le_of_ble_eq_true rfl) dL_law_778 rfl ?_
  refine l_istore C [(6, .int r), (5, .int (if res.1 = 0 then (0 : Int32) else 1)), (0, .ref b), (1, .ref (zc Z 0)), (2, .ref (zm Z 0)), (3, .ref (zo Z)), (4, .int i4)] (by decide) rfl dL_law_781 rfl ?_
  refine l_aload_n C 4 rfl dL_law_783 rfl ?_
  refine l_callMi C (n := 0) (As := []) (st := []) (cfX11_thrown (F := 0) Z.1 Z.2.1 Z.2.2.1 Z.2.2.2.2.2.1 C.2.1.2.1.2 (r := τ' 0 4) rfl) tw7_105 cy_X11_thrown (by decide +kernel) ⟨by decide, by decide⟩ ⟨by omega, by omega⟩ rfl rfl (Nat.le_of_ble_eq_true rfl) dL_law_784 rfl ?_
  refine l_iload C 1 rfl dL_law_787 rfl ?_
  refine l_eqT (q := 794) C hk dL_law_789 (by decide) ?_
  refine l_iload C 1 rfl dL_law_794 rfl ?_
  refine l_ifne (qt := 811) C dL_law_796 (by decide) rfl (fun _ => ?_) (fun hz => ?_)
  · refine l_goto (q := 2062) C dL_law_811 (by decide) ?_
    exact l_sub [2, 3, 4, 5, 6] rfl (kend _ _ _ hR')
  · have h0 : res.1 = 0 := by
      rcases hres with h | h
      · exact h
      · rw [h] at hz; exact absurd hz (by decide)
    refine l_aload_n C 5 rfl dL_law_799 rfl ?_
    refine l_iconst C 0 (by decide) dL_law_800 rfl ?_
    refine l_laload C dL_law_801 rfl ?_
    refine l_iload C 0 rfl dL_law_802 rfl ?_
    refine l_i2l C dL_law_804 rfl ?_
    refine l_lcmp C dL_law_805 rfl ?_
    refine l_zeroT (q := 811) C (by rw [if_pos h0, ← hv h0]; exact lgc _) dL_law_806 (by decide) ?_
    refine l_goto (q := 2062) C dL_law_811 (by decide) ?_
    exact l_sub [2, 3, 4, 5, 6] rfl (kend _ _ _ hR')
theorem ks_L_done : Cond.static yL_done ∈ BG ∧ Cond.initialized (yL_done).cls ∈ BG ∧ Cond.codeWith yL_done cL_done 6 (some .int) [(0, 12, 15, 18)] ∈ BG := ⟨tw5_83, tw1_0, BG_t5 84 (by decide +kernel) (by decide +kernel)⟩
def Sm_done (F : Nat) (Rl : St → St → Prop) : Prop := ∀ (σ τ : St) (a0 a1 a2 : Int32), Rl σ τ → ∃ (res : Nat × Int32 × St) (r : Int32) (τ' : St), fX10_done F σ a0 a1 a2 = some res ∧ (res.1 = 0 ∨ res.1 = 1) ∧ fX11_done F τ a0 a1 a2 = some (r, τ') ∧ τ' 0 4 = (if res.1 = 0 then (0 : Int32) else 1) ∧ (res.1 = 0 → res.2.1 = r) ∧ Rl res.2.2 τ'
set_option maxRecDepth 20000 in
theorem lc_done {X : XT} {Z : ZT} {b L : Nat} {xv : Nat → Int32} (C : CL X Z b L xv) (hst : X.2.1.stackTraces = false) {F : Nat} {Rl : St → St → Prop} (S : Sm_done F Rl) {j : Nat} {i4 : Int32} (hi : i4 = nI (6 * j)) (hj : 6 * j + 6 ≤ L) (hL : L ≤ 3072) {σ τ : St} {f : Nat → Int64} (hR : Rl σ τ) (kend : ∀ (σ' τ' : St) (f' : Nat → Int64), Rl σ' τ' → WL X Z (131 + 6 * (j + 1)) (18958 + 36 * (j + 1)) 2062 σ' τ' f' (lvL Z b i4) []) : WL X Z (131 + 6 * j) (18958 + 36 * j) 814 σ τ f (lvL Z b i4) [] := by
  obtain ⟨res, r, τ', hx1, hres, hm1, hk, hv, hR'⟩ := S σ τ (xv (6 * j + 1)) (xv (6 * j + 2)) (xv (6 * j + 3)) hR
  refine l_aload_n C 1 rfl dL_law_814 rfl ?_
  refine l_aload_n C 0 rfl dL_law_815 rfl ?_
  refine l_iload C 4 rfl dL_law_816 rfl ?_
  refine l_iconst C 1 (by decide) dL_law_818 rfl ?_
  refine l_iadd C dL_law_819 rfl ?_
  refine l_sld C (6 * j + 1) (by rw [hi]; exact l_ix 1 (by decide)) ⟨by omega, by omega⟩ dL_law_820 rfl ?_
  refine l_aload_n C 0 rfl dL_law_821 rfl ?_
  refine l_iload C 4 rfl dL_law_822 rfl ?_
  refine l_iconst C 2 (by decide) dL_law_824 rfl ?_
  refine l_iadd C dL_law_825 rfl ?_
  refine l_sld C (6 * j + 2) (by rw [hi]; exact l_ix 2 (by decide)) ⟨by omega, by omega⟩ dL_law_826 rfl ?_
  refine l_aload_n C 0 rfl dL_law_827 rfl ?_
  refine l_iload C 4 rfl dL_law_828 rfl ?_
  refine l_iconst C 3 (by decide) dL_law_830 rfl ?_
  refine l_iadd C dL_law_831 rfl ?_
  refine l_sld C (6 * j + 3) (by rw [hi]; exact l_ix 3 (by decide)) ⟨by omega, by omega⟩ dL_law_832 rfl ?_
  refine l_aload_n C 3 rfl dL_law_833 rfl ?_
  refine l_callW C (n := 5) (As := [.ref (zc Z 0), .int (xv (6 * j + 1)), .int (xv (6 * j + 2)), .int (xv (6 * j + 3)), .ref (zo Z)]) (st := []) (c2 := 131 + 6 * (j + 1)) (s2 := 18958 + 36 * (j + 1)) (mw_L_done Z.1 Z.2.1 (zL Z) Z.2.2.2.2.1 (zo Z) C.2.1.2.1.1 hst C.2.1.2.2.2.1.2.1 hx1 hres) tw5_82 ks_L_done (by decide +kernel) ⟨by decide, by decide⟩ ⟨by omega, by omega⟩ ⟨by omega, by omega⟩ rfl rfl (Nat.le_of_ble_eq_true rfl) dL_law_834 rfl ?_
  refine l_istore C [(5, .int (if res.1 = 0 then (0 : Int32) else 1)), (0, .ref b), (1, .ref (zc Z 0)), (2, .ref (zm Z 0)), (3, .ref (zo Z)), (4, .int i4)] (by decide) rfl dL_law_837 rfl ?_
  refine l_aload_n C 3 rfl dL_law_839 rfl ?_
  refine l_aload_n C 1 rfl dL_law_840 rfl ?_
  refine l_iload C 5 rfl dL_law_841 rfl ?_
  refine l_iconst C 1 (by decide) dL_law_843 rfl ?_
  refine l_iadd C dL_law_844 rfl ?_
  refine l_sld C (6 * j + 1) (by rw [hi]; exact l_ix 1 (by decide)) ⟨by omega, by omega⟩ dL_law_845 rfl ?_
  refine l_aload_n C 1 rfl dL_law_846 rfl ?_
  refine l_iload C 5 rfl dL_law_847 rfl ?_
  refine l_iconst C 2 (by decide) dL_law_849 rfl ?_
  refine l_iadd C dL_law_850 rfl ?_
  refine l_sld C (6 * j + 2) (by rw [hi]; exact l_ix 2 (by decide)) ⟨by omega, by omega⟩ dL_law_851 rfl ?_
  refine l_aload_n C 1 rfl dL_law_852 rfl ?_
  refine l_iload C 5 rfl dL_law_853 rfl ?_
  refine l_iconst C 3 (by decide) dL_law_855 rfl ?_
  refine l_iadd C dL_law_856 rfl ?_
  refine l_sld C (6 * j + 3) (by rw [hi]; exact l_ix 3 (by decide)) ⟨by omega, by omega⟩ dL_law_857 rfl ?_
  refine l_callMi C (n := 3) (As := [.int (xv (6 * j + 1)), .int (xv (6 * j + 2)), .int (xv (6 * j + 3))]) (st := []) (cfX11_done Z.1 Z.2.1 Z.2.2.1 Z.2.2.2.2.2.1 C.2.1.2.1.2 hm1) tw8_141 cy_X11_done (by decide +kernel) ⟨by decide, by decide⟩ ⟨by omega, by omega⟩ rfl rfl (Nat.le_of_ble_eq_true rfl) dL_law_858 rfl ?_
  refine l_istore C [(6, .int r), (5, .int (if res.1 = 0 then (0 : Int32) else 1)), (0, .ref b), (1, .ref (zc Z 0)), (2, .ref (zm Z 0)), (3, .ref (zo Z)), (4, .int i4)] (by decide) rfl dL_law_861 rfl ?_
  refine l_aload_n C 4 rfl dL_law_863 rfl ?_
  refine l_callMi C (n := 0) (As := []) (st := []) (cfX11_thrown (F := 0) Z.1 Z.2.1 Z.2.2.1 Z.2.2.2.2.2.1 C.2.1.2.1.2 (r := τ' 0 4) rfl) tw7_105 cy_X11_thrown (by decide +kernel) ⟨by decide, by decide⟩ ⟨by omega, by omega⟩ rfl rfl (Nat.le_of_ble_eq_true rfl) dL_law_864 rfl ?_
  refine l_iload C 1 rfl dL_law_867 rfl ?_
  refine l_eqT (q := 874) C hk dL_law_869 (by decide) ?_
  refine l_iload C 1 rfl dL_law_874 rfl ?_
  refine l_ifne (qt := 891) C dL_law_876 (by decide) rfl (fun _ => ?_) (fun hz => ?_)
  · refine l_goto (q := 2062) C dL_law_891 (by decide) ?_
    exact l_sub [2, 3, 4, 5, 6] rfl (kend _ _ _ hR')
  · have h0 : res.1 = 0 := by
      rcases hres with h | h
      · exact h
      · rw [h] at hz; exact absurd hz (by decide)
    refine l_aload_n C 5 rfl dL_law_879 rfl ?_
    refine l_iconst C 0 (by decide) dL_law_880 rfl ?_
    refine l_laload C dL_law_881 rfl ?_
    refine l_iload C 0 rfl dL_law_882 rfl ?_
    refine l_i2l C dL_law_884 rfl ?_
    refine l_lcmp C dL_law_885 rfl ?_
    refine l_zeroT (q := 891) C (by rw [if_pos h0, ← hv h0]; exact lgc _) dL_law_886 (by decide) ?_
    refine l_goto (q := 2062) C dL_law_891 (by decide) ?_
    exact l_sub [2, 3, 4, 5, 6] rfl (kend _ _ _ hR')
def Sm_years (F : Nat) (Rl : St → St → Prop) : Prop := ∀ (σ τ : St) (a0 : Int32), Rl σ τ → ∃ (r : Int32) (σ' τ' : St), fX10_years F σ a0 = some (r, σ') ∧ fX11_years F τ a0 = some (r, τ') ∧ Rl σ' τ'
set_option maxRecDepth 20000 in
theorem lc_years {X : XT} {Z : ZT} {b L : Nat} {xv : Nat → Int32} (C : CL X Z b L xv) (hst : X.2.1.stackTraces = false) {F : Nat} {Rl : St → St → Prop} (S : Sm_years F Rl) {j : Nat} {i4 : Int32} (hi : i4 = nI (6 * j)) (hj : 6 * j + 6 ≤ L) (hL : L ≤ 3072) {σ τ : St} {f : Nat → Int64} (hR : Rl σ τ) (kend : ∀ (σ' τ' : St) (f' : Nat → Int64), Rl σ' τ' → WL X Z (131 + 6 * (j + 1)) (18958 + 36 * (j + 1)) 2062 σ' τ' f' (lvL Z b i4) []) : WL X Z (131 + 6 * j) (18958 + 36 * j) 894 σ τ f (lvL Z b i4) [] := by
  obtain ⟨r, σ', τ', hx1, hm1, hR'⟩ := S σ τ (xv (6 * j + 1)) hR
  refine l_aload_n C 1 rfl dL_law_894 rfl ?_
  refine l_aload_n C 0 rfl dL_law_895 rfl ?_
  refine l_iload C 4 rfl dL_law_896 rfl ?_
  refine l_iconst C 1 (by decide) dL_law_898 rfl ?_
  refine l_iadd C dL_law_899 rfl ?_
  refine l_sld C (6 * j + 1) (by rw [hi]; exact l_ix 1 (by decide)) ⟨by omega, by omega⟩ dL_law_900 rfl ?_
  refine l_callCi C (n := 1) (As := [.int (xv (6 * j + 1))]) (st := []) (cfX10_years Z.1 Z.2.1 Z.2.2.2.2.1 C.2.1.2.1.1 hx1) tw2_230 cy_X10_years (by decide +kernel) ⟨by decide, by decide⟩ ⟨by omega, by omega⟩ rfl rfl (Nat.le_of_ble_eq_true rfl) dL_law_901 rfl ?_
  refine l_aload_n C 2 rfl dL_law_904 rfl ?_
  refine l_aload_n C 0 rfl dL_law_905 rfl ?_
  refine l_iload C 4 rfl dL_law_906 rfl ?_
  refine l_iconst C 1 (by decide) dL_law_908 rfl ?_
  refine l_iadd C dL_law_909 rfl ?_
  refine l_sld C (6 * j + 1) (by rw [hi]; exact l_ix 1 (by decide)) ⟨by omega, by omega⟩ dL_law_910 rfl ?_
  refine l_callMi C (n := 1) (As := [.int (xv (6 * j + 1))]) (st := [.int r]) (cfX11_years Z.1 Z.2.1 Z.2.2.1 Z.2.2.2.2.2.1 C.2.1.2.1.2 hm1) tw8_145 cy_X11_years (by decide +kernel) ⟨by decide, by decide⟩ ⟨by omega, by omega⟩ rfl rfl (Nat.le_of_ble_eq_true rfl) dL_law_911 rfl ?_
  refine l_eqT (q := 2062) C rfl dL_law_914 (by decide) ?_
  exact l_wid (by omega) (by omega) (kend _ _ _ hR')
theorem ks_L_again : Cond.static yL_again ∈ BG ∧ Cond.initialized (yL_again).cls ∈ BG ∧ Cond.codeWith yL_again cL_again 4 (some .int) [(0, 9, 12, 18)] ∈ BG := ⟨tw5_91, tw1_0, BG_t5 92 (by decide +kernel) (by decide +kernel)⟩
def Sm_again (F : Nat) (Rl : St → St → Prop) : Prop := ∀ (σ τ : St) (a0 : Int32), Rl σ τ → ∃ (res : Nat × Int32 × St) (r : Int32) (τ' : St), fX10_again F σ a0 = some res ∧ (res.1 = 0 ∨ res.1 = 1) ∧ fX11_again F τ a0 = some (r, τ') ∧ τ' 0 4 = (if res.1 = 0 then (0 : Int32) else 1) ∧ (res.1 = 0 → res.2.1 = r) ∧ Rl res.2.2 τ'
set_option maxRecDepth 20000 in
theorem lc_again {X : XT} {Z : ZT} {b L : Nat} {xv : Nat → Int32} (C : CL X Z b L xv) (hst : X.2.1.stackTraces = false) {F : Nat} {Rl : St → St → Prop} (S : Sm_again F Rl) {j : Nat} {i4 : Int32} (hi : i4 = nI (6 * j)) (hj : 6 * j + 6 ≤ L) (hL : L ≤ 3072) {σ τ : St} {f : Nat → Int64} (hR : Rl σ τ) (kend : ∀ (σ' τ' : St) (f' : Nat → Int64), Rl σ' τ' → WL X Z (131 + 6 * (j + 1)) (18958 + 36 * (j + 1)) 2062 σ' τ' f' (lvL Z b i4) []) : WL X Z (131 + 6 * j) (18958 + 36 * j) 919 σ τ f (lvL Z b i4) [] := by
  obtain ⟨res, r, τ', hx1, hres, hm1, hk, hv, hR'⟩ := S σ τ (xv (6 * j + 1)) hR
  refine l_aload_n C 1 rfl dL_law_919 rfl ?_
  refine l_aload_n C 0 rfl dL_law_920 rfl ?_
  refine l_iload C 4 rfl dL_law_921 rfl ?_
  refine l_iconst C 1 (by decide) dL_law_923 rfl ?_
  refine l_iadd C dL_law_924 rfl ?_
  refine l_sld C (6 * j + 1) (by rw [hi]; exact l_ix 1 (by decide)) ⟨by omega, by omega⟩ dL_law_925 rfl ?_
  refine l_aload_n C 3 rfl dL_law_926 rfl ?_
  refine l_callW C (n := 3) (As := [.ref (zc Z 0), .int (xv (6 * j + 1)), .ref (zo Z)]) (st := []) (c2 := 131 + 6 * (j + 1)) (s2 := 18958 + 36 * (j + 1)) (mw_L_again Z.1 Z.2.1 (zL Z) Z.2.2.2.2.1 (zo Z) C.2.1.2.1.1 hst C.2.1.2.2.2.1.2.1 hx1 hres) tw5_90 ks_L_again (by decide +kernel) ⟨by decide, by decide⟩ ⟨by omega, by omega⟩ ⟨by omega, by omega⟩ rfl rfl (Nat.le_of_ble_eq_true rfl) dL_law_927 rfl ?_
  refine l_istore C [(5, .int (if res.1 = 0 then (0 : Int32) else 1)), (0, .ref b), (1, .ref (zc Z 0)), (2, .ref (zm Z 0)), (3, .ref (zo Z)), (4, .int i4)] (by decide) rfl dL_law_930 rfl ?_
  refine l_aload_n C 3 rfl dL_law_932 rfl ?_
  refine l_aload_n C 1 rfl dL_law_933 rfl ?_
  refine l_iload C 5 rfl dL_law_934 rfl ?_
  refine l_iconst C 1 (by decide) dL_law_936 rfl ?_
  refine l_iadd C dL_law_937 rfl ?_
  refine l_sld C (6 * j + 1) (by rw [hi]; exact l_ix 1 (by decide)) ⟨by omega, by omega⟩ dL_law_938 rfl ?_
  refine l_callMi C (n := 1) (As := [.int (xv (6 * j + 1))]) (st := []) (cfX11_again Z.1 Z.2.1 Z.2.2.1 Z.2.2.2.2.2.1 C.2.1.2.1.2 hm1) tw8_162 cy_X11_again (by decide +kernel) ⟨by decide, by decide⟩ ⟨by omega, by omega⟩ rfl rfl (Nat.le_of_ble_eq_true rfl) dL_law_939 rfl ?_
  refine l_istore C [(6, .int r), (5, .int (if res.1 = 0 then (0 : Int32) else 1)), (0, .ref b), (1, .ref (zc Z 0)), (2, .ref (zm Z 0)), (3, .ref (zo Z)), (4, .int i4)] (by decide) rfl dL_law_942 rfl ?_
  refine l_aload_n C 4 rfl dL_law_944 rfl ?_
  refine l_callMi C (n := 0) (As := []) (st := []) (cfX11_thrown (F := 0) Z.1 Z.2.1 Z.2.2.1 Z.2.2.2.2.2.1 C.2.1.2.1.2 (r := τ' 0 4) rfl) tw7_105 cy_X11_thrown (by decide +kernel) ⟨by decide, by decide⟩ ⟨by omega, by omega⟩ rfl rfl (Nat.le_of_ble_eq_true rfl) dL_law_945 rfl ?_
  refine l_iload C 1 rfl dL_law_948 rfl ?_
  refine l_eqT (q := 955) C hk dL_law_950 (by decide) ?_
  refine l_iload C 1 rfl dL_law_955 rfl ?_
  refine l_ifne (qt := 972) C dL_law_957 (by decide) rfl (fun _ => ?_) (fun hz => ?_)
  · refine l_goto (q := 2062) C dL_law_972 (by decide) ?_
    exact l_sub [2, 3, 4, 5, 6] rfl (kend _ _ _ hR')
  · have h0 : res.1 = 0 := by
      rcases hres with h | h
      · exact h
      · rw [h] at hz; exact absurd hz (by decide)
    refine l_aload_n C 5 rfl dL_law_960 rfl ?_
    refine l_iconst C 0 (by decide) dL_law_961 rfl ?_
    refine l_laload C dL_law_962 rfl ?_
    refine l_iload C 0 rfl dL_law_963 rfl ?_
    refine l_i2l C dL_law_965 rfl ?_
    refine l_lcmp C dL_law_966 rfl ?_
    refine l_zeroT (q := 972) C (by rw [if_pos h0, ← hv h0]; exact lgc _) dL_law_967 (by decide) ?_
    refine l_goto (q := 2062) C dL_law_972 (by decide) ?_
    exact l_sub [2, 3, 4, 5, 6] rfl (kend _ _ _ hR')
theorem ks_L_breaks : Cond.static yL_breaks ∈ BG ∧ Cond.initialized (yL_breaks).cls ∈ BG ∧ Cond.codeWith yL_breaks cL_breaks 4 (some .int) [(0, 16, 19, 18)] ∈ BG := ⟨tw5_102, tw1_0, BG_t5 103 (by decide +kernel) (by decide +kernel)⟩
def Sm_breaks (F : Nat) (Rl : St → St → Prop) : Prop := ∀ (σ τ : St) (a0 : Int32), Rl σ τ → ∃ (res : Nat × Int32 × St) (r : Int32) (τ' : St), fX10_breaks F σ a0 = some res ∧ (res.1 = 0 ∨ res.1 = 1) ∧ fX11_breaks F τ a0 = some (r, τ') ∧ τ' 0 4 = (if res.1 = 0 then (0 : Int32) else 1) ∧ (res.1 = 0 → (res.2.1 = 0 ↔ r = 0)) ∧ Rl res.2.2 τ'
set_option maxRecDepth 20000 in
theorem lc_breaks {X : XT} {Z : ZT} {b L : Nat} {xv : Nat → Int32} (C : CL X Z b L xv) (hst : X.2.1.stackTraces = false) {F : Nat} {Rl : St → St → Prop} (S : Sm_breaks F Rl) {j : Nat} {i4 : Int32} (hi : i4 = nI (6 * j)) (hj : 6 * j + 6 ≤ L) (hL : L ≤ 3072) {σ τ : St} {f : Nat → Int64} (hR : Rl σ τ) (kend : ∀ (σ' τ' : St) (f' : Nat → Int64), Rl σ' τ' → WL X Z (131 + 6 * (j + 1)) (18958 + 36 * (j + 1)) 2062 σ' τ' f' (lvL Z b i4) []) : WL X Z (131 + 6 * j) (18958 + 36 * j) 975 σ τ f (lvL Z b i4) [] := by
  obtain ⟨res, r, τ', hx1, hres, hm1, hk, hv, hR'⟩ := S σ τ (xv (6 * j + 1)) hR
  refine l_aload_n C 1 rfl dL_law_975 rfl ?_
  refine l_aload_n C 0 rfl dL_law_976 rfl ?_
  refine l_iload C 4 rfl dL_law_977 rfl ?_
  refine l_iconst C 1 (by decide) dL_law_979 rfl ?_
  refine l_iadd C dL_law_980 rfl ?_
  refine l_sld C (6 * j + 1) (by rw [hi]; exact l_ix 1 (by decide)) ⟨by omega, by omega⟩ dL_law_981 rfl ?_
  refine l_aload_n C 3 rfl dL_law_982 rfl ?_
  refine l_callW C (n := 3) (As := [.ref (zc Z 0), .int (xv (6 * j + 1)), .ref (zo Z)]) (st := []) (c2 := 131 + 6 * (j + 1)) (s2 := 18958 + 36 * (j + 1)) (mw_L_breaks Z.1 Z.2.1 (zL Z) Z.2.2.2.2.1 (zo Z) C.2.1.2.1.1 hst C.2.1.2.2.2.1.2.1 hx1 hres) tw5_101 ks_L_breaks (by decide +kernel) ⟨by decide, by decide⟩ ⟨by omega, by omega⟩ ⟨by omega, by omega⟩ rfl rfl (Nat.le_of_ble_eq_true rfl) dL_law_983 rfl ?_
  refine l_istore C [(5, .int (if res.1 = 0 then (0 : Int32) else 1)), (0, .ref b), (1, .ref (zc Z 0)), (2, .ref (zm Z 0)), (3, .ref (zo Z)), (4, .int i4)] (by decide) rfl dL_law_986 rfl ?_
  refine l_aload_n C 3 rfl dL_law_988 rfl ?_
  refine l_aload_n C 1 rfl dL_law_989 rfl ?_
  refine l_iload C 5 rfl dL_law_990 rfl ?_
  refine l_iconst C 1 (by decide) dL_law_992 rfl ?_
  refine l_iadd C dL_law_993 rfl ?_
  refine l_sld C (6 * j + 1) (by rw [hi]; exact l_ix 1 (by decide)) ⟨by omega, by omega⟩ dL_law_994 rfl ?_
  refine l_callMi C (n := 1) (As := [.int (xv (6 * j + 1))]) (st := []) (cfX11_breaks Z.1 Z.2.1 Z.2.2.1 Z.2.2.2.2.2.1 C.2.1.2.1.2 hm1) tw8_170 cy_X11_breaks (by decide +kernel) ⟨by decide, by decide⟩ ⟨by omega, by omega⟩ rfl rfl (Nat.le_of_ble_eq_true rfl) dL_law_995 rfl ?_
  refine l_istore C [(6, .int r), (5, .int (if res.1 = 0 then (0 : Int32) else 1)), (0, .ref b), (1, .ref (zc Z 0)), (2, .ref (zm Z 0)), (3, .ref (zo Z)), (4, .int i4)] (by decide) rfl dL_law_998 rfl ?_
  refine l_aload_n C 4 rfl dL_law_1000 rfl ?_
  refine l_callMi C (n := 0) (As := []) (st := []) (cfX11_thrown (F := 0) Z.1 Z.2.1 Z.2.2.1 Z.2.2.2.2.2.1 C.2.1.2.1.2 (r := τ' 0 4) rfl) tw7_105 cy_X11_thrown (by decide +kernel) ⟨by decide, by decide⟩ ⟨by omega, by omega⟩ rfl rfl (Nat.le_of_ble_eq_true rfl) dL_law_1001 rfl ?_
  refine l_iload C 1 rfl dL_law_1004 rfl ?_
  refine l_eqT (q := 1011) C hk dL_law_1006 (by decide) ?_
  refine l_iload C 1 rfl dL_law_1011 rfl ?_
  refine l_ifne (qt := 1035) C dL_law_1013 (by decide) rfl (fun _ => ?_) (fun hz => ?_)
  · refine l_goto (q := 2062) C dL_law_1035 (by decide) ?_
    exact l_sub [2, 3, 4, 5, 6] rfl (kend _ _ _ hR')
  · have h0 : res.1 = 0 := by
      rcases hres with h | h
      · exact h
      · rw [h] at hz; exact absurd hz (by decide)
    refine l_aload_n C 5 rfl dL_law_1016 rfl ?_
    refine l_iconst C 0 (by decide) dL_law_1017 rfl ?_
    refine l_laload C dL_law_1018 rfl ?_
    refine l_iload C 0 rfl dL_law_1019 rfl ?_
    refine l_ifeq (qt := 1028) C dL_law_1021 (by decide) rfl (fun hb => ?_) (fun hb => ?_)
    · refine l_lconst C 0 (by decide) dL_law_1028 rfl ?_
      refine l_lcmp C dL_law_1029 rfl ?_
      refine l_zeroT (q := 1035) C (by rw [if_pos h0]; show lg_cmp (if res.2.1 = 0 then (0 : Int64) else 1) 0 = 0; rw [if_pos ((hv h0).mpr hb)]; exact lgc _) dL_law_1030 (by decide) ?_
      refine l_goto (q := 2062) C dL_law_1035 (by decide) ?_
      exact l_sub [2, 3, 4, 5, 6] rfl (kend _ _ _ hR')
    · refine l_lconst C 1 (by decide) dL_law_1024 rfl ?_
      refine l_goto (q := 1029) C dL_law_1025 (by decide) ?_
      refine l_lcmp C dL_law_1029 rfl ?_
      refine l_zeroT (q := 1035) C (by rw [if_pos h0]; show lg_cmp (if res.2.1 = 0 then (0 : Int64) else 1) 1 = 0; rw [if_neg (fun h9 => hb ((hv h0).mp h9))]; exact lgc _) dL_law_1030 (by decide) ?_
      refine l_goto (q := 2062) C dL_law_1035 (by decide) ?_
      exact l_sub [2, 3, 4, 5, 6] rfl (kend _ _ _ hR')
theorem ks_L_stumble : Cond.static yL_stumble ∈ BG ∧ Cond.initialized (yL_stumble).cls ∈ BG ∧ Cond.codeWith yL_stumble cL_stumble 6 (some .int) [(0, 12, 15, 18)] ∈ BG := ⟨tw5_109, tw1_0, BG_t5 110 (by decide +kernel) (by decide +kernel)⟩
def Sm_stumble (F : Nat) (Rl : St → St → Prop) : Prop := ∀ (σ τ : St) (a0 a1 a2 : Int32), Rl σ τ → ∃ (res : Nat × Int32 × St) (r : Int32) (τ' : St), fX10_stumble F σ a0 a1 a2 = some res ∧ (res.1 = 0 ∨ res.1 = 1) ∧ fX11_stumble F τ a0 a1 a2 = some (r, τ') ∧ τ' 0 4 = (if res.1 = 0 then (0 : Int32) else 1) ∧ (res.1 = 0 → res.2.1 = r) ∧ Rl res.2.2 τ'
set_option maxRecDepth 20000 in
theorem lc_stumble {X : XT} {Z : ZT} {b L : Nat} {xv : Nat → Int32} (C : CL X Z b L xv) (hst : X.2.1.stackTraces = false) {F : Nat} {Rl : St → St → Prop} (S : Sm_stumble F Rl) {j : Nat} {i4 : Int32} (hi : i4 = nI (6 * j)) (hj : 6 * j + 6 ≤ L) (hL : L ≤ 3072) {σ τ : St} {f : Nat → Int64} (hR : Rl σ τ) (kend : ∀ (σ' τ' : St) (f' : Nat → Int64), Rl σ' τ' → WL X Z (131 + 6 * (j + 1)) (18958 + 36 * (j + 1)) 2062 σ' τ' f' (lvL Z b i4) []) : WL X Z (131 + 6 * j) (18958 + 36 * j) 1038 σ τ f (lvL Z b i4) [] := by
  obtain ⟨res, r, τ', hx1, hres, hm1, hk, hv, hR'⟩ := S σ τ (xv (6 * j + 1)) (xv (6 * j + 2)) (xv (6 * j + 3)) hR
  refine l_aload_n C 1 rfl dL_law_1038 rfl ?_
  refine l_aload_n C 0 rfl dL_law_1039 rfl ?_
  refine l_iload C 4 rfl dL_law_1040 rfl ?_
  refine l_iconst C 1 (by decide) dL_law_1042 rfl ?_
  refine l_iadd C dL_law_1043 rfl ?_
  refine l_sld C (6 * j + 1) (by rw [hi]; exact l_ix 1 (by decide)) ⟨by omega, by omega⟩ dL_law_1044 rfl ?_
  refine l_aload_n C 0 rfl dL_law_1045 rfl ?_
  refine l_iload C 4 rfl dL_law_1046 rfl ?_
  refine l_iconst C 2 (by decide) dL_law_1048 rfl ?_
  refine l_iadd C dL_law_1049 rfl ?_
  refine l_sld C (6 * j + 2) (by rw [hi]; exact l_ix 2 (by decide)) ⟨by omega, by omega⟩ dL_law_1050 rfl ?_
  refine l_aload_n C 0 rfl dL_law_1051 rfl ?_
  refine l_iload C 4 rfl dL_law_1052 rfl ?_
  refine l_iconst C 3 (by decide) dL_law_1054 rfl ?_
  refine l_iadd C dL_law_1055 rfl ?_
  refine l_sld C (6 * j + 3) (by rw [hi]; exact l_ix 3 (by decide)) ⟨by omega, by omega⟩ dL_law_1056 rfl ?_
  refine l_aload_n C 3 rfl dL_law_1057 rfl ?_
  refine l_callW C (n := 5) (As := [.ref (zc Z 0), .int (xv (6 * j + 1)), .int (xv (6 * j + 2)), .int (xv (6 * j + 3)), .ref (zo Z)]) (st := []) (c2 := 131 + 6 * (j + 1)) (s2 := 18958 + 36 * (j + 1)) (mw_L_stumble Z.1 Z.2.1 (zL Z) Z.2.2.2.2.1 (zo Z) C.2.1.2.1.1 hst C.2.1.2.2.2.1.2.1 hx1 hres) tw5_108 ks_L_stumble (by decide +kernel) ⟨by decide, by decide⟩ ⟨by omega, by omega⟩ ⟨by omega, by omega⟩ rfl rfl (Nat.le_of_ble_eq_true rfl) dL_law_1058 rfl ?_
  refine l_istore C [(5, .int (if res.1 = 0 then (0 : Int32) else 1)), (0, .ref b), (1, .ref (zc Z 0)), (2, .ref (zm Z 0)), (3, .ref (zo Z)), (4, .int i4)] (by decide) rfl dL_law_1061 rfl ?_
  refine l_aload_n C 3 rfl dL_law_1063 rfl ?_
  refine l_aload_n C 1 rfl dL_law_1064 rfl ?_
  refine l_iload C 5 rfl dL_law_1065 rfl ?_
  refine l_iconst C 1 (by decide) dL_law_1067 rfl ?_
  refine l_iadd C dL_law_1068 rfl ?_
  refine l_sld C (6 * j + 1) (by rw [hi]; exact l_ix 1 (by decide)) ⟨by omega, by omega⟩ dL_law_1069 rfl ?_
  refine l_aload_n C 1 rfl dL_law_1070 rfl ?_
  refine l_iload C 5 rfl dL_law_1071 rfl ?_
  refine l_iconst C 2 (by decide) dL_law_1073 rfl ?_
  refine l_iadd C dL_law_1074 rfl ?_
  refine l_sld C (6 * j + 2) (by rw [hi]; exact l_ix 2 (by decide)) ⟨by omega, by omega⟩ dL_law_1075 rfl ?_
  refine l_aload_n C 1 rfl dL_law_1076 rfl ?_
  refine l_iload C 5 rfl dL_law_1077 rfl ?_
  refine l_iconst C 3 (by decide) dL_law_1079 rfl ?_
  refine l_iadd C dL_law_1080 rfl ?_
  refine l_sld C (6 * j + 3) (by rw [hi]; exact l_ix 3 (by decide)) ⟨by omega, by omega⟩ dL_law_1081 rfl ?_
  refine l_callMi C (n := 3) (As := [.int (xv (6 * j + 1)), .int (xv (6 * j + 2)), .int (xv (6 * j + 3))]) (st := []) (cfX11_stumble Z.1 Z.2.1 Z.2.2.1 Z.2.2.2.2.2.1 C.2.1.2.1.2 hm1) tw8_174 cy_X11_stumble (by decide +kernel) ⟨by decide, by decide⟩ ⟨by omega, by omega⟩ rfl rfl (Nat.le_of_ble_eq_true rfl) dL_law_1082 rfl ?_
  refine l_istore C [(6, .int r), (5, .int (if res.1 = 0 then (0 : Int32) else 1)), (0, .ref b), (1, .ref (zc Z 0)), (2, .ref (zm Z 0)), (3, .ref (zo Z)), (4, .int i4)] (by decide) rfl dL_law_1085 rfl ?_
  refine l_aload_n C 4 rfl dL_law_1087 rfl ?_
  refine l_callMi C (n := 0) (As := []) (st := []) (cfX11_thrown (F := 0) Z.1 Z.2.1 Z.2.2.1 Z.2.2.2.2.2.1 C.2.1.2.1.2 (r := τ' 0 4) rfl) tw7_105 cy_X11_thrown (by decide +kernel) ⟨by decide, by decide⟩ ⟨by omega, by omega⟩ rfl rfl (Nat.le_of_ble_eq_true rfl) dL_law_1088 rfl ?_
  refine l_iload C 1 rfl dL_law_1091 rfl ?_
  refine l_eqT (q := 1098) C hk dL_law_1093 (by decide) ?_
  refine l_iload C 1 rfl dL_law_1098 rfl ?_
  refine l_ifne (qt := 1115) C dL_law_1100 (by decide) rfl (fun _ => ?_) (fun hz => ?_)
  · refine l_goto (q := 2062) C dL_law_1115 (by decide) ?_
    exact l_sub [2, 3, 4, 5, 6] rfl (kend _ _ _ hR')
  · have h0 : res.1 = 0 := by
      rcases hres with h | h
      · exact h
      · rw [h] at hz; exact absurd hz (by decide)
    refine l_aload_n C 5 rfl dL_law_1103 rfl ?_
    refine l_iconst C 0 (by decide) dL_law_1104 rfl ?_
    refine l_laload C dL_law_1105 rfl ?_
    refine l_iload C 0 rfl dL_law_1106 rfl ?_
    refine l_i2l C dL_law_1108 rfl ?_
    refine l_lcmp C dL_law_1109 rfl ?_
    refine l_zeroT (q := 1115) C (by rw [if_pos h0, ← hv h0]; exact lgc _) dL_law_1110 (by decide) ?_
    refine l_goto (q := 2062) C dL_law_1115 (by decide) ?_
    exact l_sub [2, 3, 4, 5, 6] rfl (kend _ _ _ hR')
theorem ks_L_act : Cond.static yL_act ∈ BG ∧ Cond.initialized (yL_act).cls ∈ BG ∧ Cond.codeWith yL_act cL_act 6 (some .int) [(0, 12, 15, 18)] ∈ BG := ⟨tw5_120, tw1_0, BG_t5 121 (by decide +kernel) (by decide +kernel)⟩
def Sm_act (F : Nat) (Rl : St → St → Prop) : Prop := ∀ (σ τ : St) (a0 a1 a2 : Int32), Rl σ τ → ∃ (res : Nat × Int32 × St) (r : Int32) (τ' : St), fX10_act F σ a0 a1 a2 = some res ∧ (res.1 = 0 ∨ res.1 = 1) ∧ fX11_act F τ a0 a1 a2 = some (r, τ') ∧ τ' 0 4 = (if res.1 = 0 then (0 : Int32) else 1) ∧ (res.1 = 0 → res.2.1 = r) ∧ Rl res.2.2 τ'
set_option maxRecDepth 20000 in
theorem lc_act {X : XT} {Z : ZT} {b L : Nat} {xv : Nat → Int32} (C : CL X Z b L xv) (hst : X.2.1.stackTraces = false) {F : Nat} {Rl : St → St → Prop} (S : Sm_act F Rl) {j : Nat} {i4 : Int32} (hi : i4 = nI (6 * j)) (hj : 6 * j + 6 ≤ L) (hL : L ≤ 3072) {σ τ : St} {f : Nat → Int64} (hR : Rl σ τ) (kend : ∀ (σ' τ' : St) (f' : Nat → Int64), Rl σ' τ' → WL X Z (131 + 6 * (j + 1)) (18958 + 36 * (j + 1)) 2062 σ' τ' f' (lvL Z b i4) []) : WL X Z (131 + 6 * j) (18958 + 36 * j) 1118 σ τ f (lvL Z b i4) [] := by
  obtain ⟨res, r, τ', hx1, hres, hm1, hk, hv, hR'⟩ := S σ τ (xv (6 * j + 1)) (xv (6 * j + 2)) (xv (6 * j + 3)) hR
  refine l_aload_n C 1 rfl dL_law_1118 rfl ?_
  refine l_aload_n C 0 rfl dL_law_1119 rfl ?_
  refine l_iload C 4 rfl dL_law_1120 rfl ?_
  refine l_iconst C 1 (by decide) dL_law_1122 rfl ?_
  refine l_iadd C dL_law_1123 rfl ?_
  refine l_sld C (6 * j + 1) (by rw [hi]; exact l_ix 1 (by decide)) ⟨by omega, by omega⟩ dL_law_1124 rfl ?_
  refine l_aload_n C 0 rfl dL_law_1125 rfl ?_
  refine l_iload C 4 rfl dL_law_1126 rfl ?_
  refine l_iconst C 2 (by decide) dL_law_1128 rfl ?_
  refine l_iadd C dL_law_1129 rfl ?_
  refine l_sld C (6 * j + 2) (by rw [hi]; exact l_ix 2 (by decide)) ⟨by omega, by omega⟩ dL_law_1130 rfl ?_
  refine l_aload_n C 0 rfl dL_law_1131 rfl ?_
  refine l_iload C 4 rfl dL_law_1132 rfl ?_
  refine l_iconst C 3 (by decide) dL_law_1134 rfl ?_
  refine l_iadd C dL_law_1135 rfl ?_
  refine l_sld C (6 * j + 3) (by rw [hi]; exact l_ix 3 (by decide)) ⟨by omega, by omega⟩ dL_law_1136 rfl ?_
  refine l_aload_n C 3 rfl dL_law_1137 rfl ?_
  refine l_callW C (n := 5) (As := [.ref (zc Z 0), .int (xv (6 * j + 1)), .int (xv (6 * j + 2)), .int (xv (6 * j + 3)), .ref (zo Z)]) (st := []) (c2 := 131 + 6 * (j + 1)) (s2 := 18958 + 36 * (j + 1)) (mw_L_act Z.1 Z.2.1 (zL Z) Z.2.2.2.2.1 (zo Z) C.2.1.2.1.1 hst C.2.1.2.2.2.1.2.1 hx1 hres) tw5_119 ks_L_act (by decide +kernel) ⟨by decide, by decide⟩ ⟨by omega, by omega⟩ ⟨by omega, by omega⟩ rfl rfl (Nat.le_of_ble_eq_true rfl) dL_law_1138 rfl ?_
  refine l_istore C [(5, .int (if res.1 = 0 then (0 : Int32) else 1)), (0, .ref b), (1, .ref (zc Z 0)), (2, .ref (zm Z 0)), (3, .ref (zo Z)), (4, .int i4)] (by decide) rfl dL_law_1141 rfl ?_
  refine l_aload_n C 3 rfl dL_law_1143 rfl ?_
  refine l_aload_n C 1 rfl dL_law_1144 rfl ?_
  refine l_iload C 5 rfl dL_law_1145 rfl ?_
  refine l_iconst C 1 (by decide) dL_law_1147 rfl ?_
  refine l_iadd C dL_law_1148 rfl ?_
  refine l_sld C (6 * j + 1) (by rw [hi]; exact l_ix 1 (by decide)) ⟨by omega, by omega⟩ dL_law_1149 rfl ?_
  refine l_aload_n C 1 rfl dL_law_1150 rfl ?_
  refine l_iload C 5 rfl dL_law_1151 rfl ?_
  refine l_iconst C 2 (by decide) dL_law_1153 rfl ?_
  refine l_iadd C dL_law_1154 rfl ?_
  refine l_sld C (6 * j + 2) (by rw [hi]; exact l_ix 2 (by decide)) ⟨by omega, by omega⟩ dL_law_1155 rfl ?_
  refine l_aload_n C 1 rfl dL_law_1156 rfl ?_
  refine l_iload C 5 rfl dL_law_1157 rfl ?_
  refine l_iconst C 3 (by decide) dL_law_1159 rfl ?_
  refine l_iadd C dL_law_1160 rfl ?_
  refine l_sld C (6 * j + 3) (by rw [hi]; exact l_ix 3 (by decide)) ⟨by omega, by omega⟩ dL_law_1161 rfl ?_
  refine l_callMi C (n := 3) (As := [.int (xv (6 * j + 1)), .int (xv (6 * j + 2)), .int (xv (6 * j + 3))]) (st := []) (cfX11_act Z.1 Z.2.1 Z.2.2.1 Z.2.2.2.2.2.1 C.2.1.2.1.2 hm1) tw8_183 cy_X11_act (by decide +kernel) ⟨by decide, by decide⟩ ⟨by omega, by omega⟩ rfl rfl (Nat.le_of_ble_eq_true rfl) dL_law_1162 rfl ?_
  refine l_istore C [(6, .int r), (5, .int (if res.1 = 0 then (0 : Int32) else 1)), (0, .ref b), (1, .ref (zc Z 0)), (2, .ref (zm Z 0)), (3, .ref (zo Z)), (4, .int i4)] (by decide) rfl dL_law_1165 rfl ?_
  refine l_aload_n C 4 rfl dL_law_1167 rfl ?_
  refine l_callMi C (n := 0) (As := []) (st := []) (cfX11_thrown (F := 0) Z.1 Z.2.1 Z.2.2.1 Z.2.2.2.2.2.1 C.2.1.2.1.2 (r := τ' 0 4) rfl) tw7_105 cy_X11_thrown (by decide +kernel) ⟨by decide, by decide⟩ ⟨by omega, by omega⟩ rfl rfl (Nat.le_of_ble_eq_true rfl) dL_law_1168 rfl ?_
  refine l_iload C 1 rfl dL_law_1171 rfl ?_
  refine l_eqT (q := 1178) C hk dL_law_1173 (by decide) ?_
  refine l_iload C 1 rfl dL_law_1178 rfl ?_
  refine l_ifne (qt := 1195) C dL_law_1180 (by decide) rfl (fun _ => ?_) (fun hz => ?_)
  · refine l_goto (q := 2062) C dL_law_1195 (by decide) ?_
    exact l_sub [2, 3, 4, 5, 6] rfl (kend _ _ _ hR')
  · have h0 : res.1 = 0 := by
      rcases hres with h | h
      · exact h
      · rw [h] at hz; exact absurd hz (by decide)
    refine l_aload_n C 5 rfl dL_law_1183 rfl ?_
    refine l_iconst C 0 (by decide) dL_law_1184 rfl ?_
    refine l_laload C dL_law_1185 rfl ?_
    refine l_iload C 0 rfl dL_law_1186 rfl ?_
    refine l_i2l C dL_law_1188 rfl ?_
    refine l_lcmp C dL_law_1189 rfl ?_
    refine l_zeroT (q := 1195) C (by rw [if_pos h0, ← hv h0]; exact lgc _) dL_law_1190 (by decide) ?_
    refine l_goto (q := 2062) C dL_law_1195 (by decide) ?_
    exact l_sub [2, 3, 4, 5, 6] rfl (kend _ _ _ hR')
def Sm_undo (F : Nat) (Rl : St → St → Prop) : Prop := ∀ (σ τ : St), Rl σ τ → ∃ (r : Int32) (σ' τ' : St), fX10_undo F σ = some (r, σ') ∧ fX11_undo F τ = some (r, τ') ∧ Rl σ' τ'
set_option maxRecDepth 20000 in
theorem lc_undo {X : XT} {Z : ZT} {b L : Nat} {xv : Nat → Int32} (C : CL X Z b L xv) (hst : X.2.1.stackTraces = false) {F : Nat} {Rl : St → St → Prop} (S : Sm_undo F Rl) {j : Nat} {i4 : Int32} (hi : i4 = nI (6 * j)) (hj : 6 * j + 6 ≤ L) (hL : L ≤ 3072) {σ τ : St} {f : Nat → Int64} (hR : Rl σ τ) (kend : ∀ (σ' τ' : St) (f' : Nat → Int64), Rl σ' τ' → WL X Z (131 + 6 * (j + 1)) (18958 + 36 * (j + 1)) 2062 σ' τ' f' (lvL Z b i4) []) : WL X Z (131 + 6 * j) (18958 + 36 * j) 1198 σ τ f (lvL Z b i4) [] := by
  obtain ⟨r, σ', τ', hx1, hm1, hR'⟩ := S σ τ hR
  refine l_aload_n C 1 rfl dL_law_1198 rfl ?_
  refine l_callCi C (n := 0) (As := []) (st := []) (cfX10_undo Z.1 Z.2.1 Z.2.2.2.2.1 C.2.1.2.1.1 hx1) tw3_5 cy_X10_undo (by decide +kernel) ⟨by decide, by decide⟩ ⟨by omega, by omega⟩ rfl rfl (Nat.le_of_ble_eq_true rfl) dL_law_1199 rfl ?_
  refine l_aload_n C 2 rfl dL_law_1202 rfl ?_
  refine l_callMi C (n := 0) (As := []) (st := [.int r]) (cfX11_undo Z.1 Z.2.1 Z.2.2.1 Z.2.2.2.2.2.1 C.2.1.2.1.2 hm1) tw8_188 cy_X11_undo (by decide +kernel) ⟨by decide, by decide⟩ ⟨by omega, by omega⟩ rfl rfl (Nat.le_of_ble_eq_true rfl) dL_law_1203 rfl ?_
  refine l_eqT (q := 2062) C rfl dL_law_1206 (by decide) ?_
  exact l_wid (by omega) (by omega) (kend _ _ _ hR')
theorem ks_L_mend : Cond.static yL_mend ∈ BG ∧ Cond.initialized (yL_mend).cls ∈ BG ∧ Cond.codeWith yL_mend cL_mend 5 (some .int) [(0, 10, 13, 18)] ∈ BG := ⟨tw5_127, tw1_0, BG_t5 128 (by decide +kernel) (by decide +kernel)⟩
def Sm_mend (F : Nat) (Rl : St → St → Prop) : Prop := ∀ (σ τ : St) (a0 a1 : Int32), Rl σ τ → ∃ (res : Nat × Int32 × St) (r : Int32) (τ' : St), fX10_mend F σ a0 a1 = some res ∧ (res.1 = 0 ∨ res.1 = 1) ∧ fX11_mend F τ a0 a1 = some (r, τ') ∧ τ' 0 4 = (if res.1 = 0 then (0 : Int32) else 1) ∧ (res.1 = 0 → res.2.1 = r) ∧ Rl res.2.2 τ'
set_option maxRecDepth 20000 in
theorem lc_mend {X : XT} {Z : ZT} {b L : Nat} {xv : Nat → Int32} (C : CL X Z b L xv) (hst : X.2.1.stackTraces = false) {F : Nat} {Rl : St → St → Prop} (S : Sm_mend F Rl) {j : Nat} {i4 : Int32} (hi : i4 = nI (6 * j)) (hj : 6 * j + 6 ≤ L) (hL : L ≤ 3072) {σ τ : St} {f : Nat → Int64} (hR : Rl σ τ) (kend : ∀ (σ' τ' : St) (f' : Nat → Int64), Rl σ' τ' → WL X Z (131 + 6 * (j + 1)) (18958 + 36 * (j + 1)) 2062 σ' τ' f' (lvL Z b i4) []) : WL X Z (131 + 6 * j) (18958 + 36 * j) 1211 σ τ f (lvL Z b i4) [] := by
  obtain ⟨res, r, τ', hx1, hres, hm1, hk, hv, hR'⟩ := S σ τ (xv (6 * j + 1)) (xv (6 * j + 2)) hR
  refine l_aload_n C 1 rfl dL_law_1211 rfl ?_
  refine l_aload_n C 0 rfl dL_law_1212 rfl ?_
  refine l_iload C 4 rfl dL_law_1213 rfl ?_
  refine l_iconst C 1 (by decide) dL_law_1215 rfl ?_
  refine l_iadd C dL_law_1216 rfl ?_
  refine l_sld C (6 * j + 1) (by rw [hi]; exact l_ix 1 (by decide)) ⟨by omega, by omega⟩ dL_law_1217 rfl ?_
  refine l_aload_n C 0 rfl dL_law_1218 rfl ?_
  refine l_iload C 4 rfl dL_law_1219 rfl ?_
  refine l_iconst C 2 (by decide) dL_law_1221 rfl ?_
  refine l_iadd C dL_law_1222 rfl ?_
  refine l_sld C (6 * j + 2) (by rw [hi]; exact l_ix 2 (by decide)) ⟨by omega, by omega⟩ dL_law_1223 rfl ?_
  refine l_aload_n C 3 rfl dL_law_1224 rfl ?_
  refine l_callW C (n := 4) (As := [.ref (zc Z 0), .int (xv (6 * j + 1)), .int (xv (6 * j + 2)), .ref (zo Z)]) (st := []) (c2 := 131 + 6 * (j + 1)) (s2 := 18958 + 36 * (j + 1)) (mw_L_mend Z.1 Z.2.1 (zL Z) Z.2.2.2.2.1 (zo Z) C.2.1.2.1.1 hst C.2.1.2.2.2.1.2.1 hx1 hres) tw5_126 ks_L_mend (by decide +kernel) ⟨by decide, by decide⟩ ⟨by omega, by omega⟩ ⟨by omega, by omega⟩ rfl rfl (Nat.le_of_ble_eq_true rfl) dL_law_1225 rfl ?_
  refine l_istore C [(5, .int (if res.1 = 0 then (0 : Int32) else 1)), (0, .ref b), (1, .ref (zc Z 0)), (2, .ref (zm Z 0)), (3, .ref (zo Z)), (4, .int i4)] (by decide) rfl dL_law_1228 rfl ?_
  refine l_aload_n C 3 rfl dL_law_1230 rfl ?_
  refine l_aload_n C 1 rfl dL_law_1231 rfl ?_
  refine l_iload C 5 rfl dL_law_1232 rfl ?_
  refine l_iconst C 1 (by decide) dL_law_1234 rfl ?_
  refine l_iadd C dL_law_1235 rfl ?_
  refine l_sld C (6 * j + 1) (by rw [hi]; exact l_ix 1 (by decide)) ⟨by omega, by omega⟩ dL_law_1236 rfl ?_
  refine l_aload_n C 1 rfl dL_law_1237 rfl ?_
  refine l_iload C 5 rfl dL_law_1238 rfl ?_
  refine l_iconst C 2 (by decide) dL_law_1240 rfl ?_
  refine l_iadd C dL_law_1241 rfl ?_
  refine l_sld C (6 * j + 2) (by rw [hi]; exact l_ix 2 (by decide)) ⟨by omega, by omega⟩ dL_law_1242 rfl ?_
  refine l_callMi C (n := 2) (As := [.int (xv (6 * j + 1)), .int (xv (6 * j + 2))]) (st := []) (cfX11_mend Z.1 Z.2.1 Z.2.2.1 Z.2.2.2.2.2.1 C.2.1.2.1.2 hm1) tw8_196 cy_X11_mend (by decide +kernel) ⟨by decide, by decide⟩ ⟨by omega, by omega⟩ rfl rfl (Nat.le_of_ble_eq_true rfl) dL_law_1243 rfl ?_
  refine l_istore C [(6, .int r), (5, .int (if res.1 = 0 then (0 : Int32) else 1)), (0, .ref b), (1, .ref (zc Z 0)), (2, .ref (zm Z 0)), (3, .ref (zo Z)), (4, .int i4)] (by decide) rfl dL_law_1246 rfl ?_
  refine l_aload_n C 4 rfl dL_law_1248 rfl ?_
  refine l_callMi C (n := 0) (As := []) (st := []) (cfX11_thrown (F := 0) Z.1 Z.2.1 Z.2.2.1 Z.2.2.2.2.2.1 C.2.1.2.1.2 (r := τ' 0 4) rfl) tw7_105 cy_X11_thrown (by decide +kernel) ⟨by decide, by decide⟩ ⟨by omega, by omega⟩ rfl rfl (Nat.le_of_ble_eq_true rfl) dL_law_1249 rfl ?_
  refine l_iload C 1 rfl dL_law_1252 rfl ?_
  refine l_eqT (q := 1259) C hk dL_law_1254 (by decide) ?_
  refine l_iload C 1 rfl dL_law_1259 rfl ?_
  refine l_ifne (qt := 1276) C dL_law_1261 (by decide) rfl (fun _ => ?_) (fun hz => ?_)
  · refine l_goto (q := 2062) C dL_law_1276 (by decide) ?_
    exact l_sub [2, 3, 4, 5, 6] rfl (kend _ _ _ hR')
  · have h0 : res.1 = 0 := by
      rcases hres with h | h
      · exact h
      · rw [h] at hz; exact absurd hz (by decide)
    refine l_aload_n C 5 rfl dL_law_1264 rfl ?_
    refine l_iconst C 0 (by decide) dL_law_1265 rfl ?_
    refine l_laload C dL_law_1266 rfl ?_
    refine l_iload C 0 rfl dL_law_1267 rfl ?_
    refine l_i2l C dL_law_1269 rfl ?_
    refine l_lcmp C dL_law_1270 rfl ?_
    refine l_zeroT (q := 1276) C (by rw [if_pos h0, ← hv h0]; exact lgc _) dL_law_1271 (by decide) ?_
    refine l_goto (q := 2062) C dL_law_1276 (by decide) ?_
    exact l_sub [2, 3, 4, 5, 6] rfl (kend _ _ _ hR')
theorem ks_L_costly : Cond.static yL_costly ∈ BG ∧ Cond.initialized (yL_costly).cls ∈ BG ∧ Cond.codeWith yL_costly cL_costly 4 (some .int) [(0, 9, 12, 18)] ∈ BG := ⟨tw5_167, tw1_0, BG_t5 168 (by decide +kernel) (by decide +kernel)⟩
def Sm_costly (F : Nat) (Rl : St → St → Prop) : Prop := ∀ (σ τ : St) (a0 : Int32), Rl σ τ → ∃ (res : Nat × Int32 × St) (r : Int32) (τ' : St), fX10_costly F σ a0 = some res ∧ (res.1 = 0 ∨ res.1 = 1) ∧ fX11_costly F τ a0 = some (r, τ') ∧ τ' 0 4 = (if res.1 = 0 then (0 : Int32) else 1) ∧ (res.1 = 0 → res.2.1 = r) ∧ Rl res.2.2 τ'
set_option maxRecDepth 20000 in
theorem lc_costly {X : XT} {Z : ZT} {b L : Nat} {xv : Nat → Int32} (C : CL X Z b L xv) (hst : X.2.1.stackTraces = false) {F : Nat} {Rl : St → St → Prop} (S : Sm_costly F Rl) {j : Nat} {i4 : Int32} (hi : i4 = nI (6 * j)) (hj : 6 * j + 6 ≤ L) (hL : L ≤ 3072) {σ τ : St} {f : Nat → Int64} (hR : Rl σ τ) (kend : ∀ (σ' τ' : St) (f' : Nat → Int64), Rl σ' τ' → WL X Z (131 + 6 * (j + 1)) (18958 + 36 * (j + 1)) 2062 σ' τ' f' (lvL Z b i4) []) : WL X Z (131 + 6 * j) (18958 + 36 * j) 1279 σ τ f (lvL Z b i4) [] := by
  obtain ⟨res, r, τ', hx1, hres, hm1, hk, hv, hR'⟩ := S σ τ (xv (6 * j + 1)) hR
  refine l_aload_n C 1 rfl dL_law_1279 rfl ?_
  refine l_aload_n C 0 rfl dL_law_1280 rfl ?_
  refine l_iload C 4 rfl dL_law_1281 rfl ?_
  refine l_iconst C 1 (by decide) dL_law_1283 rfl ?_
  refine l_iadd C dL_law_1284 rfl ?_
  refine l_sld C (6 * j + 1) (by rw [hi]; exact l_ix 1 (by decide)) ⟨by omega, by omega⟩ dL_law_1285 rfl ?_
  refine l_aload_n C 3 rfl dL_law_1286 rfl ?_
  refine l_callW C (n := 3) (As := [.ref (zc Z 0), .int (xv (6 * j + 1)), .ref (zo Z)]) (st := []) (c2 := 131 + 6 * (j + 1)) (s2 := 18958 + 36 * (j + 1)) (mw_L_costly Z.1 Z.2.1 (zL Z) Z.2.2.2.2.1 (zo Z) C.2.1.2.1.1 hst C.2.1.2.2.2.1.2.1 hx1 hres) tw5_166 ks_L_costly (by decide +kernel) ⟨by decide, by decide⟩ ⟨by omega, by omega⟩ ⟨by omega, by omega⟩ rfl rfl (Nat.le_of_ble_eq_true rfl) dL_law_1287 rfl ?_
  refine l_istore C [(5, .int (if res.1 = 0 then (0 : Int32) else 1)), (0, .ref b), (1, .ref (zc Z 0)), (2, .ref (zm Z 0)), (3, .ref (zo Z)), (4, .int i4)] (by decide) rfl dL_law_1290 rfl ?_
  refine l_aload_n C 3 rfl dL_law_1292 rfl ?_
  refine l_aload_n C 1 rfl dL_law_1293 rfl ?_
  refine l_iload C 5 rfl dL_law_1294 rfl ?_
  refine l_iconst C 1 (by decide) dL_law_1296 rfl ?_
  refine l_iadd C dL_law_1297 rfl ?_
  refine l_sld C (6 * j + 1) (by rw [hi]; exact l_ix 1 (by decide)) ⟨by omega, by omega⟩ dL_law_1298 rfl ?_
  refine l_callMi C (n := 1) (As := [.int (xv (6 * j + 1))]) (st := []) (cfX11_costly Z.1 Z.2.1 Z.2.2.1 Z.2.2.2.2.2.1 C.2.1.2.1.2 hm1) tw8_216 cy_X11_costly (by decide +kernel) ⟨by decide, by decide⟩ ⟨by omega, by omega⟩ rfl rfl (Nat.le_of_ble_eq_true rfl) dL_law_1299 rfl ?_
  refine l_istore C [(6, .int r), (5, .int (if res.1 = 0 then (0 : Int32) else 1)), (0, .ref b), (1, .ref (zc Z 0)), (2, .ref (zm Z 0)), (3, .ref (zo Z)), (4, .int i4)] (by decide) rfl dL_law_1302 rfl ?_
  refine l_aload_n C 4 rfl dL_law_1304 rfl ?_
  refine l_callMi C (n := 0) (As := []) (st := []) (cfX11_thrown (F := 0) Z.1 Z.2.1 Z.2.2.1 Z.2.2.2.2.2.1 C.2.1.2.1.2 (r := τ' 0 4) rfl) tw7_105 cy_X11_thrown (by decide +kernel) ⟨by decide, by decide⟩ ⟨by omega, by omega⟩ rfl rfl (Nat.le_of_ble_eq_true rfl) dL_law_1305 rfl ?_
  refine l_iload C 1 rfl dL_law_1308 rfl ?_
  refine l_eqT (q := 1315) C hk dL_law_1310 (by decide) ?_
  refine l_iload C 1 rfl dL_law_1315 rfl ?_
  refine l_ifne (qt := 1332) C dL_law_1317 (by decide) rfl (fun _ => ?_) (fun hz => ?_)
  · refine l_goto (q := 2062) C dL_law_1332 (by decide) ?_
    exact l_sub [2, 3, 4, 5, 6] rfl (kend _ _ _ hR')
  · have h0 : res.1 = 0 := by
      rcases hres with h | h
      · exact h
      · rw [h] at hz; exact absurd hz (by decide)
    refine l_aload_n C 5 rfl dL_law_1320 rfl ?_
    refine l_iconst C 0 (by decide) dL_law_1321 rfl ?_
    refine l_laload C dL_law_1322 rfl ?_
    refine l_iload C 0 rfl dL_law_1323 rfl ?_
    refine l_i2l C dL_law_1325 rfl ?_
    refine l_lcmp C dL_law_1326 rfl ?_
    refine l_zeroT (q := 1332) C (by rw [if_pos h0, ← hv h0]; exact lgc _) dL_law_1327 (by decide) ?_
    refine l_goto (q := 2062) C dL_law_1332 (by decide) ?_
    exact l_sub [2, 3, 4, 5, 6] rfl (kend _ _ _ hR')
theorem ks_L_later : Cond.static yL_later ∈ BG ∧ Cond.initialized (yL_later).cls ∈ BG ∧ Cond.codeWith yL_later cL_later 4 (some .int) [(0, 9, 12, 13)] ∈ BG := ⟨tw5_182, tw1_0, BG_t5 183 (by decide +kernel) (by decide +kernel)⟩
def Sm_later (F : Nat) (Rl : St → St → Prop) : Prop := ∀ (σ τ : St) (a0 : Int32), Rl σ τ → ∃ (res : Nat × Int32 × St) (r : Int32) (τ' : St), fX10_later F σ a0 = some res ∧ (res.1 = 0 ∨ res.1 = 2) ∧ fX11_later F τ a0 = some (r, τ') ∧ τ' 0 4 = (if res.1 = 0 then (0 : Int32) else 1) ∧ (res.1 = 0 → res.2.1 = r) ∧ Rl res.2.2 τ'
set_option maxRecDepth 20000 in
theorem lc_later {X : XT} {Z : ZT} {b L : Nat} {xv : Nat → Int32} (C : CL X Z b L xv) (hst : X.2.1.stackTraces = false) {F : Nat} {Rl : St → St → Prop} (S : Sm_later F Rl) {j : Nat} {i4 : Int32} (hi : i4 = nI (6 * j)) (hj : 6 * j + 6 ≤ L) (hL : L ≤ 3072) {σ τ : St} {f : Nat → Int64} (hR : Rl σ τ) (kend : ∀ (σ' τ' : St) (f' : Nat → Int64), Rl σ' τ' → WL X Z (131 + 6 * (j + 1)) (18958 + 36 * (j + 1)) 2062 σ' τ' f' (lvL Z b i4) []) : WL X Z (131 + 6 * j) (18958 + 36 * j) 1335 σ τ f (lvL Z b i4) [] := by
  obtain ⟨res, r, τ', hx1, hres, hm1, hk, hv, hR'⟩ := S σ τ (xv (6 * j + 1)) hR
  refine l_aload_n C 1 rfl dL_law_1335 rfl ?_
  refine l_aload_n C 0 rfl dL_law_1336 rfl ?_
  refine l_iload C 4 rfl dL_law_1337 rfl ?_
  refine l_iconst C 1 (by decide) dL_law_1339 rfl ?_
  refine l_iadd C dL_law_1340 rfl ?_
  refine l_sld C (6 * j + 1) (by rw [hi]; exact l_ix 1 (by decide)) ⟨by omega, by omega⟩ dL_law_1341 rfl ?_
  refine l_aload_n C 3 rfl dL_law_1342 rfl ?_
  refine l_callW C (n := 3) (As := [.ref (zc Z 0), .int (xv (6 * j + 1)), .ref (zo Z)]) (st := []) (c2 := 131 + 6 * (j + 1)) (s2 := 18958 + 36 * (j + 1)) (mw_L_later Z.1 Z.2.1 (zL Z) Z.2.2.2.2.1 (zo Z) C.2.1.2.1.1 hst C.2.1.2.2.2.1.2.1 hx1 hres) tw5_181 ks_L_later (by decide +kernel) ⟨by decide, by decide⟩ ⟨by omega, by omega⟩ ⟨by omega, by omega⟩ rfl rfl (Nat.le_of_ble_eq_true rfl) dL_law_1343 rfl ?_
  refine l_istore C [(5, .int (if res.1 = 0 then (0 : Int32) else 1)), (0, .ref b), (1, .ref (zc Z 0)), (2, .ref (zm Z 0)), (3, .ref (zo Z)), (4, .int i4)] (by decide) rfl dL_law_1346 rfl ?_
  refine l_aload_n C 3 rfl dL_law_1348 rfl ?_
  refine l_aload_n C 1 rfl dL_law_1349 rfl ?_
  refine l_iload C 5 rfl dL_law_1350 rfl ?_
  refine l_iconst C 1 (by decide) dL_law_1352 rfl ?_
  refine l_iadd C dL_law_1353 rfl ?_
  refine l_sld C (6 * j + 1) (by rw [hi]; exact l_ix 1 (by decide)) ⟨by omega, by omega⟩ dL_law_1354 rfl ?_
  refine l_callMi C (n := 1) (As := [.int (xv (6 * j + 1))]) (st := []) (cfX11_later Z.1 Z.2.1 Z.2.2.1 Z.2.2.2.2.2.1 C.2.1.2.1.2 hm1) tw8_220 cy_X11_later (by decide +kernel) ⟨by decide, by decide⟩ ⟨by omega, by omega⟩ rfl rfl (Nat.le_of_ble_eq_true rfl) dL_law_1355 rfl ?_
  refine l_istore C [(6, .int r), (5, .int (if res.1 = 0 then (0 : Int32) else 1)), (0, .ref b), (1, .ref (zc Z 0)), (2, .ref (zm Z 0)), (3, .ref (zo Z)), (4, .int i4)] (by decide) rfl dL_law_1358 rfl ?_
  refine l_aload_n C 4 rfl dL_law_1360 rfl ?_
  refine l_callMi C (n := 0) (As := []) (st := []) (cfX11_thrown (F := 0) Z.1 Z.2.1 Z.2.2.1 Z.2.2.2.2.2.1 C.2.1.2.1.2 (r := τ' 0 4) rfl) tw7_105 cy_X11_thrown (by decide +kernel) ⟨by decide, by decide⟩ ⟨by omega, by omega⟩ rfl rfl (Nat.le_of_ble_eq_true rfl) dL_law_1361 rfl ?_
  refine l_iload C 1 rfl dL_law_1364 rfl ?_
  refine l_eqT (q := 1371) C hk dL_law_1366 (by decide) ?_
  refine l_iload C 1 rfl dL_law_1371 rfl ?_
  refine l_ifne (qt := 1388) C dL_law_1373 (by decide) rfl (fun _ => ?_) (fun hz => ?_)
  · refine l_goto (q := 2062) C dL_law_1388 (by decide) ?_
    exact l_sub [2, 3, 4, 5, 6] rfl (kend _ _ _ hR')
  · have h0 : res.1 = 0 := by
      rcases hres with h | h
      · exact h
      · rw [h] at hz; exact absurd hz (by decide)
    refine l_aload_n C 5 rfl dL_law_1376 rfl ?_
    refine l_iconst C 0 (by decide) dL_law_1377 rfl ?_
    refine l_laload C dL_law_1378 rfl ?_
    refine l_iload C 0 rfl dL_law_1379 rfl ?_
    refine l_i2l C dL_law_1381 rfl ?_
    refine l_lcmp C dL_law_1382 rfl ?_
    refine l_zeroT (q := 1388) C (by rw [if_pos h0, ← hv h0]; exact lgc _) dL_law_1383 (by decide) ?_
    refine l_goto (q := 2062) C dL_law_1388 (by decide) ?_
    exact l_sub [2, 3, 4, 5, 6] rfl (kend _ _ _ hR')
theorem ks_L_inTime : Cond.static yL_inTime ∈ BG ∧ Cond.initialized (yL_inTime).cls ∈ BG ∧ Cond.codeWith yL_inTime cL_inTime 5 (some .int) [(0, 10, 13, 18), (0, 10, 17, 13)] ∈ BG := ⟨tw5_196, tw1_0, BG_t5 197 (by decide +kernel) (by decide +kernel)⟩
def Sm_inTime (F : Nat) (Rl : St → St → Prop) : Prop := ∀ (σ τ : St) (a0 a1 : Int32), Rl σ τ → ∃ (res : Nat × Int32 × St) (r : Int32) (τ' : St), fX10_inTime F σ a0 a1 = some res ∧ (res.1 = 0 ∨ res.1 = 1 ∨ res.1 = 2) ∧ fX11_inTime F τ a0 a1 = some (r, τ') ∧ τ' 0 4 = (if res.1 = 0 then (0 : Int32) else if res.1 = 1 then 1 else 2) ∧ (res.1 = 0 → res.2.1 = r) ∧ Rl res.2.2 τ'
set_option maxRecDepth 20000 in
theorem lc_inTime {X : XT} {Z : ZT} {b L : Nat} {xv : Nat → Int32} (C : CL X Z b L xv) (hst : X.2.1.stackTraces = false) {F : Nat} {Rl : St → St → Prop} (S : Sm_inTime F Rl) {j : Nat} {i4 : Int32} (hi : i4 = nI (6 * j)) (hj : 6 * j + 6 ≤ L) (hL : L ≤ 3072) {σ τ : St} {f : Nat → Int64} (hR : Rl σ τ) (kend : ∀ (σ' τ' : St) (f' : Nat → Int64), Rl σ' τ' → WL X Z (131 + 6 * (j + 1)) (18958 + 36 * (j + 1)) 2062 σ' τ' f' (lvL Z b i4) []) : WL X Z (131 + 6 * j) (18958 + 36 * j) 1391 σ τ f (lvL Z b i4) [] := by
  obtain ⟨res, r, τ', hx1, hres, hm1, hk, hv, hR'⟩ := S σ τ (xv (6 * j + 1)) (xv (6 * j + 2)) hR
  refine l_aload_n C 1 rfl dL_law_1391 rfl ?_
  refine l_aload_n C 0 rfl dL_law_1392 rfl ?_
  refine l_iload C 4 rfl dL_law_1393 rfl ?_
  refine l_iconst C 1 (by decide) dL_law_1395 rfl ?_
  refine l_iadd C dL_law_1396 rfl ?_
  refine l_sld C (6 * j + 1) (by rw [hi]; exact l_ix 1 (by decide)) ⟨by omega, by omega⟩ dL_law_1397 rfl ?_
  refine l_aload_n C 0 rfl dL_law_1398 rfl ?_
  refine l_iload C 4 rfl dL_law_1399 rfl ?_
  refine l_iconst C 2 (by decide) dL_law_1401 rfl ?_
  refine l_iadd C dL_law_1402 rfl ?_
  refine l_sld C (6 * j + 2) (by rw [hi]; exact l_ix 2 (by decide)) ⟨by omega, by omega⟩ dL_law_1403 rfl ?_
  refine l_aload_n C 3 rfl dL_law_1404 rfl ?_
  refine l_callW C (n := 4) (As := [.ref (zc Z 0), .int (xv (6 * j + 1)), .int (xv (6 * j + 2)), .ref (zo Z)]) (st := []) (c2 := 131 + 6 * (j + 1)) (s2 := 18958 + 36 * (j + 1)) (mw_L_inTime Z.1 Z.2.1 (zL Z) Z.2.2.2.2.1 (zo Z) C.2.1.2.1.1 hst C.2.1.2.2.2.1.2.1 hx1 hres) tw5_195 ks_L_inTime (by decide +kernel) ⟨by decide, by decide⟩ ⟨by omega, by omega⟩ ⟨by omega, by omega⟩ rfl rfl (Nat.le_of_ble_eq_true rfl) dL_law_1405 rfl ?_
  refine l_istore C [(5, .int (if res.1 = 0 then (0 : Int32) else if res.1 = 1 then 1 else 2)), (0, .ref b), (1, .ref (zc Z 0)), (2, .ref (zm Z 0)), (3, .ref (zo Z)), (4, .int i4)] (by decide) rfl dL_law_1408 rfl ?_
  refine l_aload_n C 3 rfl dL_law_1410 rfl ?_
  refine l_aload_n C 1 rfl dL_law_1411 rfl ?_
  refine l_iload C 5 rfl dL_law_1412 rfl ?_
  refine l_iconst C 1 (by decide) dL_law_1414 rfl ?_
  refine l_iadd C dL_law_1415 rfl ?_
  refine l_sld C (6 * j + 1) (by rw [hi]; exact l_ix 1 (by decide)) ⟨by omega, by omega⟩ dL_law_1416 rfl ?_
  refine l_aload_n C 1 rfl dL_law_1417 rfl ?_
  refine l_iload C 5 rfl dL_law_1418 rfl ?_
  refine l_iconst C 2 (by decide) dL_law_1420 rfl ?_
  refine l_iadd C dL_law_1421 rfl ?_
  refine l_sld C (6 * j + 2) (by rw [hi]; exact l_ix 2 (by decide)) ⟨by omega, by omega⟩ dL_law_1422 rfl ?_
  refine l_callMi C (n := 2) (As := [.int (xv (6 * j + 1)), .int (xv (6 * j + 2))]) (st := []) (cfX11_inTime Z.1 Z.2.1 Z.2.2.1 Z.2.2.2.2.2.1 C.2.1.2.1.2 hm1) tw8_227 cy_X11_inTime (by decide +kernel) ⟨by decide, by decide⟩ ⟨by omega, by omega⟩ rfl rfl (Nat.le_of_ble_eq_true rfl) dL_law_1423 rfl ?_
  refine l_istore C [(6, .int r), (5, .int (if res.1 = 0 then (0 : Int32) else if res.1 = 1 then 1 else 2)), (0, .ref b), (1, .ref (zc Z 0)), (2, .ref (zm Z 0)), (3, .ref (zo Z)), (4, .int i4)] (by decide) rfl dL_law_1426 rfl ?_
  refine l_aload_n C 4 rfl dL_law_1428 rfl ?_
  refine l_callMi C (n := 0) (As := []) (st := []) (cfX11_thrown (F := 0) Z.1 Z.2.1 Z.2.2.1 Z.2.2.2.2.2.1 C.2.1.2.1.2 (r := τ' 0 4) rfl) tw7_105 cy_X11_thrown (by decide +kernel) ⟨by decide, by decide⟩ ⟨by omega, by omega⟩ rfl rfl (Nat.le_of_ble_eq_true rfl) dL_law_1429 rfl ?_
  refine l_iload C 1 rfl dL_law_1432 rfl ?_
  refine l_eqT (q := 1439) C hk dL_law_1434 (by decide) ?_
  refine l_iload C 1 rfl dL_law_1439 rfl ?_
  refine l_ifne (qt := 1456) C dL_law_1441 (by decide) rfl (fun _ => ?_) (fun hz => ?_)
  · refine l_goto (q := 2062) C dL_law_1456 (by decide) ?_
    exact l_sub [2, 3, 4, 5, 6] rfl (kend _ _ _ hR')
  · have h0 : res.1 = 0 := by
      rcases hres with h | h | h
      · exact h
      · rw [h] at hz; exact absurd hz (by decide)
      · rw [h] at hz; exact absurd hz (by decide)
    refine l_aload_n C 5 rfl dL_law_1444 rfl ?_
    refine l_iconst C 0 (by decide) dL_law_1445 rfl ?_
    refine l_laload C dL_law_1446 rfl ?_
    refine l_iload C 0 rfl dL_law_1447 rfl ?_
    refine l_i2l C dL_law_1449 rfl ?_
    refine l_lcmp C dL_law_1450 rfl ?_
    refine l_zeroT (q := 1456) C (by rw [if_pos h0, ← hv h0]; exact lgc _) dL_law_1451 (by decide) ?_
    refine l_goto (q := 2062) C dL_law_1456 (by decide) ?_
    exact l_sub [2, 3, 4, 5, 6] rfl (kend _ _ _ hR')
theorem ks_L_apart : Cond.static yL_apart ∈ BG ∧ Cond.initialized (yL_apart).cls ∈ BG ∧ Cond.codeWith yL_apart cL_apart 4 (some .int) [(0, 9, 12, 18)] ∈ BG := ⟨tw5_212, tw1_0, BG_t5 213 (by decide +kernel) (by decide +kernel)⟩
def Sm_apart (F : Nat) (Rl : St → St → Prop) : Prop := ∀ (σ τ : St) (a0 : Int32), Rl σ τ → ∃ (res : Nat × Int32 × St) (r : Int32) (τ' : St), fX10_apart F σ a0 = some res ∧ (res.1 = 0 ∨ res.1 = 1) ∧ fX11_apart F τ a0 = some (r, τ') ∧ τ' 0 4 = (if res.1 = 0 then (0 : Int32) else 1) ∧ (res.1 = 0 → res.2.1 = r) ∧ Rl res.2.2 τ'
set_option maxRecDepth 20000 in
theorem lc_apart {X : XT} {Z : ZT} {b L : Nat} {xv : Nat → Int32} (C : CL X Z b L xv) (hst : X.2.1.stackTraces = false) {F : Nat} {Rl : St → St → Prop} (S : Sm_apart F Rl) {j : Nat} {i4 : Int32} (hi : i4 = nI (6 * j)) (hj : 6 * j + 6 ≤ L) (hL : L ≤ 3072) {σ τ : St} {f : Nat → Int64} (hR : Rl σ τ) (kend : ∀ (σ' τ' : St) (f' : Nat → Int64), Rl σ' τ' → WL X Z (131 + 6 * (j + 1)) (18958 + 36 * (j + 1)) 2062 σ' τ' f' (lvL Z b i4) []) : WL X Z (131 + 6 * j) (18958 + 36 * j) 1459 σ τ f (lvL Z b i4) [] := by
  obtain ⟨res, r, τ', hx1, hres, hm1, hk, hv, hR'⟩ := S σ τ (xv (6 * j + 1)) hR
  refine l_aload_n C 1 rfl dL_law_1459 rfl ?_
  refine l_aload_n C 0 rfl dL_law_1460 rfl ?_
  refine l_iload C 4 rfl dL_law_1461 rfl ?_
  refine l_iconst C 1 (by decide) dL_law_1463 rfl ?_
  refine l_iadd C dL_law_1464 rfl ?_
  refine l_sld C (6 * j + 1) (by rw [hi]; exact l_ix 1 (by decide)) ⟨by omega, by omega⟩ dL_law_1465 rfl ?_
  refine l_aload_n C 3 rfl dL_law_1466 rfl ?_
  refine l_callW C (n := 3) (As := [.ref (zc Z 0), .int (xv (6 * j + 1)), .ref (zo Z)]) (st := []) (c2 := 131 + 6 * (j + 1)) (s2 := 18958 + 36 * (j + 1)) (mw_L_apart Z.1 Z.2.1 (zL Z) Z.2.2.2.2.1 (zo Z) C.2.1.2.1.1 hst C.2.1.2.2.2.1.2.1 hx1 hres) tw5_211 ks_L_apart (by decide +kernel) ⟨by decide, by decide⟩ ⟨by omega, by omega⟩ ⟨by omega, by omega⟩ rfl rfl (Nat.le_of_ble_eq_true rfl) dL_law_1467 rfl ?_
  refine l_istore C [(5, .int (if res.1 = 0 then (0 : Int32) else 1)), (0, .ref b), (1, .ref (zc Z 0)), (2, .ref (zm Z 0)), (3, .ref (zo Z)), (4, .int i4)] (by decide) rfl dL_law_1470 rfl ?_
  refine l_aload_n C 3 rfl dL_law_1472 rfl ?_
  refine l_aload_n C 1 rfl dL_law_1473 rfl ?_
  refine l_iload C 5 rfl dL_law_1474 rfl ?_
  refine l_iconst C 1 (by decide) dL_law_1476 rfl ?_
  refine l_iadd C dL_law_1477 rfl ?_
  refine l_sld C (6 * j + 1) (by rw [hi]; exact l_ix 1 (by decide)) ⟨by omega, by omega⟩ dL_law_1478 rfl ?_
  refine l_callMi C (n := 1) (As := [.int (xv (6 * j + 1))]) (st := []) (cfX11_apart Z.1 Z.2.1 Z.2.2.1 Z.2.2.2.2.2.1 C.2.1.2.1.2 hm1) tw8_232 cy_X11_apart (by decide +kernel) ⟨by decide, by decide⟩ ⟨by omega, by omega⟩ rfl rfl (Nat.le_of_ble_eq_true rfl) dL_law_1479 rfl ?_
  refine l_istore C [(6, .int r), (5, .int (if res.1 = 0 then (0 : Int32) else 1)), (0, .ref b), (1, .ref (zc Z 0)), (2, .ref (zm Z 0)), (3, .ref (zo Z)), (4, .int i4)] (by decide) rfl dL_law_1482 rfl ?_
  refine l_aload_n C 4 rfl dL_law_1484 rfl ?_
  refine l_callMi C (n := 0) (As := []) (st := []) (cfX11_thrown (F := 0) Z.1 Z.2.1 Z.2.2.1 Z.2.2.2.2.2.1 C.2.1.2.1.2 (r := τ' 0 4) rfl) tw7_105 cy_X11_thrown (by decide +kernel) ⟨by decide, by decide⟩ ⟨by omega, by omega⟩ rfl rfl (Nat.le_of_ble_eq_true rfl) dL_law_1485 rfl ?_
  refine l_iload C 1 rfl dL_law_1488 rfl ?_
  refine l_eqT (q := 1495) C hk dL_law_1490 (by decide) ?_
  refine l_iload C 1 rfl dL_law_1495 rfl ?_
  refine l_ifne (qt := 1512) C dL_law_1497 (by decide) rfl (fun _ => ?_) (fun hz => ?_)
  · refine l_goto (q := 2062) C dL_law_1512 (by decide) ?_
    exact l_sub [2, 3, 4, 5, 6] rfl (kend _ _ _ hR')
  · have h0 : res.1 = 0 := by
      rcases hres with h | h
      · exact h
      · rw [h] at hz; exact absurd hz (by decide)
    refine l_aload_n C 5 rfl dL_law_1500 rfl ?_
    refine l_iconst C 0 (by decide) dL_law_1501 rfl ?_
    refine l_laload C dL_law_1502 rfl ?_
    refine l_iload C 0 rfl dL_law_1503 rfl ?_
    refine l_i2l C dL_law_1505 rfl ?_
    refine l_lcmp C dL_law_1506 rfl ?_
    refine l_zeroT (q := 1512) C (by rw [if_pos h0, ← hv h0]; exact lgc _) dL_law_1507 (by decide) ?_
    refine l_goto (q := 2062) C dL_law_1512 (by decide) ?_
    exact l_sub [2, 3, 4, 5, 6] rfl (kend _ _ _ hR')
theorem ks_L_against : Cond.static yL_against ∈ BG ∧ Cond.initialized (yL_against).cls ∈ BG ∧ Cond.codeWith yL_against cL_against 4 (some .int) [(0, 9, 12, 18)] ∈ BG := ⟨tw5_226, tw1_0, BG_t5 227 (by decide +kernel) (by decide +kernel)⟩
def Sm_against (F : Nat) (Rl : St → St → Prop) : Prop := ∀ (σ τ : St) (a0 : Int32), Rl σ τ → ∃ (res : Nat × Int32 × St) (r : Int32) (τ' : St), fX10_against F σ a0 = some res ∧ (res.1 = 0 ∨ res.1 = 1) ∧ fX11_against F τ a0 = some (r, τ') ∧ τ' 0 4 = (if res.1 = 0 then (0 : Int32) else 1) ∧ (res.1 = 0 → res.2.1 = r) ∧ Rl res.2.2 τ'
set_option maxRecDepth 20000 in
theorem lc_against {X : XT} {Z : ZT} {b L : Nat} {xv : Nat → Int32} (C : CL X Z b L xv) (hst : X.2.1.stackTraces = false) {F : Nat} {Rl : St → St → Prop} (S : Sm_against F Rl) {j : Nat} {i4 : Int32} (hi : i4 = nI (6 * j)) (hj : 6 * j + 6 ≤ L) (hL : L ≤ 3072) {σ τ : St} {f : Nat → Int64} (hR : Rl σ τ) (kend : ∀ (σ' τ' : St) (f' : Nat → Int64), Rl σ' τ' → WL X Z (131 + 6 * (j + 1)) (18958 + 36 * (j + 1)) 2062 σ' τ' f' (lvL Z b i4) []) : WL X Z (131 + 6 * j) (18958 + 36 * j) 1515 σ τ f (lvL Z b i4) [] := by
  obtain ⟨res, r, τ', hx1, hres, hm1, hk, hv, hR'⟩ := S σ τ (xv (6 * j + 1)) hR
  refine l_aload_n C 1 rfl dL_law_1515 rfl ?_
  refine l_aload_n C 0 rfl dL_law_1516 rfl ?_
  refine l_iload C 4 rfl dL_law_1517 rfl ?_
  refine l_iconst C 1 (by decide) dL_law_1519 rfl ?_
  refine l_iadd C dL_law_1520 rfl ?_
  refine l_sld C (6 * j + 1) (by rw [hi]; exact l_ix 1 (by decide)) ⟨by omega, by omega⟩ dL_law_1521 rfl ?_
  refine l_aload_n C 3 rfl dL_law_1522 rfl ?_
  refine l_callW C (n := 3) (As := [.ref (zc Z 0), .int (xv (6 * j + 1)), .ref (zo Z)]) (st := []) (c2 := 131 + 6 * (j + 1)) (s2 := 18958 + 36 * (j + 1)) (mw_L_against Z.1 Z.2.1 (zL Z) Z.2.2.2.2.1 (zo Z) C.2.1.2.1.1 hst C.2.1.2.2.2.1.2.1 hx1 hres) tw5_225 ks_L_against (by decide +kernel) ⟨by decide, by decide⟩ ⟨by omega, by omega⟩ ⟨by omega, by omega⟩ rfl rfl (Nat.le_of_ble_eq_true rfl) dL_law_1523 rfl ?_
  refine l_istore C [(5, .int (if res.1 = 0 then (0 : Int32) else 1)), (0, .ref b), (1, .ref (zc Z 0)), (2, .ref (zm Z 0)), (3, .ref (zo Z)), (4, .int i4)] (by decide) rfl dL_law_1526 rfl ?_
  refine l_aload_n C 3 rfl dL_law_1528 rfl ?_
  refine l_aload_n C 1 rfl dL_law_1529 rfl ?_
  refine l_iload C 5 rfl dL_law_1530 rfl ?_
  refine l_iconst C 1 (by decide) dL_law_1532 rfl ?_
  refine l_iadd C dL_law_1533 rfl ?_
  refine l_sld C (6 * j + 1) (by rw [hi]; exact l_ix 1 (by decide)) ⟨by omega, by omega⟩ dL_law_1534 rfl ?_
  refine l_callMi C (n := 1) (As := [.int (xv (6 * j + 1))]) (st := []) (cfX11_against Z.1 Z.2.1 Z.2.2.1 Z.2.2.2.2.2.1 C.2.1.2.1.2 hm1) tw8_237 cy_X11_against (by decide +kernel) ⟨by decide, by decide⟩ ⟨by omega, by omega⟩ rfl rfl (Nat.le_of_ble_eq_true rfl) dL_law_1535 rfl ?_
  refine l_istore C [(6, .int r), (5, .int (if res.1 = 0 then (0 : Int32) else 1)), (0, .ref b), (1, .ref (zc Z 0)), (2, .ref (zm Z 0)), (3, .ref (zo Z)), (4, .int i4)] (by decide) rfl dL_law_1538 rfl ?_
  refine l_aload_n C 4 rfl dL_law_1540 rfl ?_
  refine l_callMi C (n := 0) (As := []) (st := []) (cfX11_thrown (F := 0) Z.1 Z.2.1 Z.2.2.1 Z.2.2.2.2.2.1 C.2.1.2.1.2 (r := τ' 0 4) rfl) tw7_105 cy_X11_thrown (by decide +kernel) ⟨by decide, by decide⟩ ⟨by omega, by omega⟩ rfl rfl (Nat.le_of_ble_eq_true rfl) dL_law_1541 rfl ?_
  refine l_iload C 1 rfl dL_law_1544 rfl ?_
  refine l_eqT (q := 1551) C hk dL_law_1546 (by decide) ?_
  refine l_iload C 1 rfl dL_law_1551 rfl ?_
  refine l_ifne (qt := 1568) C dL_law_1553 (by decide) rfl (fun _ => ?_) (fun hz => ?_)
  · refine l_goto (q := 2062) C dL_law_1568 (by decide) ?_
    exact l_sub [2, 3, 4, 5, 6] rfl (kend _ _ _ hR')
  · have h0 : res.1 = 0 := by
      rcases hres with h | h
      · exact h
      · rw [h] at hz; exact absurd hz (by decide)
    refine l_aload_n C 5 rfl dL_law_1556 rfl ?_
    refine l_iconst C 0 (by decide) dL_law_1557 rfl ?_
    refine l_laload C dL_law_1558 rfl ?_
    refine l_iload C 0 rfl dL_law_1559 rfl ?_
    refine l_i2l C dL_law_1561 rfl ?_
    refine l_lcmp C dL_law_1562 rfl ?_
    refine l_zeroT (q := 1568) C (by rw [if_pos h0, ← hv h0]; exact lgc _) dL_law_1563 (by decide) ?_
    refine l_goto (q := 2062) C dL_law_1568 (by decide) ?_
    exact l_sub [2, 3, 4, 5, 6] rfl (kend _ _ _ hR')
theorem ks_L_help : Cond.static yL_help ∈ BG ∧ Cond.initialized (yL_help).cls ∈ BG ∧ Cond.codeWith yL_help cL_help 4 (some .int) [(0, 9, 12, 18)] ∈ BG := ⟨tw6_20, tw1_0, BG_t6 21 (by decide +kernel) (by decide +kernel)⟩
def Sm_help (F : Nat) (Rl : St → St → Prop) : Prop := ∀ (σ τ : St) (a0 : Int32), Rl σ τ → ∃ (res : Nat × Int32 × St) (r : Int32) (τ' : St), fX10_help F σ a0 = some res ∧ (res.1 = 0 ∨ res.1 = 1) ∧ fX11_help F τ a0 = some (r, τ') ∧ τ' 0 4 = (if res.1 = 0 then (0 : Int32) else 1) ∧ (res.1 = 0 → res.2.1 = r) ∧ Rl res.2.2 τ'
set_option maxRecDepth 20000 in
theorem lc_help {X : XT} {Z : ZT} {b L : Nat} {xv : Nat → Int32} (C : CL X Z b L xv) (hst : X.2.1.stackTraces = false) {F : Nat} {Rl : St → St → Prop} (S : Sm_help F Rl) {j : Nat} {i4 : Int32} (hi : i4 = nI (6 * j)) (hj : 6 * j + 6 ≤ L) (hL : L ≤ 3072) {σ τ : St} {f : Nat → Int64} (hR : Rl σ τ) (kend : ∀ (σ' τ' : St) (f' : Nat → Int64), Rl σ' τ' → WL X Z (131 + 6 * (j + 1)) (18958 + 36 * (j + 1)) 2062 σ' τ' f' (lvL Z b i4) []) : WL X Z (131 + 6 * j) (18958 + 36 * j) 1571 σ τ f (lvL Z b i4) [] := by
  obtain ⟨res, r, τ', hx1, hres, hm1, hk, hv, hR'⟩ := S σ τ (xv (6 * j + 1)) hR
  refine l_aload_n C 1 rfl dL_law_1571 rfl ?_
  refine l_aload_n C 0 rfl dL_law_1572 rfl ?_
  refine l_iload C 4 rfl dL_law_1573 rfl ?_
  refine l_iconst C 1 (by decide) dL_law_1575 rfl ?_
  refine l_iadd C dL_law_1576 rfl ?_
  refine l_sld C (6 * j + 1) (by rw [hi]; exact l_ix 1 (by decide)) ⟨by omega, by omega⟩ dL_law_1577 rfl ?_
  refine l_aload_n C 3 rfl dL_law_1578 rfl ?_
  refine l_callW C (n := 3) (As := [.ref (zc Z 0), .int (xv (6 * j + 1)), .ref (zo Z)]) (st := []) (c2 := 131 + 6 * (j + 1)) (s2 := 18958 + 36 * (j + 1)) (mw_L_help Z.1 Z.2.1 (zL Z) Z.2.2.2.2.1 (zo Z) C.2.1.2.1.1 hst C.2.1.2.2.2.1.2.1 hx1 hres) tw6_19 ks_L_help (by decide +kernel) ⟨by decide, by decide⟩ ⟨by omega, by omega⟩ ⟨by omega, by omega⟩ rfl rfl (Nat.le_of_ble_eq_true rfl) dL_law_1579 rfl ?_
  refine l_istore C [(5, .int (if res.1 = 0 then (0 : Int32) else 1)), (0, .ref b), (1, .ref (zc Z 0)), (2, .ref (zm Z 0)), (3, .ref (zo Z)), (4, .int i4)] (by decide) rfl dL_law_1582 rfl ?_
  refine l_aload_n C 3 rfl dL_law_1584 rfl ?_
  refine l_aload_n C 1 rfl dL_law_1585 rfl ?_
  refine l_iload C 5 rfl dL_law_1586 rfl ?_
  refine l_iconst C 1 (by decide) dL_law_1588 rfl ?_
  refine l_iadd C dL_law_1589 rfl ?_
  refine l_sld C (6 * j + 1) (by rw [hi]; exact l_ix 1 (by decide)) ⟨by omega, by omega⟩ dL_law_1590 rfl ?_
  refine l_callMi C (n := 1) (As := [.int (xv (6 * j + 1))]) (st := []) (cfX11_help Z.1 Z.2.1 Z.2.2.1 Z.2.2.2.2.2.1 C.2.1.2.1.2 hm1) tw9_5 cy_X11_help (by decide +kernel) ⟨by decide, by decide⟩ ⟨by omega, by omega⟩ rfl rfl (Nat.le_of_ble_eq_true rfl) dL_law_1591 rfl ?_
  refine l_istore C [(6, .int r), (5, .int (if res.1 = 0 then (0 : Int32) else 1)), (0, .ref b), (1, .ref (zc Z 0)), (2, .ref (zm Z 0)), (3, .ref (zo Z)), (4, .int i4)] (by decide) rfl dL_law_1594 rfl ?_
  refine l_aload_n C 4 rfl dL_law_1596 rfl ?_
  refine l_callMi C (n := 0) (As := []) (st := []) (cfX11_thrown (F := 0) Z.1 Z.2.1 Z.2.2.1 Z.2.2.2.2.2.1 C.2.1.2.1.2 (r := τ' 0 4) rfl) tw7_105 cy_X11_thrown (by decide +kernel) ⟨by decide, by decide⟩ ⟨by omega, by omega⟩ rfl rfl (Nat.le_of_ble_eq_true rfl) dL_law_1597 rfl ?_
  refine l_iload C 1 rfl dL_law_1600 rfl ?_
  refine l_eqT (q := 1607) C hk dL_law_1602 (by decide) ?_
  refine l_iload C 1 rfl dL_law_1607 rfl ?_
  refine l_ifne (qt := 1624) C dL_law_1609 (by decide) rfl (fun _ => ?_) (fun hz => ?_)
  · refine l_goto (q := 2062) C dL_law_1624 (by decide) ?_
    exact l_sub [2, 3, 4, 5, 6] rfl (kend _ _ _ hR')
  · have h0 : res.1 = 0 := by
      rcases hres with h | h
      · exact h
      · rw [h] at hz; exact absurd hz (by decide)
    refine l_aload_n C 5 rfl dL_law_1612 rfl ?_
    refine l_iconst C 0 (by decide) dL_law_1613 rfl ?_
    refine l_laload C dL_law_1614 rfl ?_
    refine l_iload C 0 rfl dL_law_1615 rfl ?_
    refine l_i2l C dL_law_1617 rfl ?_
    refine l_lcmp C dL_law_1618 rfl ?_
    refine l_zeroT (q := 1624) C (by rw [if_pos h0, ← hv h0]; exact lgc _) dL_law_1619 (by decide) ?_
    refine l_goto (q := 2062) C dL_law_1624 (by decide) ?_
    exact l_sub [2, 3, 4, 5, 6] rfl (kend _ _ _ hR')
theorem ks_L_evenings : Cond.static yL_evenings ∈ BG ∧ Cond.initialized (yL_evenings).cls ∈ BG ∧ Cond.codeWith yL_evenings cL_evenings 4 (some .int) [(0, 9, 12, 18)] ∈ BG := ⟨tw6_35, tw1_0, BG_t6 36 (by decide +kernel) (by decide +kernel)⟩
def Sm_evenings (F : Nat) (Rl : St → St → Prop) : Prop := ∀ (σ τ : St) (a0 : Int32), Rl σ τ → ∃ (res : Nat × Int32 × St) (r : Int32) (τ' : St), fX10_evenings F σ a0 = some res ∧ (res.1 = 0 ∨ res.1 = 1) ∧ fX11_evenings F τ a0 = some (r, τ') ∧ τ' 0 4 = (if res.1 = 0 then (0 : Int32) else 1) ∧ (res.1 = 0 → res.2.1 = r) ∧ Rl res.2.2 τ'
set_option maxRecDepth 20000 in
theorem lc_evenings {X : XT} {Z : ZT} {b L : Nat} {xv : Nat → Int32} (C : CL X Z b L xv) (hst : X.2.1.stackTraces = false) {F : Nat} {Rl : St → St → Prop} (S : Sm_evenings F Rl) {j : Nat} {i4 : Int32} (hi : i4 = nI (6 * j)) (hj : 6 * j + 6 ≤ L) (hL : L ≤ 3072) {σ τ : St} {f : Nat → Int64} (hR : Rl σ τ) (kend : ∀ (σ' τ' : St) (f' : Nat → Int64), Rl σ' τ' → WL X Z (131 + 6 * (j + 1)) (18958 + 36 * (j + 1)) 2062 σ' τ' f' (lvL Z b i4) []) : WL X Z (131 + 6 * j) (18958 + 36 * j) 1627 σ τ f (lvL Z b i4) [] := by
  obtain ⟨res, r, τ', hx1, hres, hm1, hk, hv, hR'⟩ := S σ τ (xv (6 * j + 1)) hR
  refine l_aload_n C 1 rfl dL_law_1627 rfl ?_
  refine l_aload_n C 0 rfl dL_law_1628 rfl ?_
  refine l_iload C 4 rfl dL_law_1629 rfl ?_
  refine l_iconst C 1 (by decide) dL_law_1631 rfl ?_
  refine l_iadd C dL_law_1632 rfl ?_
  refine l_sld C (6 * j + 1) (by rw [hi]; exact l_ix 1 (by decide)) ⟨by omega, by omega⟩ dL_law_1633 rfl ?_
  refine l_aload_n C 3 rfl dL_law_1634 rfl ?_
  refine l_callW C (n := 3) (As := [.ref (zc Z 0), .int (xv (6 * j + 1)), .ref (zo Z)]) (st := []) (c2 := 131 + 6 * (j + 1)) (s2 := 18958 + 36 * (j + 1)) (mw_L_evenings Z.1 Z.2.1 (zL Z) Z.2.2.2.2.1 (zo Z) C.2.1.2.1.1 hst C.2.1.2.2.2.1.2.1 hx1 hres) tw6_34 ks_L_evenings (by decide +kernel) ⟨by decide, by decide⟩ ⟨by omega, by omega⟩ ⟨by omega, by omega⟩ rfl rfl (Nat.le_of_ble_eq_true rfl) dL_law_1635 rfl ?_
  refine l_istore C [(5, .int (if res.1 = 0 then (0 : Int32) else 1)), (0, .ref b), (1, .ref (zc Z 0)), (2, .ref (zm Z 0)), (3, .ref (zo Z)), (4, .int i4)] (by decide) rfl dL_law_1638 rfl ?_
  refine l_aload_n C 3 rfl dL_law_1640 rfl ?_
  refine l_aload_n C 1 rfl dL_law_1641 rfl ?_
  refine l_iload C 5 rfl dL_law_1642 rfl ?_
  refine l_iconst C 1 (by decide) dL_law_1644 rfl ?_
  refine l_iadd C dL_law_1645 rfl ?_
  refine l_sld C (6 * j + 1) (by rw [hi]; exact l_ix 1 (by decide)) ⟨by omega, by omega⟩ dL_law_1646 rfl ?_
  refine l_callMi C (n := 1) (As := [.int (xv (6 * j + 1))]) (st := []) (cfX11_evenings Z.1 Z.2.1 Z.2.2.1 Z.2.2.2.2.2.1 C.2.1.2.1.2 hm1) tw9_9 cy_X11_evenings (by decide +kernel) ⟨by decide, by decide⟩ ⟨by omega, by omega⟩ rfl rfl (Nat.le_of_ble_eq_true rfl) dL_law_1647 rfl ?_
  refine l_istore C [(6, .int r), (5, .int (if res.1 = 0 then (0 : Int32) else 1)), (0, .ref b), (1, .ref (zc Z 0)), (2, .ref (zm Z 0)), (3, .ref (zo Z)), (4, .int i4)] (by decide) rfl dL_law_1650 rfl ?_
  refine l_aload_n C 4 rfl dL_law_1652 rfl ?_
  refine l_callMi C (n := 0) (As := []) (st := []) (cfX11_thrown (F := 0) Z.1 Z.2.1 Z.2.2.1 Z.2.2.2.2.2.1 C.2.1.2.1.2 (r := τ' 0 4) rfl) tw7_105 cy_X11_thrown (by decide +kernel) ⟨by decide, by decide⟩ ⟨by omega, by omega⟩ rfl rfl (Nat.le_of_ble_eq_true rfl) dL_law_1653 rfl ?_
  refine l_iload C 1 rfl dL_law_1656 rfl ?_
  refine l_eqT (q := 1663) C hk dL_law_1658 (by decide) ?_
  refine l_iload C 1 rfl dL_law_1663 rfl ?_
  refine l_ifne (qt := 1680) C dL_law_1665 (by decide) rfl (fun _ => ?_) (fun hz => ?_)
  · refine l_goto (q := 2062) C dL_law_1680 (by decide) ?_
    exact l_sub [2, 3, 4, 5, 6] rfl (kend _ _ _ hR')
  · have h0 : res.1 = 0 := by
      rcases hres with h | h
      · exact h
      · rw [h] at hz; exact absurd hz (by decide)
    refine l_aload_n C 5 rfl dL_law_1668 rfl ?_
    refine l_iconst C 0 (by decide) dL_law_1669 rfl ?_
    refine l_laload C dL_law_1670 rfl ?_
    refine l_iload C 0 rfl dL_law_1671 rfl ?_
    refine l_i2l C dL_law_1673 rfl ?_
    refine l_lcmp C dL_law_1674 rfl ?_
    refine l_zeroT (q := 1680) C (by rw [if_pos h0, ← hv h0]; exact lgc _) dL_law_1675 (by decide) ?_
    refine l_goto (q := 2062) C dL_law_1680 (by decide) ?_
    exact l_sub [2, 3, 4, 5, 6] rfl (kend _ _ _ hR')
theorem ks_L_see : Cond.static yL_see ∈ BG ∧ Cond.initialized (yL_see).cls ∈ BG ∧ Cond.codeWith yL_see cL_see 8 (some .int) [(0, 16, 19, 18)] ∈ BG := ⟨tw6_59, tw1_0, BG_t6 60 (by decide +kernel) (by decide +kernel)⟩
def Sm_see (F : Nat) (Rl : St → St → Prop) : Prop := ∀ (σ τ : St) (a0 a1 a2 a3 a4 : Int32), Rl σ τ → ∃ (res : Nat × Int32 × St) (r : Int32) (τ' : St), fX10_see F σ a0 a1 a2 a3 a4 = some res ∧ (res.1 = 0 ∨ res.1 = 1) ∧ fX11_see F τ a0 a1 a2 a3 a4 = some (r, τ') ∧ τ' 0 4 = (if res.1 = 0 then (0 : Int32) else 1) ∧ (res.1 = 0 → res.2.1 = r) ∧ Rl res.2.2 τ'
set_option maxRecDepth 20000 in
theorem lc_see {X : XT} {Z : ZT} {b L : Nat} {xv : Nat → Int32} (C : CL X Z b L xv) (hst : X.2.1.stackTraces = false) {F : Nat} {Rl : St → St → Prop} (S : Sm_see F Rl) {j : Nat} {i4 : Int32} (hi : i4 = nI (6 * j)) (hj : 6 * j + 6 ≤ L) (hL : L ≤ 3072) {σ τ : St} {f : Nat → Int64} (hR : Rl σ τ) (kend : ∀ (σ' τ' : St) (f' : Nat → Int64), Rl σ' τ' → WL X Z (131 + 6 * (j + 1)) (18958 + 36 * (j + 1)) 2062 σ' τ' f' (lvL Z b i4) []) : WL X Z (131 + 6 * j) (18958 + 36 * j) 1683 σ τ f (lvL Z b i4) [] := by
  obtain ⟨res, r, τ', hx1, hres, hm1, hk, hv, hR'⟩ := S σ τ (xv (6 * j + 1)) (xv (6 * j + 2)) (xv (6 * j + 3)) (xv (6 * j + 4)) (xv (6 * j + 5)) hR
  refine l_aload_n C 1 rfl dL_law_1683 rfl ?_
  refine l_aload_n C 0 rfl dL_law_1684 rfl ?_
  refine l_iload C 4 rfl dL_law_1685 rfl ?_
  refine l_iconst C 1 (by decide) dL_law_1687 rfl ?_
  refine l_iadd C dL_law_1688 rfl ?_
  refine l_sld C (6 * j + 1) (by rw [hi]; exact l_ix 1 (by decide)) ⟨by omega, by omega⟩ dL_law_1689 rfl ?_
  refine l_aload_n C 0 rfl dL_law_1690 rfl ?_
  refine l_iload C 4 rfl dL_law_1691 rfl ?_
  refine l_iconst C 2 (by decide) dL_law_1693 rfl ?_
  refine l_iadd C dL_law_1694 rfl ?_
  refine l_sld C (6 * j + 2) (by rw [hi]; exact l_ix 2 (by decide)) ⟨by omega, by omega⟩ dL_law_1695 rfl ?_
  refine l_aload_n C 0 rfl dL_law_1696 rfl ?_
  refine l_iload C 4 rfl dL_law_1697 rfl ?_
  refine l_iconst C 3 (by decide) dL_law_1699 rfl ?_
  refine l_iadd C dL_law_1700 rfl ?_
  refine l_sld C (6 * j + 3) (by rw [hi]; exact l_ix 3 (by decide)) ⟨by omega, by omega⟩ dL_law_1701 rfl ?_
  refine l_aload_n C 0 rfl dL_law_1702 rfl ?_
  refine l_iload C 4 rfl dL_law_1703 rfl ?_
  refine l_iconst C 4 (by decide) dL_law_1705 rfl ?_
  refine l_iadd C dL_law_1706 rfl ?_
  refine l_sld C (6 * j + 4) (by rw [hi]; exact l_ix 4 (by decide)) ⟨by omega, by omega⟩ dL_law_1707 rfl ?_
  refine l_aload_n C 0 rfl dL_law_1708 rfl ?_
  refine l_iload C 4 rfl dL_law_1709 rfl ?_
  refine l_iconst C 5 (by decide) dL_law_1711 rfl ?_
  refine l_iadd C dL_law_1712 rfl ?_
  refine l_sld C (6 * j + 5) (by rw [hi]; exact l_ix 5 (by decide)) ⟨by omega, by omega⟩ dL_law_1713 rfl ?_
  refine l_aload_n C 3 rfl dL_law_1714 rfl ?_
  refine l_callW C (n := 7) (As := [.ref (zc Z 0), .int (xv (6 * j + 1)), .int (xv (6 * j + 2)), .int (xv (6 * j + 3)), .int (xv (6 * j + 4)), .int (xv (6 * j + 5)), .ref (zo Z)]) (st := []) (c2 := 131 + 6 * (j + 1)) (s2 := 18958 + 36 * (j + 1)) (mw_L_see Z.1 Z.2.1 (zL Z) Z.2.2.2.2.1 (zo Z) C.2.1.2.1.1 hst C.2.1.2.2.2.1.2.1 hx1 hres) tw6_58 ks_L_see (by decide +kernel) ⟨by decide, by decide⟩ ⟨by omega, by omega⟩ ⟨by omega, by omega⟩ rfl rfl (Nat.le_of_ble_eq_true rfl) dL_law_1715 rfl ?_
  refine l_istore C [(5, .int (if res.1 = 0 then (0 : Int32) else 1)), (0, .ref b), (1, .ref (zc Z 0)), (2, .ref (zm Z 0)), (3, .ref (zo Z)), (4, .int i4)] (by decide) rfl dL_law_1718 rfl ?_
  refine l_aload_n C 3 rfl dL_law_1720 rfl ?_
  refine l_aload_n C 1 rfl dL_law_1721 rfl ?_
  refine l_iload C 5 rfl dL_law_1722 rfl ?_
  refine l_iconst C 1 (by decide) dL_law_1724 rfl ?_
  refine l_iadd C dL_law_1725 rfl ?_
  refine l_sld C (6 * j + 1) (by rw [hi]; exact l_ix 1 (by decide)) ⟨by omega, by omega⟩ dL_law_1726 rfl ?_
  refine l_aload_n C 1 rfl dL_law_1727 rfl ?_
  refine l_iload C 5 rfl dL_law_1728 rfl ?_
  refine l_iconst C 2 (by decide) dL_law_1730 rfl ?_
  refine l_iadd C dL_law_1731 rfl ?_
  refine l_sld C (6 * j + 2) (by rw [hi]; exact l_ix 2 (by decide)) ⟨by omega, by omega⟩ dL_law_1732 rfl ?_
  refine l_aload_n C 1 rfl dL_law_1733 rfl ?_
  refine l_iload C 5 rfl dL_law_1734 rfl ?_
  refine l_iconst C 3 (by decide) dL_law_1736 rfl ?_
  refine l_iadd C dL_law_1737 rfl ?_
  refine l_sld C (6 * j + 3) (by rw [hi]; exact l_ix 3 (by decide)) ⟨by omega, by omega⟩ dL_law_1738 rfl ?_
  refine l_aload_n C 1 rfl dL_law_1739 rfl ?_
  refine l_iload C 5 rfl dL_law_1740 rfl ?_
  refine l_iconst C 4 (by decide) dL_law_1742 rfl ?_
  refine l_iadd C dL_law_1743 rfl ?_
  refine l_sld C (6 * j + 4) (by rw [hi]; exact l_ix 4 (by decide)) ⟨by omega, by omega⟩ dL_law_1744 rfl ?_
  refine l_aload_n C 1 rfl dL_law_1745 rfl ?_
  refine l_iload C 5 rfl dL_law_1746 rfl ?_
  refine l_iconst C 5 (by decide) dL_law_1748 rfl ?_
  refine l_iadd C dL_law_1749 rfl ?_
  refine l_sld C (6 * j + 5) (by rw [hi]; exact l_ix 5 (by decide)) ⟨by omega, by omega⟩ dL_law_1750 rfl ?_
  refine l_callMi C (n := 5) (As := [.int (xv (6 * j + 1)), .int (xv (6 * j + 2)), .int (xv (6 * j + 3)), .int (xv (6 * j + 4)), .int (xv (6 * j + 5))]) (st := []) (cfX11_see Z.1 Z.2.1 Z.2.2.1 Z.2.2.2.2.2.1 C.2.1.2.1.2 hm1) tw9_21 cy_X11_see (by decide +kernel) ⟨by decide, by decide⟩ ⟨by omega, by omega⟩ rfl rfl (Nat.le_of_ble_eq_true rfl) dL_law_1751 rfl ?_
  refine l_istore C [(6, .int r), (5, .int (if res.1 = 0 then (0 : Int32) else 1)), (0, .ref b), (1, .ref (zc Z 0)), (2, .ref (zm Z 0)), (3, .ref (zo Z)), (4, .int i4)] (by decide) rfl dL_law_1754 rfl ?_
  refine l_aload_n C 4 rfl dL_law_1756 rfl ?_
  refine l_callMi C (n := 0) (As := []) (st := []) (cfX11_thrown (F := 0) Z.1 Z.2.1 Z.2.2.1 Z.2.2.2.2.2.1 C.2.1.2.1.2 (r := τ' 0 4) rfl) tw7_105 cy_X11_thrown (by decide +kernel) ⟨by decide, by decide⟩ ⟨by omega, by omega⟩ rfl rfl (Nat.le_of_ble_eq_true rfl) dL_law_1757 rfl ?_
  refine l_iload C 1 rfl dL_law_1760 rfl ?_
  refine l_eqT (q := 1767) C hk dL_law_1762 (by decide) ?_
  refine l_iload C 1 rfl dL_law_1767 rfl ?_
  refine l_ifne (qt := 1784) C dL_law_1769 (by decide) rfl (fun _ => ?_) (fun hz => ?_)
  · refine l_goto (q := 2062) C dL_law_1784 (by decide) ?_
    exact l_sub [2, 3, 4, 5, 6] rfl (kend _ _ _ hR')
  · have h0 : res.1 = 0 := by
      rcases hres with h | h
      · exact h
      · rw [h] at hz; exact absurd hz (by decide)
    refine l_aload_n C 5 rfl dL_law_1772 rfl ?_
    refine l_iconst C 0 (by decide) dL_law_1773 rfl ?_
    refine l_laload C dL_law_1774 rfl ?_
    refine l_iload C 0 rfl dL_law_1775 rfl ?_
    refine l_i2l C dL_law_1777 rfl ?_
    refine l_lcmp C dL_law_1778 rfl ?_
    refine l_zeroT (q := 1784) C (by rw [if_pos h0, ← hv h0]; exact lgc _) dL_law_1779 (by decide) ?_
    refine l_goto (q := 2062) C dL_law_1784 (by decide) ?_
    exact l_sub [2, 3, 4, 5, 6] rfl (kend _ _ _ hR')
theorem ks_L_limp : Cond.static yL_limp ∈ BG ∧ Cond.initialized (yL_limp).cls ∈ BG ∧ Cond.codeWith yL_limp cL_limp 5 (some .int) [(0, 10, 13, 18)] ∈ BG := ⟨tw6_74, tw1_0, BG_t6 75 (by decide +kernel) (by decide +kernel)⟩
def Sm_limp (F : Nat) (Rl : St → St → Prop) : Prop := ∀ (σ τ : St) (a0 a1 : Int32), Rl σ τ → ∃ (res : Nat × Int32 × St) (r : Int32) (τ' : St), fX10_limp F σ a0 a1 = some res ∧ (res.1 = 0 ∨ res.1 = 1) ∧ fX11_limp F τ a0 a1 = some (r, τ') ∧ τ' 0 4 = (if res.1 = 0 then (0 : Int32) else 1) ∧ (res.1 = 0 → res.2.1 = r) ∧ Rl res.2.2 τ'
set_option maxRecDepth 20000 in
theorem lc_limp {X : XT} {Z : ZT} {b L : Nat} {xv : Nat → Int32} (C : CL X Z b L xv) (hst : X.2.1.stackTraces = false) {F : Nat} {Rl : St → St → Prop} (S : Sm_limp F Rl) {j : Nat} {i4 : Int32} (hi : i4 = nI (6 * j)) (hj : 6 * j + 6 ≤ L) (hL : L ≤ 3072) {σ τ : St} {f : Nat → Int64} (hR : Rl σ τ) (kend : ∀ (σ' τ' : St) (f' : Nat → Int64), Rl σ' τ' → WL X Z (131 + 6 * (j + 1)) (18958 + 36 * (j + 1)) 2062 σ' τ' f' (lvL Z b i4) []) : WL X Z (131 + 6 * j) (18958 + 36 * j) 1787 σ τ f (lvL Z b i4) [] := by
  obtain ⟨res, r, τ', hx1, hres, hm1, hk, hv, hR'⟩ := S σ τ (xv (6 * j + 1)) (xv (6 * j + 2)) hR
  refine l_aload_n C 1 rfl dL_law_1787 rfl ?_
  refine l_aload_n C 0 rfl dL_law_1788 rfl ?_
  refine l_iload C 4 rfl dL_law_1789 rfl ?_
  refine l_iconst C 1 (by decide) dL_law_1791 rfl ?_
  refine l_iadd C dL_law_1792 rfl ?_
  refine l_sld C (6 * j + 1) (by rw [hi]; exact l_ix 1 (by decide)) ⟨by omega, by omega⟩ dL_law_1793 rfl ?_
  refine l_aload_n C 0 rfl dL_law_1794 rfl ?_
  refine l_iload C 4 rfl dL_law_1795 rfl ?_
  refine l_iconst C 2 (by decide) dL_law_1797 rfl ?_
  refine l_iadd C dL_law_1798 rfl ?_
  refine l_sld C (6 * j + 2) (by rw [hi]; exact l_ix 2 (by decide)) ⟨by omega, by omega⟩ dL_law_1799 rfl ?_
  refine l_aload_n C 3 rfl dL_law_1800 rfl ?_
  refine l_callW C (n := 4) (As := [.ref (zc Z 0), .int (xv (6 * j + 1)), .int (xv (6 * j + 2)), .ref (zo Z)]) (st := []) (c2 := 131 + 6 * (j + 1)) (s2 := 18958 + 36 * (j + 1)) (mw_L_limp Z.1 Z.2.1 (zL Z) Z.2.2.2.2.1 (zo Z) C.2.1.2.1.1 hst C.2.1.2.2.2.1.2.1 hx1 hres) tw6_73 ks_L_limp (by decide +kernel) ⟨by decide, by decide⟩ ⟨by omega, by omega⟩ ⟨by omega, by omega⟩ rfl rfl (Nat.le_of_ble_eq_true rfl) dL_law_1801 rfl ?_
  refine l_istore C [(5, .int (if res.1 = 0 then (0 : Int32) else 1)), (0, .ref b), (1, .ref (zc Z 0)), (2, .ref (zm Z 0)), (3, .ref (zo Z)), (4, .int i4)] (by decide) rfl dL_law_1804 rfl ?_
  refine l_aload_n C 3 rfl dL_law_1806 rfl ?_
  refine l_aload_n C 1 rfl dL_law_1807 rfl ?_
  refine l_iload C 5 rfl dL_law_1808 rfl ?_
  refine l_iconst C 1 (by decide) dL_law_1810 rfl ?_
  refine l_iadd C dL_law_1811 rfl ?_
  refine l_sld C (6 * j + 1) (by rw [hi]; exact l_ix 1 (by decide)) ⟨by omega, by omega⟩ dL_law_1812 rfl ?_
  refine l_aload_n C 1 rfl dL_law_1813 rfl ?_
  refine l_iload C 5 rfl dL_law_1814 rfl ?_
  refine l_iconst C 2 (by decide) dL_law_1816 rfl ?_
  refine l_iadd C dL_law_1817 rfl ?_
  refine l_sld C (6 * j + 2) (by rw [hi]; exact l_ix 2 (by decide)) ⟨by omega, by omega⟩ dL_law_1818 rfl ?_
  refine l_callMi C (n := 2) (As := [.int (xv (6 * j + 1)), .int (xv (6 * j + 2))]) (st := []) (cfX11_limp Z.1 Z.2.1 Z.2.2.1 Z.2.2.2.2.2.1 C.2.1.2.1.2 hm1) tw9_25 cy_X11_limp (by decide +kernel) ⟨by decide, by decide⟩ ⟨by omega, by omega⟩ rfl rfl (Nat.le_of_ble_eq_true rfl) dL_law_1819 rfl ?_
  refine l_istore C [(6, .int r), (5, .int (if res.1 = 0 then (0 : Int32) else 1)), (0, .ref b), (1, .ref (zc Z 0)), (2, .ref (zm Z 0)), (3, .ref (zo Z)), (4, .int i4)] (by decide) rfl dL_law_1822 rfl ?_
  refine l_aload_n C 4 rfl dL_law_1824 rfl ?_
  refine l_callMi C (n := 0) (As := []) (st := []) (cfX11_thrown (F := 0) Z.1 Z.2.1 Z.2.2.1 Z.2.2.2.2.2.1 C.2.1.2.1.2 (r := τ' 0 4) rfl) tw7_105 cy_X11_thrown (by decide +kernel) ⟨by decide, by decide⟩ ⟨by omega, by omega⟩ rfl rfl (Nat.le_of_ble_eq_true rfl) dL_law_1825 rfl ?_
  refine l_iload C 1 rfl dL_law_1828 rfl ?_
  refine l_eqT (q := 1835) C hk dL_law_1830 (by decide) ?_
  refine l_iload C 1 rfl dL_law_1835 rfl ?_
  refine l_ifne (qt := 1852) C dL_law_1837 (by decide) rfl (fun _ => ?_) (fun hz => ?_)
  · refine l_goto (q := 2062) C dL_law_1852 (by decide) ?_
    exact l_sub [2, 3, 4, 5, 6] rfl (kend _ _ _ hR')
  · have h0 : res.1 = 0 := by
      rcases hres with h | h
      · exact h
      · rw [h] at hz; exact absurd hz (by decide)
    refine l_aload_n C 5 rfl dL_law_1840 rfl ?_
    refine l_iconst C 0 (by decide) dL_law_1841 rfl ?_
    refine l_laload C dL_law_1842 rfl ?_
    refine l_iload C 0 rfl dL_law_1843 rfl ?_
    refine l_i2l C dL_law_1845 rfl ?_
    refine l_lcmp C dL_law_1846 rfl ?_
    refine l_zeroT (q := 1852) C (by rw [if_pos h0, ← hv h0]; exact lgc _) dL_law_1847 (by decide) ?_
    refine l_goto (q := 2062) C dL_law_1852 (by decide) ?_
    exact l_sub [2, 3, 4, 5, 6] rfl (kend _ _ _ hR')
def Sm_forget (F : Nat) (Rl : St → St → Prop) : Prop := ∀ (σ τ : St), Rl σ τ → ∃ (σ' τ' : St), fX10_forget F σ = some σ' ∧ fX11_forget F τ = some τ' ∧ Rl σ' τ'
set_option maxRecDepth 20000 in
theorem lc_forget {X : XT} {Z : ZT} {b L : Nat} {xv : Nat → Int32} (C : CL X Z b L xv) (hst : X.2.1.stackTraces = false) {F : Nat} {Rl : St → St → Prop} (S : Sm_forget F Rl) {j : Nat} {i4 : Int32} (hi : i4 = nI (6 * j)) (hj : 6 * j + 6 ≤ L) (hL : L ≤ 3072) {σ τ : St} {f : Nat → Int64} (hR : Rl σ τ) (kend : ∀ (σ' τ' : St) (f' : Nat → Int64), Rl σ' τ' → WL X Z (131 + 6 * (j + 1)) (18958 + 36 * (j + 1)) 2062 σ' τ' f' (lvL Z b i4) []) : WL X Z (131 + 6 * j) (18958 + 36 * j) 1855 σ τ f (lvL Z b i4) [] := by
  obtain ⟨σ', τ', hx1, hm1, hR'⟩ := S σ τ hR
  refine l_aload_n C 1 rfl dL_law_1855 rfl ?_
  refine l_callCv C (n := 0) (As := []) (st := []) (cfX10_forget Z.1 Z.2.1 Z.2.2.2.2.1 C.2.1.2.1.1 hx1) tw3_16 cy_X10_forget (by decide +kernel) ⟨by decide, by decide⟩ ⟨by omega, by omega⟩ rfl rfl (Nat.le_of_ble_eq_true rfl) dL_law_1856 rfl ?_
  refine l_aload_n C 2 rfl dL_law_1859 rfl ?_
  refine l_callMv C (n := 0) (As := []) (st := []) (cfX11_forget Z.1 Z.2.1 Z.2.2.1 Z.2.2.2.2.2.1 C.2.1.2.1.2 hm1) tw9_33 cy_X11_forget (by decide +kernel) ⟨by decide, by decide⟩ ⟨by omega, by omega⟩ rfl rfl (Nat.le_of_ble_eq_true rfl) dL_law_1860 rfl ?_
  refine l_goto (q := 2062) C dL_law_1863 (by decide) ?_
  exact l_wid (by omega) (by omega) (kend _ _ _ hR')
theorem ks_L_game : Cond.static yL_game ∈ BG ∧ Cond.initialized (yL_game).cls ∈ BG ∧ Cond.codeWith yL_game cL_game 7 (some .int) [(0, 14, 17, 18), (0, 14, 21, 13)] ∈ BG := ⟨tw6_99, tw1_0, BG_t6 100 (by decide +kernel) (by decide +kernel)⟩
def Sm_game (F : Nat) (Rl : St → St → Prop) : Prop := ∀ (σ τ : St) (a0 a1 a2 a3 : Int32), Rl σ τ → ∃ (res : Nat × Int32 × St) (r : Int32) (τ' : St), fX10_game F σ a0 a1 a2 a3 = some res ∧ (res.1 = 0 ∨ res.1 = 1 ∨ res.1 = 2) ∧ fX11_game F τ a0 a1 a2 a3 = some (r, τ') ∧ τ' 0 4 = (if res.1 = 0 then (0 : Int32) else if res.1 = 1 then 1 else 2) ∧ (res.1 = 0 → res.2.1 = r) ∧ Rl res.2.2 τ'
set_option maxRecDepth 20000 in
theorem lc_game {X : XT} {Z : ZT} {b L : Nat} {xv : Nat → Int32} (C : CL X Z b L xv) (hst : X.2.1.stackTraces = false) {F : Nat} {Rl : St → St → Prop} (S : Sm_game F Rl) {j : Nat} {i4 : Int32} (hi : i4 = nI (6 * j)) (hj : 6 * j + 6 ≤ L) (hL : L ≤ 3072) {σ τ : St} {f : Nat → Int64} (hR : Rl σ τ) (kend : ∀ (σ' τ' : St) (f' : Nat → Int64), Rl σ' τ' → WL X Z (131 + 6 * (j + 1)) (18958 + 36 * (j + 1)) 2062 σ' τ' f' (lvL Z b i4) []) : WL X Z (131 + 6 * j) (18958 + 36 * j) 1866 σ τ f (lvL Z b i4) [] := by
  obtain ⟨res, r, τ', hx1, hres, hm1, hk, hv, hR'⟩ := S σ τ (xv (6 * j + 1)) (xv (6 * j + 2)) (xv (6 * j + 3)) (xv (6 * j + 4)) hR
  refine l_aload_n C 1 rfl dL_law_1866 rfl ?_
  refine l_aload_n C 0 rfl dL_law_1867 rfl ?_
  refine l_iload C 4 rfl dL_law_1868 rfl ?_
  refine l_iconst C 1 (by decide) dL_law_1870 rfl ?_
  refine l_iadd C dL_law_1871 rfl ?_
  refine l_sld C (6 * j + 1) (by rw [hi]; exact l_ix 1 (by decide)) ⟨by omega, by omega⟩ dL_law_1872 rfl ?_
  refine l_aload_n C 0 rfl dL_law_1873 rfl ?_
  refine l_iload C 4 rfl dL_law_1874 rfl ?_
  refine l_iconst C 2 (by decide) dL_law_1876 rfl ?_
  refine l_iadd C dL_law_1877 rfl ?_
  refine l_sld C (6 * j + 2) (by rw [hi]; exact l_ix 2 (by decide)) ⟨by omega, by omega⟩ dL_law_1878 rfl ?_
  refine l_aload_n C 0 rfl dL_law_1879 rfl ?_
  refine l_iload C 4 rfl dL_law_1880 rfl ?_
  refine l_iconst C 3 (by decide) dL_law_1882 rfl ?_
  refine l_iadd C dL_law_1883 rfl ?_
  refine l_sld C (6 * j + 3) (by rw [hi]; exact l_ix 3 (by decide)) ⟨by omega, by omega⟩ dL_law_1884 rfl ?_
  refine l_aload_n C 0 rfl dL_law_1885 rfl ?_
  refine l_iload C 4 rfl dL_law_1886 rfl ?_
  refine l_iconst C 4 (by decide) dL_law_1888 rfl ?_
  refine l_iadd C dL_law_1889 rfl ?_
  refine l_sld C (6 * j + 4) (by rw [hi]; exact l_ix 4 (by decide)) ⟨by omega, by omega⟩ dL_law_1890 rfl ?_
  refine l_aload_n C 3 rfl dL_law_1891 rfl ?_
  refine l_callW C (n := 6) (As := [.ref (zc Z 0), .int (xv (6 * j + 1)), .int (xv (6 * j + 2)), .int (xv (6 * j + 3)), .int (xv (6 * j + 4)), .ref (zo Z)]) (st := []) (c2 := 131 + 6 * (j + 1)) (s2 := 18958 + 36 * (j + 1)) (mw_L_game Z.1 Z.2.1 (zL Z) Z.2.2.2.2.1 (zo Z) C.2.1.2.1.1 hst C.2.1.2.2.2.1.2.1 hx1 hres) tw6_98 ks_L_game (by decide +kernel) ⟨by decide, by decide⟩ ⟨by omega, by omega⟩ ⟨by omega, by omega⟩ rfl rfl (Nat.le_of_ble_eq_true rfl) dL_law_1892 rfl ?_
  refine l_istore C [(5, .int (if res.1 = 0 then (0 : Int32) else if res.1 = 1 then 1 else 2)), (0, .ref b), (1, .ref (zc Z 0)), (2, .ref (zm Z 0)), (3, .ref (zo Z)), (4, .int i4)] (by decide) rfl dL_law_1895 rfl ?_
  refine l_aload_n C 3 rfl dL_law_1897 rfl ?_
  refine l_aload_n C 1 rfl dL_law_1898 rfl ?_
  refine l_iload C 5 rfl dL_law_1899 rfl ?_
  refine l_iconst C 1 (by decide) dL_law_1901 rfl ?_
  refine l_iadd C dL_law_1902 rfl ?_
  refine l_sld C (6 * j + 1) (by rw [hi]; exact l_ix 1 (by decide)) ⟨by omega, by omega⟩ dL_law_1903 rfl ?_
  refine l_aload_n C 1 rfl dL_law_1904 rfl ?_
  refine l_iload C 5 rfl dL_law_1905 rfl ?_
  refine l_iconst C 2 (by decide) dL_law_1907 rfl ?_
  refine l_iadd C dL_law_1908 rfl ?_
  refine l_sld C (6 * j + 2) (by rw [hi]; exact l_ix 2 (by decide)) ⟨by omega, by omega⟩ dL_law_1909 rfl ?_
  refine l_aload_n C 1 rfl dL_law_1910 rfl ?_
  refine l_iload C 5 rfl dL_law_1911 rfl ?_
  refine l_iconst C 3 (by decide) dL_law_1913 rfl ?_
  refine l_iadd C dL_law_1914 rfl ?_
  refine l_sld C (6 * j + 3) (by rw [hi]; exact l_ix 3 (by decide)) ⟨by omega, by omega⟩ dL_law_1915 rfl ?_
  refine l_aload_n C 1 rfl dL_law_1916 rfl ?_
  refine l_iload C 5 rfl dL_law_1917 rfl ?_
  refine l_iconst C 4 (by decide) dL_law_1919 rfl ?_
  refine l_iadd C dL_law_1920 rfl ?_
  refine l_sld C (6 * j + 4) (by rw [hi]; exact l_ix 4 (by decide)) ⟨by omega, by omega⟩ dL_law_1921 rfl ?_
  refine l_callMi C (n := 4) (As := [.int (xv (6 * j + 1)), .int (xv (6 * j + 2)), .int (xv (6 * j + 3)), .int (xv (6 * j + 4))]) (st := []) (cfX11_game Z.1 Z.2.1 Z.2.2.1 Z.2.2.2.2.2.1 C.2.1.2.1.2 hm1) tw9_37 cy_X11_game (by decide +kernel) ⟨by decide, by decide⟩ ⟨by omega, by omega⟩ rfl rfl (Nat.le_of_ble_eq_true rfl) dL_law_1922 rfl ?_
  refine l_istore C [(6, .int r), (5, .int (if res.1 = 0 then (0 : Int32) else if res.1 = 1 then 1 else 2)), (0, .ref b), (1, .ref (zc Z 0)), (2, .ref (zm Z 0)), (3, .ref (zo Z)), (4, .int i4)] (by decide) rfl dL_law_1925 rfl ?_
  refine l_aload_n C 4 rfl dL_law_1927 rfl ?_
  refine l_callMi C (n := 0) (As := []) (st := []) (cfX11_thrown (F := 0) Z.1 Z.2.1 Z.2.2.1 Z.2.2.2.2.2.1 C.2.1.2.1.2 (r := τ' 0 4) rfl) tw7_105 cy_X11_thrown (by decide +kernel) ⟨by decide, by decide⟩ ⟨by omega, by omega⟩ rfl rfl (Nat.le_of_ble_eq_true rfl) dL_law_1928 rfl ?_
  refine l_iload C 1 rfl dL_law_1931 rfl ?_
  refine l_eqT (q := 1938) C hk dL_law_1933 (by decide) ?_
  refine l_iload C 1 rfl dL_law_1938 rfl ?_
  refine l_ifne (qt := 1955) C dL_law_1940 (by decide) rfl (fun _ => ?_) (fun hz => ?_)
  · refine l_goto (q := 2062) C dL_law_1955 (by decide) ?_
    exact l_sub [2, 3, 4, 5, 6] rfl (kend _ _ _ hR')
  · have h0 : res.1 = 0 := by
      rcases hres with h | h | h
      · exact h
      · rw [h] at hz; exact absurd hz (by decide)
      · rw [h] at hz; exact absurd hz (by decide)
    refine l_aload_n C 5 rfl dL_law_1943 rfl ?_
    refine l_iconst C 0 (by decide) dL_law_1944 rfl ?_
    refine l_laload C dL_law_1945 rfl ?_
    refine l_iload C 0 rfl dL_law_1946 rfl ?_
    refine l_i2l C dL_law_1948 rfl ?_
    refine l_lcmp C dL_law_1949 rfl ?_
    refine l_zeroT (q := 1955) C (by rw [if_pos h0, ← hv h0]; exact lgc _) dL_law_1950 (by decide) ?_
    refine l_goto (q := 2062) C dL_law_1955 (by decide) ?_
    exact l_sub [2, 3, 4, 5, 6] rfl (kend _ _ _ hR')
theorem ks_L_century : Cond.static yL_century ∈ BG ∧ Cond.initialized (yL_century).cls ∈ BG ∧ Cond.codeWith yL_century cL_century 6 (some .int) [(0, 12, 15, 18), (0, 12, 19, 13)] ∈ BG := ⟨tw6_119, tw1_0, BG_t6 120 (by decide +kernel) (by decide +kernel)⟩
def Sm_century (F : Nat) (Rl : St → St → Prop) : Prop := ∀ (σ τ : St) (a0 a1 a2 : Int32), Rl σ τ → ∃ (res : Nat × Int32 × St) (r : Int32) (τ' : St), fX10_century F σ a0 a1 a2 = some res ∧ (res.1 = 0 ∨ res.1 = 1 ∨ res.1 = 2) ∧ fX11_century F τ a0 a1 a2 = some (r, τ') ∧ τ' 0 4 = (if res.1 = 0 then (0 : Int32) else if res.1 = 1 then 1 else 2) ∧ (res.1 = 0 → res.2.1 = r) ∧ Rl res.2.2 τ'
set_option maxRecDepth 20000 in
theorem lc_century {X : XT} {Z : ZT} {b L : Nat} {xv : Nat → Int32} (C : CL X Z b L xv) (hst : X.2.1.stackTraces = false) {F : Nat} {Rl : St → St → Prop} (S : Sm_century F Rl) {j : Nat} {i4 : Int32} (hi : i4 = nI (6 * j)) (hj : 6 * j + 6 ≤ L) (hL : L ≤ 3072) {σ τ : St} {f : Nat → Int64} (hR : Rl σ τ) (kend : ∀ (σ' τ' : St) (f' : Nat → Int64), Rl σ' τ' → WL X Z (131 + 6 * (j + 1)) (18958 + 36 * (j + 1)) 2062 σ' τ' f' (lvL Z b i4) []) : WL X Z (131 + 6 * j) (18958 + 36 * j) 1958 σ τ f (lvL Z b i4) [] := by
  obtain ⟨res, r, τ', hx1, hres, hm1, hk, hv, hR'⟩ := S σ τ (xv (6 * j + 1)) (xv (6 * j + 2)) (xv (6 * j + 3)) hR
  refine l_aload_n C 1 rfl dL_law_1958 rfl ?_
  refine l_aload_n C 0 rfl dL_law_1959 rfl ?_
  refine l_iload C 4 rfl dL_law_1960 rfl ?_
  refine l_iconst C 1 (by decide) dL_law_1962 rfl ?_
  refine l_iadd C dL_law_1963 rfl ?_
  refine l_sld C (6 * j + 1) (by rw [hi]; exact l_ix 1 (by decide)) ⟨by omega, by omega⟩ dL_law_1964 rfl ?_
  refine l_aload_n C 0 rfl dL_law_1965 rfl ?_
  refine l_iload C 4 rfl dL_law_1966 rfl ?_
  refine l_iconst C 2 (by decide) dL_law_1968 rfl ?_
  refine l_iadd C dL_law_1969 rfl ?_
  refine l_sld C (6 * j + 2) (by rw [hi]; exact l_ix 2 (by decide)) ⟨by omega, by omega⟩ dL_law_1970 rfl ?_
  refine l_aload_n C 0 rfl dL_law_1971 rfl ?_
  refine l_iload C 4 rfl dL_law_1972 rfl ?_
  refine l_iconst C 3 (by decide) dL_law_1974 rfl ?_
  refine l_iadd C dL_law_1975 rfl ?_
  refine l_sld C (6 * j + 3) (by rw [hi]; exact l_ix 3 (by decide)) ⟨by omega, by omega⟩ dL_law_1976 rfl ?_
  refine l_aload_n C 3 rfl dL_law_1977 rfl ?_
  refine l_callW C (n := 5) (As := [.ref (zc Z 0), .int (xv (6 * j + 1)), .int (xv (6 * j + 2)), .int (xv (6 * j + 3)), .ref (zo Z)]) (st := []) (c2 := 131 + 6 * (j + 1)) (s2 := 18958 + 36 * (j + 1)) (mw_L_century Z.1 Z.2.1 (zL Z) Z.2.2.2.2.1 (zo Z) C.2.1.2.1.1 hst C.2.1.2.2.2.1.2.1 hx1 hres) tw6_118 ks_L_century (by decide +kernel) ⟨by decide, by decide⟩ ⟨by omega, by omega⟩ ⟨by omega, by omega⟩ rfl rfl (Nat.le_of_ble_eq_true rfl) dL_law_1978 rfl ?_
  refine l_istore C [(5, .int (if res.1 = 0 then (0 : Int32) else if res.1 = 1 then 1 else 2)), (0, .ref b), (1, .ref (zc Z 0)), (2, .ref (zm Z 0)), (3, .ref (zo Z)), (4, .int i4)] (by decide) rfl dL_law_1981 rfl ?_
  refine l_aload_n C 3 rfl dL_law_1983 rfl ?_
  refine l_aload_n C 1 rfl dL_law_1984 rfl ?_
  refine l_iload C 5 rfl dL_law_1985 rfl ?_
  refine l_iconst C 1 (by decide) dL_law_1987 rfl ?_
  refine l_iadd C dL_law_1988 rfl ?_
  refine l_sld C (6 * j + 1) (by rw [hi]; exact l_ix 1 (by decide)) ⟨by omega, by omega⟩ dL_law_1989 rfl ?_
  refine l_aload_n C 1 rfl dL_law_1990 rfl ?_
  refine l_iload C 5 rfl dL_law_1991 rfl ?_
  refine l_iconst C 2 (by decide) dL_law_1993 rfl ?_
  refine l_iadd C dL_law_1994 rfl ?_
  refine l_sld C (6 * j + 2) (by rw [hi]; exact l_ix 2 (by decide)) ⟨by omega, by omega⟩ dL_law_1995 rfl ?_
  refine l_aload_n C 1 rfl dL_law_1996 rfl ?_
  refine l_iload C 5 rfl dL_law_1997 rfl ?_
  refine l_iconst C 3 (by decide) dL_law_1999 rfl ?_
  refine l_iadd C dL_law_2000 rfl ?_
  refine l_sld C (6 * j + 3) (by rw [hi]; exact l_ix 3 (by decide)) ⟨by omega, by omega⟩ dL_law_2001 rfl ?_
  refine l_callMi C (n := 3) (As := [.int (xv (6 * j + 1)), .int (xv (6 * j + 2)), .int (xv (6 * j + 3))]) (st := []) (cfX11_century Z.1 Z.2.1 Z.2.2.1 Z.2.2.2.2.2.1 C.2.1.2.1.2 hm1) tw9_45 cy_X11_century (by decide +kernel) ⟨by decide, by decide⟩ ⟨by omega, by omega⟩ rfl rfl (Nat.le_of_ble_eq_true rfl) dL_law_2002 rfl ?_
  refine l_istore C [(6, .int r), (5, .int (if res.1 = 0 then (0 : Int32) else if res.1 = 1 then 1 else 2)), (0, .ref b), (1, .ref (zc Z 0)), (2, .ref (zm Z 0)), (3, .ref (zo Z)), (4, .int i4)] (by decide) rfl dL_law_2005 rfl ?_
  refine l_aload_n C 4 rfl dL_law_2007 rfl ?_
  refine l_callMi C (n := 0) (As := []) (st := []) (cfX11_thrown (F := 0) Z.1 Z.2.1 Z.2.2.1 Z.2.2.2.2.2.1 C.2.1.2.1.2 (r := τ' 0 4) rfl) tw7_105 cy_X11_thrown (by decide +kernel) ⟨by decide, by decide⟩ ⟨by omega, by omega⟩ rfl rfl (Nat.le_of_ble_eq_true rfl) dL_law_2008 rfl ?_
  refine l_iload C 1 rfl dL_law_2011 rfl ?_
  refine l_eqT (q := 2018) C hk dL_law_2013 (by decide) ?_
  refine l_iload C 1 rfl dL_law_2018 rfl ?_
  refine l_ifne (qt := 2035) C dL_law_2020 (by decide) rfl (fun _ => ?_) (fun hz => ?_)
  · refine l_goto (q := 2062) C dL_law_2035 (by decide) ?_
    exact l_sub [2, 3, 4, 5, 6] rfl (kend _ _ _ hR')
  · have h0 : res.1 = 0 := by
      rcases hres with h | h | h
      · exact h
      · rw [h] at hz; exact absurd hz (by decide)
      · rw [h] at hz; exact absurd hz (by decide)
    refine l_aload_n C 5 rfl dL_law_2023 rfl ?_
    refine l_iconst C 0 (by decide) dL_law_2024 rfl ?_
    refine l_laload C dL_law_2025 rfl ?_
    refine l_iload C 0 rfl dL_law_2026 rfl ?_
    refine l_i2l C dL_law_2028 rfl ?_
    refine l_lcmp C dL_law_2029 rfl ?_
    refine l_zeroT (q := 2035) C (by rw [if_pos h0, ← hv h0]; exact lgc _) dL_law_2030 (by decide) ?_
    refine l_goto (q := 2062) C dL_law_2035 (by decide) ?_
    exact l_sub [2, 3, 4, 5, 6] rfl (kend _ _ _ hR')
def Sm_image (F : Nat) (Rl : St → St → Prop) : Prop := ∀ (σ τ : St), Rl σ τ → ∃ (σ' τ' : St), fX10_image F σ = some σ' ∧ fX11_image F τ = some τ' ∧ Rl σ' τ'
set_option maxRecDepth 20000 in
theorem lc_image {X : XT} {Z : ZT} {b L : Nat} {xv : Nat → Int32} (C : CL X Z b L xv) (hst : X.2.1.stackTraces = false) {F : Nat} {Rl : St → St → Prop} (S : Sm_image F Rl) {j : Nat} {i4 : Int32} (hi : i4 = nI (6 * j)) (hj : 6 * j + 6 ≤ L) (hL : L ≤ 3072) {σ τ : St} {f : Nat → Int64} (hR : Rl σ τ) (kend : ∀ (σ' τ' : St) (f' : Nat → Int64), Rl σ' τ' → WL X Z (131 + 6 * (j + 1)) (18958 + 36 * (j + 1)) 2062 σ' τ' f' (lvL Z b i4) []) : WL X Z (131 + 6 * j) (18958 + 36 * j) 2038 σ τ f (lvL Z b i4) [] := by
  obtain ⟨σ', τ', hx1, hm1, hR'⟩ := S σ τ hR
  refine l_aload_n C 1 rfl dL_law_2038 rfl ?_
  refine l_callCv C (n := 0) (As := []) (st := []) (cfX10_image Z.1 Z.2.1 Z.2.2.2.2.1 C.2.1.2.1.1 hx1) tw3_20 cy_X10_image (by decide +kernel) ⟨by decide, by decide⟩ ⟨by omega, by omega⟩ rfl rfl (Nat.le_of_ble_eq_true rfl) dL_law_2039 rfl ?_
  refine l_aload_n C 2 rfl dL_law_2042 rfl ?_
  refine l_callMv C (n := 0) (As := []) (st := []) (cfX11_image Z.1 Z.2.1 Z.2.2.1 Z.2.2.2.2.2.1 C.2.1.2.1.2 hm1) tw9_55 cy_X11_image (by decide +kernel) ⟨by decide, by decide⟩ ⟨by omega, by omega⟩ rfl rfl (Nat.le_of_ble_eq_true rfl) dL_law_2043 rfl ?_
  refine l_goto (q := 2062) C dL_law_2046 (by decide) ?_
  exact l_wid (by omega) (by omega) (kend _ _ _ hR')
def Sm_restore (F : Nat) (Rl : St → St → Prop) : Prop := ∀ (σ τ : St), Rl σ τ → ∃ (r : Int32) (σ' τ' : St), fX10_restore F σ = some (r, σ') ∧ fX11_restore F τ = some (r, τ') ∧ Rl σ' τ'
set_option maxRecDepth 20000 in
theorem lc_restore {X : XT} {Z : ZT} {b L : Nat} {xv : Nat → Int32} (C : CL X Z b L xv) (hst : X.2.1.stackTraces = false) {F : Nat} {Rl : St → St → Prop} (S : Sm_restore F Rl) {j : Nat} {i4 : Int32} (hi : i4 = nI (6 * j)) (hj : 6 * j + 6 ≤ L) (hL : L ≤ 3072) {σ τ : St} {f : Nat → Int64} (hR : Rl σ τ) (kend : ∀ (σ' τ' : St) (f' : Nat → Int64), Rl σ' τ' → WL X Z (131 + 6 * (j + 1)) (18958 + 36 * (j + 1)) 2062 σ' τ' f' (lvL Z b i4) []) : WL X Z (131 + 6 * j) (18958 + 36 * j) 2049 σ τ f (lvL Z b i4) [] := by
  obtain ⟨r, σ', τ', hx1, hm1, hR'⟩ := S σ τ hR
  refine l_aload_n C 1 rfl dL_law_2049 rfl ?_
  refine l_callCi C (n := 0) (As := []) (st := []) (cfX10_restore Z.1 Z.2.1 Z.2.2.2.2.1 C.2.1.2.1.1 hx1) tw3_28 cy_X10_restore (by decide +kernel) ⟨by decide, by decide⟩ ⟨by omega, by omega⟩ rfl rfl (Nat.le_of_ble_eq_true rfl) dL_law_2050 rfl ?_
  refine l_aload_n C 2 rfl dL_law_2053 rfl ?_
  refine l_callMi C (n := 0) (As := []) (st := [.int r]) (cfX11_restore Z.1 Z.2.1 Z.2.2.1 Z.2.2.2.2.2.1 C.2.1.2.1.2 hm1) tw9_62 cy_X11_restore (by decide +kernel) ⟨by decide, by decide⟩ ⟨by omega, by omega⟩ rfl rfl (Nat.le_of_ble_eq_true rfl) dL_law_2054 rfl ?_
  refine l_eqT (q := 2062) C rfl dL_law_2057 (by decide) ?_
  exact l_wid (by omega) (by omega) (kend _ _ _ hR')
def Sim (F : Nat) (Rl : St → St → Prop) : Prop := Sm_feed F Rl ∧ Sm_ball F Rl ∧ Sm_fault F Rl ∧ Sm_count F Rl ∧ Sm_knees F Rl ∧ Sm_dance F Rl ∧ Sm_step F Rl ∧ Sm_where F Rl ∧ Sm_bound F Rl ∧ Sm_clauses F Rl ∧ Sm_done F Rl ∧ Sm_years F Rl ∧ Sm_again F Rl ∧ Sm_breaks F Rl ∧ Sm_stumble F Rl ∧ Sm_act F Rl ∧ Sm_undo F Rl ∧ Sm_mend F Rl ∧ Sm_costly F Rl ∧ Sm_later F Rl ∧ Sm_inTime F Rl ∧ Sm_apart F Rl ∧ Sm_against F Rl ∧ Sm_help F Rl ∧ Sm_evenings F Rl ∧ Sm_see F Rl ∧ Sm_limp F Rl ∧ Sm_forget F Rl ∧ Sm_game F Rl ∧ Sm_century F Rl ∧ Sm_image F Rl ∧ Sm_restore F Rl
