/-! METHODS THAT THROW: NoSuchElementException (1), IllegalArgumentException (2), out of "DancedPacts" -/
abbrev cNSE : String := "java/util/NoSuchElementException"
abbrev cIAE : String := "java/lang/IllegalArgumentException"
abbrev xNames : List String := ["java/lang/RuntimeException", "java/lang/Exception"]
def xWords : List Cond := [.declares ⟨"java/lang/RuntimeException", "<init>", "(Ljava/lang/String;)V"⟩, .declares ⟨"java/lang/Exception", "<init>", "(Ljava/lang/String;)V"⟩, .declares ⟨"java/lang/Throwable", "<init>", "(Ljava/lang/String;)V"⟩, .castable cNSE cNSE, .castable cIAE cIAE]
theorem xat1 : ∀ w ∈ nNo.filter goodWord, w ∈ BG := fun w h => BG_of ((show ∀ w ∈ nNo.filter goodWord, w ∈ lw_tbl by decide +kernel) w h) (List.mem_filter.mp h).2
theorem xbt1 : ∀ w ∈ nNo.filter (fun w => !goodWord w), w ∈ xWords := by decide +kernel
theorem xg1 : ∀ w ∈ Cond.classLink RX10 156 nN :: Cond.initialized nN :: nNo, vx_ot w = true := by decide +kernel
theorem xat2 : ∀ w ∈ (vx_atS RX10 107 cIAE xNames).filter goodWord, w ∈ BG := fun w h => BG_of ((show ∀ w ∈ (vx_atS RX10 107 cIAE xNames).filter goodWord, w ∈ lw_tbl by decide +kernel) w h) (List.mem_filter.mp h).2
theorem xbt2 : ∀ w ∈ (vx_atS RX10 107 cIAE xNames).filter (fun w => !goodWord w), w ∈ xWords := by decide +kernel
theorem xg2 : ∀ w ∈ Cond.classLink RX10 103 cIAE :: Cond.initialized cIAE :: vx_atS RX10 107 cIAE xNames, vx_ot w = true := by decide +kernel
theorem xw1 : Cond.classLink RX10 156 cNSE ∈ BG ∧ Cond.initialized cNSE ∈ BG := ⟨BG_of (by decide +kernel) (by decide +kernel), BG_of (by decide +kernel) (by decide +kernel)⟩
theorem xw2 : Cond.classLink RX10 103 cIAE ∈ BG ∧ Cond.initialized cIAE ∈ BG := ⟨BG_of (by decide +kernel) (by decide +kernel), BG_of (by decide +kernel) (by decide +kernel)⟩
def exC (E : String) (c : Nat) : Prop := (E = cNSE ∧ c = 1) ∨ (E = cIAE ∧ c = 2)
section THR
variable {X : XT} {G : GT} {cc : ByteArray} {nL : Nat} {own : String} {fr lo rc cn : Nat} {pc q : Nat} {σ : St} {lv : List (Nat × Value)} {st : List Value}
theorem w_wid {k : Nat} (h : cn ≤ k) (kk : WP X G nL k pc σ lv st) : WP X G nL cn pc σ lv st := fun H locs ls hl hP hS => W.widen h (by omega) (kk H locs ls hl hP hS)
def RetXi (X : XT) (G : GT) (cc : ByteArray) (nL rc : Nat) (res : Nat × Int32 × St) : Prop := ∀ (cn pc : Nat) (lv : List (Nat × Value)) (r : Int32) (σ' : St), cn ≤ rc → res = (0, r, σ') → decode cc pc = .ok (.ireturn, 1) → WP X G nL cn pc σ' lv [.int r]
def RetXz (X : XT) (G : GT) (cc : ByteArray) (nL rc : Nat) (res : Nat × Int32 × St) : Prop := ∀ (cn pc : Nat) (lv : List (Nat × Value)) (r : Int32) (σ' : St), cn ≤ rc → r &&& 1 = r → res = (0, r, σ') → decode cc pc = .ok (.ireturn, 1) → WP X G nL cn pc σ' lv [.int r]
def RetXv (X : XT) (G : GT) (cc : ByteArray) (nL rc : Nat) (σ : St) (res : Nat) : Prop := ∀ (cn pc : Nat) (lv : List (Nat × Value)), cn ≤ rc → res = 0 → decode cc pc = .ok (.return_, 1) → WP X G nL cn pc σ lv []
theorem w_rxi {r : Int32} {res : Nat × Int32 × St} (hr : RetXi X G cc nL rc res) (h : some (0, r, σ) = some res) (hrc : cn ≤ rc) (hdg : decode cc pc = .ok (.ireturn, 1)) : WP X G nL cn pc σ lv [.int r] := hr cn pc lv r σ hrc (Option.some.inj h).symm hdg
theorem w_rxz {r : Int32} {res : Nat × Int32 × St} (hr : RetXz X G cc nL rc res) (hz : r &&& 1 = r) (h : some (0, r, σ) = some res) (hrc : cn ≤ rc) (hdg : decode cc pc = .ok (.ireturn, 1)) : WP X G nL cn pc σ lv [.int r] := hr cn pc lv r σ hrc hz (Option.some.inj h).symm hdg
theorem w_rxv {res : Nat} (hr : RetXv X G cc nL rc σ res) (h : some 0 = some res) (hrc : cn ≤ rc) (hdg : decode cc pc = .ok (.return_, 1)) : WP X G nL cn pc σ lv [] := hr cn pc lv hrc (Option.some.inj h).symm hdg
/-- a throw of this method's own, at pc; and one that comes from a callee -/
def ThrA (X : XT) (G : GT) (cc : ByteArray) (nL rc : Nat) (P : Nat → St → Prop) : Prop :=
  (∀ (c ik ic : Nat), ((c = 1 ∧ ik = 156 ∧ ic = 160) ∨ (c = 2 ∧ ik = 103 ∧ ic = 107)) → ∀ (cn pc : Nat) (lv : List (Nat × Value)) (σ' : St) (is si : Nat) (tx : String), cn + 1 ≤ rc → P c σ' → (RX10, is, tx, si) ∈ strR → decode cc pc = .ok (.new ik, 3) → decode cc (pc + 3) = .ok (.dup, 1) →
    ((decode cc (pc + 4) = .ok (.ldc is, 2) ∧ decode cc (pc + 6) = .ok (.invokespecial ic, 3) ∧ decode cc (pc + 9) = .ok (.athrow, 1)) ∨ (decode cc (pc + 4) = .ok (.ldc_w is, 3) ∧ decode cc (pc + 7) = .ok (.invokespecial ic, 3) ∧ decode cc (pc + 10) = .ok (.athrow, 1))) → WP X G nL cn pc σ' lv []) ∧
  (∀ (cn pc : Nat) (ls : Array Slot) (st : List Value) (H : Heap) (locs : List Loc) (σ' : St) (E : String) (c : Nat) (ce : Cell) (q9 : Addr), cn ≤ rc → exC E c → P c σ' → va_P G.1 vwCl (wW G σ') H → va_S (AA G) (xs X).heap H locs → H[q9]? = some ce → ce.vm = .none → (xs X).vm.findClass E = some ce.cls →
    vx_W X.1 X.2.1 X.2.2.1 (xR X) (xs X) (xm X) (xa X) X.2.2.2.2.2.2.2.1 X.2.2.2.2.2.2.2.2.1 (xc X) H locs cn (6 * cn) X.2.2.2.2.2.2.2.2.2.2 (F0 (xm X) pc ls st) q9)
def ThrX (X : XT) (G : GT) (cc : ByteArray) (nL rc : Nat) (res : Nat × Int32 × St) : Prop := X.2.1.stackTraces = false ∧ ThrA X G cc nL rc (fun c u => res = (c, 0, u))
def ThrC (X : XT) (G : GT) (cc : ByteArray) (nL rc : Nat) (σ : St) (res : Nat) : Prop := X.2.1.stackTraces = false ∧ ThrA X G cc nL rc (fun c u => res = c ∧ u = σ)
theorem w_thr1 {res : Nat × Int32 × St} (hx : ThrX X G cc nL rc res) {tx : String} {is : Nat} (si : Nat) (hm : (RX10, is, tx, si) ∈ strR) (h : some (1, 0, σ) = some res) (hrc : cn + 1 ≤ rc) (d0 : decode cc pc = .ok (.new 156, 3)) (d3 : decode cc (pc + 3) = .ok (.dup, 1)) (d4 : decode cc (pc + 4) = .ok (.ldc is, 2)) (d6 : decode cc (pc + 6) = .ok (.invokespecial 160, 3)) (d9 : decode cc (pc + 9) = .ok (.athrow, 1)) : WP X G nL cn pc σ lv [] := hx.2.1 1 156 160 (Or.inl ⟨rfl, rfl, rfl⟩) cn pc lv σ is si tx hrc (Option.some.inj h).symm hm d0 d3 (Or.inl ⟨d4, d6, d9⟩)
theorem w_thc1 {res : Nat} (hx : ThrC X G cc nL rc σ res) {tx : String} {is : Nat} (si : Nat) (hm : (RX10, is, tx, si) ∈ strR) (h : some 1 = some res) (hrc : cn + 1 ≤ rc) (d0 : decode cc pc = .ok (.new 156, 3)) (d3 : decode cc (pc + 3) = .ok (.dup, 1)) (d4 : decode cc (pc + 4) = .ok (.ldc is, 2)) (d6 : decode cc (pc + 6) = .ok (.invokespecial 160, 3)) (d9 : decode cc (pc + 9) = .ok (.athrow, 1)) : WP X G nL cn pc σ lv [] := hx.2.1 1 156 160 (Or.inl ⟨rfl, rfl, rfl⟩) cn pc lv σ is si tx hrc ⟨(Option.some.inj h).symm, rfl⟩ hm d0 d3 (Or.inl ⟨d4, d6, d9⟩)
theorem w_thrW1 {res : Nat × Int32 × St} (hx : ThrX X G cc nL rc res) {tx : String} {is : Nat} (si : Nat) (hm : (RX10, is, tx, si) ∈ strR) (h : some (1, 0, σ) = some res) (hrc : cn + 1 ≤ rc) (d0 : decode cc pc = .ok (.new 156, 3)) (d3 : decode cc (pc + 3) = .ok (.dup, 1)) (d4 : decode cc (pc + 4) = .ok (.ldc_w is, 3)) (d6 : decode cc (pc + 7) = .ok (.invokespecial 160, 3)) (d9 : decode cc (pc + 10) = .ok (.athrow, 1)) : WP X G nL cn pc σ lv [] := hx.2.1 1 156 160 (Or.inl ⟨rfl, rfl, rfl⟩) cn pc lv σ is si tx hrc (Option.some.inj h).symm hm d0 d3 (Or.inr ⟨d4, d6, d9⟩)
theorem w_thcW1 {res : Nat} (hx : ThrC X G cc nL rc σ res) {tx : String} {is : Nat} (si : Nat) (hm : (RX10, is, tx, si) ∈ strR) (h : some 1 = some res) (hrc : cn + 1 ≤ rc) (d0 : decode cc pc = .ok (.new 156, 3)) (d3 : decode cc (pc + 3) = .ok (.dup, 1)) (d4 : decode cc (pc + 4) = .ok (.ldc_w is, 3)) (d6 : decode cc (pc + 7) = .ok (.invokespecial 160, 3)) (d9 : decode cc (pc + 10) = .ok (.athrow, 1)) : WP X G nL cn pc σ lv [] := hx.2.1 1 156 160 (Or.inl ⟨rfl, rfl, rfl⟩) cn pc lv σ is si tx hrc ⟨(Option.some.inj h).symm, rfl⟩ hm d0 d3 (Or.inr ⟨d4, d6, d9⟩)
theorem w_thr2 {res : Nat × Int32 × St} (hx : ThrX X G cc nL rc res) {tx : String} {is : Nat} (si : Nat) (hm : (RX10, is, tx, si) ∈ strR) (h : some (2, 0, σ) = some res) (hrc : cn + 1 ≤ rc) (d0 : decode cc pc = .ok (.new 103, 3)) (d3 : decode cc (pc + 3) = .ok (.dup, 1)) (d4 : decode cc (pc + 4) = .ok (.ldc is, 2)) (d6 : decode cc (pc + 6) = .ok (.invokespecial 107, 3)) (d9 : decode cc (pc + 9) = .ok (.athrow, 1)) : WP X G nL cn pc σ lv [] := hx.2.1 2 103 107 (Or.inr ⟨rfl, rfl, rfl⟩) cn pc lv σ is si tx hrc (Option.some.inj h).symm hm d0 d3 (Or.inl ⟨d4, d6, d9⟩)
theorem w_thc2 {res : Nat} (hx : ThrC X G cc nL rc σ res) {tx : String} {is : Nat} (si : Nat) (hm : (RX10, is, tx, si) ∈ strR) (h : some 2 = some res) (hrc : cn + 1 ≤ rc) (d0 : decode cc pc = .ok (.new 103, 3)) (d3 : decode cc (pc + 3) = .ok (.dup, 1)) (d4 : decode cc (pc + 4) = .ok (.ldc is, 2)) (d6 : decode cc (pc + 6) = .ok (.invokespecial 107, 3)) (d9 : decode cc (pc + 9) = .ok (.athrow, 1)) : WP X G nL cn pc σ lv [] := hx.2.1 2 103 107 (Or.inr ⟨rfl, rfl, rfl⟩) cn pc lv σ is si tx hrc ⟨(Option.some.inj h).symm, rfl⟩ hm d0 d3 (Or.inl ⟨d4, d6, d9⟩)
theorem w_thrW2 {res : Nat × Int32 × St} (hx : ThrX X G cc nL rc res) {tx : String} {is : Nat} (si : Nat) (hm : (RX10, is, tx, si) ∈ strR) (h : some (2, 0, σ) = some res) (hrc : cn + 1 ≤ rc) (d0 : decode cc pc = .ok (.new 103, 3)) (d3 : decode cc (pc + 3) = .ok (.dup, 1)) (d4 : decode cc (pc + 4) = .ok (.ldc_w is, 3)) (d6 : decode cc (pc + 7) = .ok (.invokespecial 107, 3)) (d9 : decode cc (pc + 10) = .ok (.athrow, 1)) : WP X G nL cn pc σ lv [] := hx.2.1 2 103 107 (Or.inr ⟨rfl, rfl, rfl⟩) cn pc lv σ is si tx hrc (Option.some.inj h).symm hm d0 d3 (Or.inr ⟨d4, d6, d9⟩)
theorem w_thcW2 {res : Nat} (hx : ThrC X G cc nL rc σ res) {tx : String} {is : Nat} (si : Nat) (hm : (RX10, is, tx, si) ∈ strR) (h : some 2 = some res) (hrc : cn + 1 ≤ rc) (d0 : decode cc pc = .ok (.new 103, 3)) (d3 : decode cc (pc + 3) = .ok (.dup, 1)) (d4 : decode cc (pc + 4) = .ok (.ldc_w is, 3)) (d6 : decode cc (pc + 7) = .ok (.invokespecial 107, 3)) (d9 : decode cc (pc + 10) = .ok (.athrow, 1)) : WP X G nL cn pc σ lv [] := hx.2.1 2 103 107 (Or.inr ⟨rfl, rfl, rfl⟩) cn pc lv σ is si tx hrc ⟨(Option.some.inj h).symm, rfl⟩ hm d0 d3 (Or.inr ⟨d4, d6, d9⟩)
/-- contracts: a check (void; it changes nothing), a method that answers or throws -/
def MC (l : Launch) (y : MethodName) (ws : List Cond) (fr lo rc : Nat) (G : GT) (av : List Value) (σ : St) (res : Nat) : Prop := vx_Met l y ws (rmK fr lo rc) (va_Pc av (PR G σ)) (va_Qv (fun u => u = σ ∧ res = 0) (BR G) (AA G)) (vx_X (fun u : St => u = σ) (fun E u t => exC E res ∧ BR G u t) (AA G)) rc (6 * rc) (AA G)
def MX (l : Launch) (y : MethodName) (ws : List Cond) (fr lo rc : Nat) (G : GT) (av : List Value) (σ : St) (res : Nat × Int32 × St) : Prop := vx_Met l y ws (rmK fr lo rc) (va_Pc av (PR G σ)) (va_Qi (fun x u => res = (0, x, u)) (BR G) (AA G)) (vx_X (fun u : St => ∃ c : Nat, res = (c, 0, u)) (fun E u t => (∀ c : Nat, res = (c, 0, u) → exC E c) ∧ BR G u t) (AA G)) rc (6 * rc) (AA G)
theorem w_callA (C : Cx X G cc nL own fr lo rc) {P : Nat → St → Prop} (hA : ThrA X G cc nL rc P) {ci index N n maxL fr' lo' rc' t : Nat} {Cn : String} {T : u_T} {fs As st' : List Value} {y : MethodName} {bytes : ByteArray} {ret : Option FieldType} (k : Nat) (hk : k < G.2.2.1) (he : G.2.2.2.2 k (σ k) = .inr (ci, fs)) (hc : vwCl[ci]? = some (Cn, T, N)) (hM : MC X.2.1 y (wB y bytes maxL ret) fr' lo' rc' G (.ref (gad G k) :: As) σ t) (hlk : Cond.methodLink own index y ∈ BG) (hy : Cond.instanceMethod y ∈ BG ∧ Cond.selects Cn y y ∈ BG ∧ Cond.initialized Cn ∈ BG ∧ Cond.code y bytes maxL ret ∈ BG) (hd : y.cls = Cn ∧ okY y n) (hR : fr' + 1 ≤ fr ∧ 8 + (maxL + 11) + lo' ≤ lo) (hrc : cn + rc' ≤ rc) (hn : As.length = n) (hst : st' = As.reverse ++ .ref (gad G k) :: st) (hcat : (st.map fun v => v.category).sum ≤ 8) (hdg : decode cc pc = .ok (.invokevirtual index, 3)) (hq : pc + 3 = q) (hthr : ¬ t = 0 → P t σ) (kk : t = 0 → WP X G nL (cn + rc') q σ lv st) : WP X G nL cn pc σ lv st' := by
  subst hq; subst hst
  intro H locs ls hl hP hS
  obtain ⟨C1, C2, C3, C4, C5, C6, C7, C8⟩ := C
  refine vx_callv (vx_runV (As := As) (rest := st) C1 hM (cwV n C1.2.2.2.2 (BG_in (wV_in hlk hy)) rfl rfl rfl hd ⟨by rw [C5]; exact hR.1, by rw [C6]; exact hR.2⟩) ⟨PR.blind, va_recv C2 hP hc (wW_get hk he), fun U hU hW => ⟨rfl, PR.at hP C2 C4 hS hU hW⟩⟩ rfl hn hl.1 rfl (lv_room hcat) hdg ⟨by rw [C7]; exact hrc, by rw [C8]; omega⟩) hS (fun q _ h => h) (fun q h => h) (fun q _ h => h) ?_ ?_
  · intro E ce q9 u t9 H1 locs1 ht _ hu hB _ _ hS1 hce hcv hcl
    subst hu
    rw [← Nat.mul_add]
    refine hA.2 (cn + rc') pc ls st H1 locs1 u E t ce q9 hrc hB.1 (hthr ?_) (by rw [← ht]; exact hB.2) hS1 hce hcv hcl
    intro h0
    rcases hB.1 with h | h <;> omega
  · intro u t9 H1 locs1 ht _ hw hB _ _ hS1
    obtain ⟨rfl, h0⟩ := hw
    rw [← Nat.mul_add]
    exact kk h0 H1 locs1 ls hl (by rw [← ht]; exact hB) hS1
theorem w_callX (C : Cx X G cc nL own fr lo rc) {res : Nat × Int32 × St} (hx : ThrX X G cc nL rc res) {ci index N n maxL fr' lo' rc' t : Nat} {Cn : String} {T : u_T} {fs As st' : List Value} {y : MethodName} {bytes : ByteArray} {ret : Option FieldType} {a : Option (Nat × Int32 × St)} (k : Nat) (hk : k < G.2.2.1) (he : G.2.2.2.2 k (σ k) = .inr (ci, fs)) (hc : vwCl[ci]? = some (Cn, T, N)) (hM : MC X.2.1 y (wB y bytes maxL ret) fr' lo' rc' G (.ref (gad G k) :: As) σ t) (hlk : Cond.methodLink own index y ∈ BG) (hy : Cond.instanceMethod y ∈ BG ∧ Cond.selects Cn y y ∈ BG ∧ Cond.initialized Cn ∈ BG ∧ Cond.code y bytes maxL ret ∈ BG) (hd : y.cls = Cn ∧ okY y n) (hR : fr' + 1 ≤ fr ∧ 8 + (maxL + 11) + lo' ≤ lo) (hrc : cn + rc' ≤ rc) (hn : As.length = n) (hst : st' = As.reverse ++ .ref (gad G k) :: st) (hcat : (st.map fun v => v.category).sum ≤ 8) (hdg : decode cc pc = .ok (.invokevirtual index, 3)) (hq : pc + 3 = q) (h : (if t = 0 then a else some (t, 0, σ)) = some res) (kk : a = some res → WP X G nL (cn + rc') q σ lv st) : WP X G nL cn pc σ lv st' :=
  w_callA C hx.2 k hk he hc hM hlk hy hd hR hrc hn hst hcat hdg hq (fun h0 => by rw [if_neg h0] at h; exact (Option.some.inj h).symm) (fun h0 => kk (by rw [if_pos h0] at h; exact h))
theorem w_callXc (C : Cx X G cc nL own fr lo rc) {res : Nat} (hx : ThrC X G cc nL rc σ res) {ci index N n maxL fr' lo' rc' t : Nat} {Cn : String} {T : u_T} {fs As st' : List Value} {y : MethodName} {bytes : ByteArray} {ret : Option FieldType} {a : Option Nat} (k : Nat) (hk : k < G.2.2.1) (he : G.2.2.2.2 k (σ k) = .inr (ci, fs)) (hc : vwCl[ci]? = some (Cn, T, N)) (hM : MC X.2.1 y (wB y bytes maxL ret) fr' lo' rc' G (.ref (gad G k) :: As) σ t) (hlk : Cond.methodLink own index y ∈ BG) (hy : Cond.instanceMethod y ∈ BG ∧ Cond.selects Cn y y ∈ BG ∧ Cond.initialized Cn ∈ BG ∧ Cond.code y bytes maxL ret ∈ BG) (hd : y.cls = Cn ∧ okY y n) (hR : fr' + 1 ≤ fr ∧ 8 + (maxL + 11) + lo' ≤ lo) (hrc : cn + rc' ≤ rc) (hn : As.length = n) (hst : st' = As.reverse ++ .ref (gad G k) :: st) (hcat : (st.map fun v => v.category).sum ≤ 8) (hdg : decode cc pc = .ok (.invokevirtual index, 3)) (hq : pc + 3 = q) (h : (if t = 0 then a else some t) = some res) (kk : a = some res → WP X G nL (cn + rc') q σ lv st) : WP X G nL cn pc σ lv st' :=
  w_callA C hx.2 k hk he hc hM hlk hy hd hR hrc hn hst hcat hdg hq (fun h0 => by rw [if_neg h0] at h; exact ⟨(Option.some.inj h).symm, rfl⟩) (fun h0 => kk (by rw [if_pos h0] at h; exact h))
end THR
section MAKEX
variable {l : Launch} {G : GT} {cc : ByteArray} {maxL fr lo rc : Nat} {y : MethodName} {av : List Value} {σ : St}
/-- the world stands where nothing old has changed -/
theorem wW_kept {H H1 : Heap} (hP : va_P G.1 vwCl (wW G σ) H) (h : ∀ q : Nat, q < H.size → H1[q]? = H[q]?) : va_P G.1 vwCl (wW G σ) H1 := hP.kept (fun k q hk => h q.1 (hP k q hk).lt)
set_option maxHeartbeats 4000000 in
theorem thrA_of {p : Program} {e : Env} {s : State} {m : MethodId} {below : List Frame} {meth : Method} {c : Code} {R : Room} {args : Array Value} {Qc : Array Value → State → Outcome → State → Prop} {XC : String → State → State → Prop} {P : Nat → St → Prop} {fr lo : Nat}
    (C : Cx (p, l, e, R, s, m, args, below, meth, c, vx_MQ below Qc XC args s rc (6 * rc) (AA G)) G cc maxL RX10 fr lo rc) (hst : l.stackTraces = false) (hlocks : meth.locks = false) (hout : ∀ x ∈ c.exceptionTable.toList, False) (hfr : 7 ≤ fr) (hlo : 110 ≤ lo)
    (hX : ∀ (E : String) (cd : Nat) (σ' : St) (t : State), exC E cd → P cd σ' → va_P G.1 vwCl (wW G σ') t.heap → va_F (AA G) s t → XC E s t) :
    ThrA (p, l, e, R, s, m, args, below, meth, c, vx_MQ below Qc XC args s rc (6 * rc) (AA G)) G cc maxL rc P := by
  obtain ⟨⟨hx, hb, hml, hown, hts⟩, hK, had, hE, hF, hL, hRc, hRs⟩ := C
  obtain ⟨hE1, hE2, hE3, ⟨hE4, hE5⟩, hE6, hE7, hE8, hE9, hE10⟩ := id hE
  have hwd : ∀ w ∈ xWords, w.before args s = true := by
    intro w hw
    simp only [xWords, List.mem_cons, List.not_mem_nil, or_false] at hw
    rcases hw with rfl | rfl | rfl | rfl | rfl
    · exact va_Nw.use rfl (hE9 _ (by simp [declW]))
    · exact va_Nw.use rfl (hE9 _ (by simp [declW]))
    · exact va_Nw.use rfl (hE9 _ (by simp [declW]))
    · exact va_Nw.use rfl (hE10 (cNSE, cNSE) (by simp [castW]))
    · exact va_Nw.use rfl (hE10 (cIAE, cIAE) (by simp [castW]))
  refine ⟨?_, ?_⟩
  · intro cd ik ic hcd cn pc lv σ' is si tx hcn hp hm d0 d3 hd H locs ls hl hP hS
    have hstr := hE6 _ hm
    have hF9 : ∀ t : State, s.vm.Alike t.vm → H.size ≤ t.heap.size → (∀ q : Nat, q < H.size → t.heap[q]? = H[q]?) → va_P G.1 vwCl (wW G σ') t.heap ∧ va_F (AA G) s t := fun t _ h2 h3 =>
      ⟨wW_kept hP h3, Nat.le_trans hS.1 h2, fun q hq hA => (h3 q (Nat.lt_of_lt_of_le hq hS.1)).trans (hS.2.1 q hq hA)⟩
    have hl2 : ∀ z ∈ locs, AA G z.base := hS.2.2
    have hR1 : xNames.length + 3 < R.frames := by rw [show R.frames = fr from hF]; exact Nat.lt_of_lt_of_le (by decide) hfr
    have hR2 : (([] : List Value).map fun v => v.category).sum + (13 * (xNames.length + 1) + 43) ≤ R.locals := by rw [show R.locals = lo from hL]; exact Nat.le_trans (by decide) hlo
    have hR3 : cn + 1 ≤ R.cells := by rw [show R.cells = rc from hRc]; exact hcn
    have hR4 : 6 * cn + 6 ≤ R.slots := by rw [show R.slots = 6 * rc from hRs]; omega
    have hsz : ls.size = c.maxLocals := hl.1.trans hml.symm
    rcases hcd with ⟨rfl, rfl, rfl⟩ | ⟨rfl, rfl, rfl⟩
    · have hat := vx_hat (fun w h => hts w (xat1 w h)) xbt1 hwd
      have hx9 : ∀ t : State, s.vm.Alike t.vm → H.size ≤ t.heap.size → (∀ q : Nat, q < H.size → t.heap[q]? = H[q]?) → XC cNSE s t := fun t a1 a2 a3 => hX cNSE 1 σ' t (Or.inl ⟨rfl, rfl⟩) hp (hF9 t a1 a2 a3).1 (hF9 t a1 a2 a3).2
      rcases hd with ⟨d4, d6, d9⟩ | ⟨d4, d6, d9⟩
      · exact nse_throw (d := 6) hx hb hst hown (hts _ xw1.1) (hts _ xw1.2) hstr hat xg1 hE4 hE5 hS hsz d0 d3 (Or.inl ⟨rfl, d4⟩) d6 d9 hout hR1 hR2 hR3 hR4 hlocks hx9 hl2 hcn (by omega)
      · exact nse_throw (d := 7) hx hb hst hown (hts _ xw1.1) (hts _ xw1.2) hstr hat xg1 hE4 hE5 hS hsz d0 d3 (Or.inr ⟨rfl, d4⟩) d6 d9 hout hR1 hR2 hR3 hR4 hlocks hx9 hl2 hcn (by omega)
    · have hat := vx_hat (fun w h => hts w (xat2 w h)) xbt2 hwd
      have hx9 : ∀ t : State, s.vm.Alike t.vm → H.size ≤ t.heap.size → (∀ q : Nat, q < H.size → t.heap[q]? = H[q]?) → XC cIAE s t := fun t a1 a2 a3 => hX cIAE 2 σ' t (Or.inr ⟨rfl, rfl⟩) hp (hF9 t a1 a2 a3).1 (hF9 t a1 a2 a3).2
      rcases hd with ⟨d4, d6, d9⟩ | ⟨d4, d6, d9⟩
      · exact vx_throwS hx hb hst hown (by decide +kernel) (by decide +kernel) (hts _ xw2.1) (hts _ xw2.2) hstr hat xg2 hE4 hE5 hS hsz d0 d3 d4 d6 d9 (fun x hx => (hout x hx).elim) hR1 hR2 hR3 hR4 hlocks hx9 hl2 hcn (by omega)
      · exact vx_throwSW hx hb hst hown (by decide +kernel) (by decide +kernel) (hts _ xw2.1) (hts _ xw2.2) hstr hat xg2 hE4 hE5 hS hsz d0 d3 d4 d6 d9 (fun x hx => (hout x hx).elim) hR1 hR2 hR3 hR4 hlocks hx9 hl2 hcn (by omega)
  · intro cn pc ls st H locs σ' E cd ce q9 hcn hcd hp hP hS hce hcv hcl
    exact vx_out (fun x hx => (hout x hx).elim) hlocks hce hcv hcl (fun t ht _ => hX E cd σ' t hcd hp (by rw [ht]; exact hP) (by rw [va_F, ht]; exact ⟨hS.1, hS.2.1⟩)) hS.2.2 hcn (by omega)
theorem mk_MC {res : Nat} (had : gAp G) (hy : plainName y.cls = true) (hlen : (lg_sl av).length ≤ maxL) (hst : l.stackTraces = false) (hcl : y.cls = RX10) (hfr : 7 ≤ fr) (hlo : 110 ≤ lo) (body : ∀ X : XT, X.2.1 = l → Cx X G cc maxL RX10 fr lo rc → RetXv X G cc maxL rc σ res → ThrC X G cc maxL rc σ res → WP X G maxL 0 0 σ (lv_args 0 av) []) : MC l y (wB y cc maxL none) fr lo rc G av σ res := by
  refine vx_ofW (cc := cc) (maxL := maxL) (ret := none) hy rfl ?_
  intro p e s m args below meth c s₁ B hml hout hv
  obtain ⟨rfl, hP, hK, hE⟩ := hv
  have hts := fun w (hw : w ∈ BG) => atoms_spec (ws := wB y cc maxL none) B.pre w (List.mem_cons_of_mem _ hw)
  have hown : s.vm.findClass RX10 = some m.cls := by rw [← hcl]; exact findClass_of_methodNamed B.named
  have hl := lv_entry av (n := maxL) hlen
  rw [lg_entry_eq]
  generalize (lg_sl av ++ List.replicate (maxL - (lg_sl av).length) Slot.unset).toArray = ls at hl ⊢
  have C : ∀ Q, Cx (p, l, e, (headSpec (wB y cc maxL none) (rmK fr lo rc)).room, s, m, av.toArray, below, meth, c, Q) G cc maxL RX10 fr lo rc := fun Q => ⟨⟨B.exec, B.bytes, hml, hown, hts⟩, hK, had, hE, rfl, rfl, rfl, rfl⟩
  refine body (p, l, e, (headSpec (wB y cc maxL none) (rmK fr lo rc)).room, s, m, av.toArray, below, meth, c, _) rfl (C _) ?_ ⟨hst, thrA_of (C _) hst B.notSynchronized hout hfr hlo ?_⟩ s.heap [] ls hl hP va_S.rf
  · intro cn pc lv hcn hz hdg H locs ls hl hP hS
    exact W.widen (k := rc) (n := 6 * rc) hcn (by omega) (vx_ret (W.vret B.exec B.bytes B.returns (fun t ht hW => ⟨⟨σ, rfl, ⟨rfl, hz⟩, by show va_P _ _ _ _; rw [ht]; exact hP⟩, hS.F ht⟩) hS.2.2 hdg B.notSynchronized))
  · intro E cd σ' t hcd hp hP9 hF
    obtain ⟨rfl, rfl⟩ := hp
    exact ⟨σ', rfl, ⟨hcd, hP9⟩, hF⟩
theorem mk_MX {res : Nat × Int32 × St} (had : gAp G) (hy : plainName y.cls = true) (hlen : (lg_sl av).length ≤ maxL) (hst : l.stackTraces = false) (hcl : y.cls = RX10) (hfr : 7 ≤ fr) (hlo : 110 ≤ lo) (body : ∀ X : XT, X.2.1 = l → Cx X G cc maxL RX10 fr lo rc → RetXi X G cc maxL rc res → ThrX X G cc maxL rc res → WP X G maxL 0 0 σ (lv_args 0 av) []) : MX l y (wB y cc maxL (some .int)) fr lo rc G av σ res := by
  refine vx_ofW (cc := cc) (maxL := maxL) (ret := some .int) hy rfl ?_
  intro p e s m args below meth c s₁ B hml hout hv
  obtain ⟨rfl, hP, hK, hE⟩ := hv
  have hts := fun w (hw : w ∈ BG) => atoms_spec (ws := wB y cc maxL (some .int)) B.pre w (List.mem_cons_of_mem _ hw)
  have hown : s.vm.findClass RX10 = some m.cls := by rw [← hcl]; exact findClass_of_methodNamed B.named
  have hl := lv_entry av (n := maxL) hlen
  rw [lg_entry_eq]
  generalize (lg_sl av ++ List.replicate (maxL - (lg_sl av).length) Slot.unset).toArray = ls at hl ⊢
  have C : ∀ Q, Cx (p, l, e, (headSpec (wB y cc maxL (some .int)) (rmK fr lo rc)).room, s, m, av.toArray, below, meth, c, Q) G cc maxL RX10 fr lo rc := fun Q => ⟨⟨B.exec, B.bytes, hml, hown, hts⟩, hK, had, hE, rfl, rfl, rfl, rfl⟩
  refine body (p, l, e, (headSpec (wB y cc maxL (some .int)) (rmK fr lo rc)).room, s, m, av.toArray, below, meth, c, _) rfl (C _) ?_ ⟨hst, thrA_of (C _) hst B.notSynchronized hout hfr hlo ?_⟩ s.heap [] ls hl hP va_S.rf
  · intro cn pc lv r σ' hcn hz hdg H locs ls hl hP hS
    exact W.widen (k := rc) (n := 6 * rc) hcn (by omega) (vx_ret (W.iret B.exec B.bytes B.returns (fun t ht hW => ⟨⟨r, σ', rfl, hz, by show va_P _ _ _ _; rw [ht]; exact hP⟩, hS.F ht⟩) hS.2.2 hdg B.notSynchronized))
  · intro E cd σ' t hcd hp hP hF
    refine ⟨σ', ⟨cd, hp⟩, ⟨fun c hc => ?_, hP⟩, hF⟩
    rw [hp] at hc
    cases hc
    exact hcd
theorem mk_MXz {res : Nat × Int32 × St} (had : gAp G) (hy : plainName y.cls = true) (hlen : (lg_sl av).length ≤ maxL) (hst : l.stackTraces = false) (hcl : y.cls = RX10) (hfr : 7 ≤ fr) (hlo : 110 ≤ lo) (body : ∀ X : XT, X.2.1 = l → Cx X G cc maxL RX10 fr lo rc → RetXz X G cc maxL rc res → ThrX X G cc maxL rc res → WP X G maxL 0 0 σ (lv_args 0 av) []) : MX l y (wB y cc maxL (some .boolean)) fr lo rc G av σ res := by
  refine vx_ofW (cc := cc) (maxL := maxL) (ret := some .boolean) hy rfl ?_
  intro p e s m args below meth c s₁ B hml hout hv
  obtain ⟨rfl, hP, hK, hE⟩ := hv
  have hts := fun w (hw : w ∈ BG) => atoms_spec (ws := wB y cc maxL (some .boolean)) B.pre w (List.mem_cons_of_mem _ hw)
  have hown : s.vm.findClass RX10 = some m.cls := by rw [← hcl]; exact findClass_of_methodNamed B.named
  have hl := lv_entry av (n := maxL) hlen
  rw [lg_entry_eq]
  generalize (lg_sl av ++ List.replicate (maxL - (lg_sl av).length) Slot.unset).toArray = ls at hl ⊢
  have C : ∀ Q, Cx (p, l, e, (headSpec (wB y cc maxL (some .boolean)) (rmK fr lo rc)).room, s, m, av.toArray, below, meth, c, Q) G cc maxL RX10 fr lo rc := fun Q => ⟨⟨B.exec, B.bytes, hml, hown, hts⟩, hK, had, hE, rfl, rfl, rfl, rfl⟩
  refine body (p, l, e, (headSpec (wB y cc maxL (some .boolean)) (rmK fr lo rc)).room, s, m, av.toArray, below, meth, c, _) rfl (C _) ?_ ⟨hst, thrA_of (C _) hst B.notSynchronized hout hfr hlo ?_⟩ s.heap [] ls hl hP va_S.rf
  · intro cn pc lv r σ' hcn hb hz hdg H locs ls hl hP hS
    exact W.widen (k := rc) (n := 6 * rc) hcn (by omega) (vx_ret (W.zret B.exec B.bytes B.returns (by show Value.int (r &&& 1) = .int r; rw [hb]) (fun t ht hW => ⟨⟨r, σ', rfl, hz, by show va_P _ _ _ _; rw [ht]; exact hP⟩, hS.F ht⟩) hS.2.2 hdg B.notSynchronized))
  · intro E cd σ' t hcd hp hP hF
    refine ⟨σ', ⟨cd, hp⟩, ⟨fun c hc => ?_, hP⟩, hF⟩
    rw [hp] at hc
    cases hc
    exact hcd
end MAKEX
