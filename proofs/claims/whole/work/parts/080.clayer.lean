def setc (Γ : Cx) (k n : Nat) : Cx := match Γ with
  | (p, l, e, R, s, m, args, below, meth, c, _, _, Q, D, A, H0, nL) => (p, l, e, R, s, m, args, below, meth, c, k, n, Q, D, A, H0, nL)
def NM (Γ : Cx) : Prop := match Γ with
  | (_, _, _, _, _, _, _, _, meth, _) => meth.name = "<init>"
theorem oi_in : okw (.instanceMethod objectInit) := ⟨List.mem_of_getElem? (i := 69) (by decide +kernel), by decide +kernel⟩
theorem oi_code : okw (.code objectInit ⟨#[0xb1]⟩ 1 none) := ⟨List.mem_of_getElem? (i := 70) (by decide +kernel), by decide +kernel⟩
theorem oi_X2 : okw (.methodLink RX2 3 objectInit) := ⟨List.mem_of_getElem? (i := 99) (by decide +kernel), by decide +kernel⟩
theorem oi_X3 : okw (.methodLink RX3 3 objectInit) := ⟨List.mem_of_getElem? (i := 167) (by decide +kernel), by decide +kernel⟩
theorem oi_X4 : okw (.methodLink RX4 3 objectInit) := ⟨List.mem_of_getElem? (i := 124) (by decide +kernel), by decide +kernel⟩
theorem oi_X6 : okw (.methodLink RX6 3 objectInit) := ⟨List.mem_of_getElem? (i := 76) (by decide +kernel), by decide +kernel⟩
theorem oi_X7 : okw (.methodLink RX7 3 objectInit) := ⟨List.mem_of_getElem? (i := 68) (by decide +kernel), by decide +kernel⟩
theorem oi_X8 : okw (.methodLink RX8 1 objectInit) := ⟨List.mem_of_getElem? (i := 734) (by decide +kernel), by decide +kernel⟩
theorem aw_I : okw (.arrayClass .int) := ⟨List.mem_of_getElem? (i := 93) (by decide +kernel), by decide +kernel⟩
theorem aw_Z : okw (.arrayClass .boolean) := ⟨List.mem_of_getElem? (i := 820) (by decide +kernel), by decide +kernel⟩
theorem cl_L_7 : okw (.classLink RL 7 RX7) := ⟨List.mem_of_getElem? (i := 63) (by decide +kernel), by decide +kernel⟩
theorem is_X7 : okw (.instantiable RX7 10) := ⟨List.mem_of_getElem? (i := 64) (by decide +kernel), by decide +kernel⟩
theorem ii_X7 : okw (.initialized RX7) := ⟨List.mem_of_getElem? (i := 51) (by decide +kernel), by decide +kernel⟩
theorem cl_X7_9 : okw (.classLink RX7 9 RX6) := ⟨List.mem_of_getElem? (i := 71) (by decide +kernel), by decide +kernel⟩
theorem is_X6 : okw (.instantiable RX6 5) := ⟨List.mem_of_getElem? (i := 72) (by decide +kernel), by decide +kernel⟩
theorem ii_X6 : okw (.initialized RX6) := ⟨List.mem_of_getElem? (i := 52) (by decide +kernel), by decide +kernel⟩
theorem cl_X7_16 : okw (.classLink RX7 16 RX2) := ⟨List.mem_of_getElem? (i := 94) (by decide +kernel), by decide +kernel⟩
theorem is_X2 : okw (.instantiable RX2 5) := ⟨List.mem_of_getElem? (i := 95) (by decide +kernel), by decide +kernel⟩
theorem ii_X2 : okw (.initialized RX2) := ⟨List.mem_of_getElem? (i := 53) (by decide +kernel), by decide +kernel⟩
theorem cl_X7_23 : okw (.classLink RX7 23 RX4) := ⟨List.mem_of_getElem? (i := 119) (by decide +kernel), by decide +kernel⟩
theorem is_X4 : okw (.instantiable RX4 12) := ⟨List.mem_of_getElem? (i := 120) (by decide +kernel), by decide +kernel⟩
theorem ii_X4 : okw (.initialized RX4) := ⟨List.mem_of_getElem? (i := 55) (by decide +kernel), by decide +kernel⟩
theorem cl_X7_35 : okw (.classLink RX7 35 RX3) := ⟨List.mem_of_getElem? (i := 162) (by decide +kernel), by decide +kernel⟩
theorem is_X3 : okw (.instantiable RX3 7) := ⟨List.mem_of_getElem? (i := 163) (by decide +kernel), by decide +kernel⟩
theorem ii_X3 : okw (.initialized RX3) := ⟨List.mem_of_getElem? (i := 56) (by decide +kernel), by decide +kernel⟩
theorem cl_L_10 : okw (.classLink RL 10 RX8) := ⟨List.mem_of_getElem? (i := 729) (by decide +kernel), by decide +kernel⟩
theorem is_X8 : okw (.instantiable RX8 28) := ⟨List.mem_of_getElem? (i := 730) (by decide +kernel), by decide +kernel⟩
theorem ii_X8 : okw (.initialized RX8) := ⟨List.mem_of_getElem? (i := 57) (by decide +kernel), by decide +kernel⟩
theorem okc_X2 : okw (.code yX2_init cX2_init 1 none) := ⟨List.mem_of_getElem? (i := 98) (by decide +kernel), by decide +kernel⟩
theorem oki_X2 : okw (.instanceMethod yX2_init) := ⟨List.mem_of_getElem? (i := 97) (by decide +kernel), by decide +kernel⟩
theorem okc_X3 : okw (.code yX3_init cX3_init 1 none) := ⟨List.mem_of_getElem? (i := 166) (by decide +kernel), by decide +kernel⟩
theorem oki_X3 : okw (.instanceMethod yX3_init) := ⟨List.mem_of_getElem? (i := 165) (by decide +kernel), by decide +kernel⟩
theorem okc_X4 : okw (.code yX4_init cX4_init 2 none) := ⟨List.mem_of_getElem? (i := 123) (by decide +kernel), by decide +kernel⟩
theorem oki_X4 : okw (.instanceMethod yX4_init) := ⟨List.mem_of_getElem? (i := 122) (by decide +kernel), by decide +kernel⟩
theorem okc_X6 : okw (.code yX6_init cX6_init 1 none) := ⟨List.mem_of_getElem? (i := 75) (by decide +kernel), by decide +kernel⟩
theorem oki_X6 : okw (.instanceMethod yX6_init) := ⟨List.mem_of_getElem? (i := 74) (by decide +kernel), by decide +kernel⟩
theorem okc_X7 : okw (.code yX7_init cX7_init 1 none) := ⟨List.mem_of_getElem? (i := 67) (by decide +kernel), by decide +kernel⟩
theorem oki_X7 : okw (.instanceMethod yX7_init) := ⟨List.mem_of_getElem? (i := 66) (by decide +kernel), by decide +kernel⟩
theorem okc_X8 : okw (.code yX8_init cX8_init 1 none) := ⟨List.mem_of_getElem? (i := 733) (by decide +kernel), by decide +kernel⟩
theorem oki_X8 : okw (.instanceMethod yX8_init) := ⟨List.mem_of_getElem? (i := 732) (by decide +kernel), by decide +kernel⟩
section VC
variable {Γ : Cx} {cI cZ : ClassId} {cc : ByteArray} {own : String} {nL fr lo : Nat} {ws : va_W} {lv : List (Nat × Value)} {pc : Nat} {st : List Value}
theorem x_objI (hC : CX Γ cI cZ cc own nL fr lo) {idx a : Nat} (hlk : okw (.methodLink own idx objectInit)) (hdg : decode cc pc = .ok (.invokespecial idx, 3)) (hf1 : 1 ≤ fr) (hl1 : (st.map fun v => v.category).sum + 12 ≤ lo) (k : VV Γ ws lv (pc + 3) st) : VV Γ ws lv pc (.ref a :: st) := by
  obtain ⟨p, l, e, R, s, m, args, below, meth, c, cells, slots, Q, D, A, H0, nL1⟩ := Γ
  obtain ⟨hx, hb, hml, hnL, hown, hN, hA, hfr, hlo, hcl, hsl⟩ := hC
  subst hnL
  intro H locs ls hP hD hS hl
  refine W.objInit hx hb hown (hN.1.at hlk _) (hN.1.at oi_in _) (hN.1.at oi_code _) rfl (by rw [hml]; exact hl.1) rfl hdg (Nat.le_trans hf1 hfr) (Nat.le_trans ?_ hlo) (k H locs ls hP hD hS hl)
  have h0 : (F0 m pc ls (.ref a :: st)).monitorRoom = 0 := rfl
  rw [h0]
  omega
theorem x_putF (hC : CX Γ cI cZ cc own nL fr lo) (hM : NM Γ) (ci : Nat) {C : String} {T : u_T} {N index a : Nat} {fs : List Value} {v : Value} {ty : FieldType} {ty0 : Nat → FieldType} (hty : ∀ k, k < N → parseFieldDescriptor (T k).2.2.1 = some (ty0 k)) (hnm : ∀ a, a < N → ∀ b, b < N → a ≠ b → (T a).2.1 ≠ (T b).2.1) (hin : ∀ w ∈ u_ws C T N, w ∈ lw_tbl ∧ goodWord w = true) (q0 : Nat) (he : ws[q0]? = some (a, .inr (ci, fs))) (hc : vwCl[ci]? = some (C, T, N)) (k : Nat) (hk : k < N) (hw : okw (.fieldLink own index (T k).1 (T k).2.1 (T k).2.2.1)) (hfin : (T k).2.2.2 = true) (hdecl : (T k).1 = own) (hd : parseFieldDescriptor (T k).2.2.1 = some ty) (hn : narrow ty v = v) (hfit : fits ty v = true) (hll : k < fs.length) (ws2 : va_W) (hs : ws.set q0 (a, .inr (ci, fs.set k v)) = ws2) (hdg : decode cc pc = .ok (.putfield index, 3)) (kk : VV Γ ws2 lv (pc + 3) st) : VV Γ ws lv pc (v :: .ref a :: st) := by
  obtain ⟨p, l, e, R, s, m, args, below, meth, c, cells, slots, Q, D, A, H0, nL1⟩ := Γ
  obtain ⟨hx, hb, hml, hnL, hown, hN, hA, hfr, hlo, hcl, hsl⟩ := hC
  subst hnL
  intro H locs ls hP hD hS hl
  subst hs
  exact va_putF (Ts := u_ws C T N) hx hb (fun w h => hN.1.at (hin w h) _) (fun _ h => h) ty0 hty hnm hown hN.2.2.2 hP hD hS q0 he hc k hk (hN.1.at hw _) (fun _ h => h) hfin hM hdecl hd hn hfit hll hdg (fun H1 locs1 hP1 hD1 hS1 => kk H1 locs1 ls hP1 hD1 hS1 hl)
theorem vcell_I (cA : ClassId) (N : Nat) : vp_cell cA (N, .inl (fun _ => 0)) = arrV cA N (fun _ => defaultValue .int) := rfl
theorem ra_I {s : State} {D : va_G} {cA cI cZ : ClassId} (hK : va_K D vwCl [(cI, .int), (cZ, .boolean)] s) (h1 : va_RA s cA .int) : cA = cI := by
  have h2 : s.vm.findClass ("[" ++ (FieldType.toString .int)) = some cI := (hK.2 0 (cI, .int) rfl).2
  have h1 : s.vm.findClass ("[" ++ (FieldType.toString .int)) = some cA := h1
  rw [h1] at h2
  exact Option.some.inj h2
set_option maxHeartbeats 400000 in
theorem x_newaI {k n : Nat} (N : Nat) (hC : CX (setc Γ k n) cI cZ cc own nL fr lo) (hC2 : CX (setc Γ (k + 1) (n + N)) cI cZ cc own nL fr lo) {v : Int32} (hn : ¬ v < 0) (hN : v.toNatClampNeg = N) (hby : N * componentBytes .int ≤ 536870912) (ws2 : Nat → va_W) (hs : ∀ q, ws ++ [(q, .inl (cI, N, .inl (fun _ => 0)))] = ws2 q) (hdg : decode cc pc = .ok (.newarray .int, 2)) (kk : ∀ q, VV (setc Γ (k + 1) (n + N)) (ws2 q) lv (pc + 2) (.ref q :: st)) : VV (setc Γ k n) ws lv pc (.int v :: st) := by
  obtain ⟨p, l, e, R, s, m, args, below, meth, c, cells, slots, Q, D, A, H0, nL1⟩ := Γ
  obtain ⟨hx, hb, hml, hnL, hown, hNN, hA, hfr, hlo, hcl, hsl⟩ := hC
  have hC2 := hC2
  have hcl2 : k + 1 ≤ R.cells := hC2.2.2.2.2.2.2.2.2.2.1
  have hsl2 : n + N ≤ R.slots := hC2.2.2.2.2.2.2.2.2.2.2
  subst hnL
  intro H locs ls hP hD hS hl
  have harr : (Cond.arrayClass (newarray.typeOf .int)).before args s = true := hNN.1.at aw_I args
  have hK := hNN.2.2.2
  have kk2 : ∀ (q : Nat) (cA : ClassId) (H1 : Heap), va_K D vwCl ([(cI, .int), (cZ, .boolean)] ++ [(cA, .int)]) s → va_P D vwCl (ws ++ [(q, .inl (cA, (N, .inl (fun _ => 0))))]) H1 → va_D A (ws ++ [(q, .inl (cA, (N, .inl (fun _ => 0))))]) → va_S A H0 H1 locs → W p l e R s m args below meth c H1 locs (k + 1) (n + N) Q (F0 m (pc + 2) ls (.ref q :: st)) := by
    intro q cA H1 hK1 hP1 hD1 hS1
    have h3 := ra_I hK (hK1.2 2 (cA, .int) rfl).2
    subst h3
    rw [hs q] at hP1 hD1
    exact kk q H1 locs ls hP1 hD1 hS1 hl
  exact va_newa (ty := .int) (a0 := (N, .inl (fun _ => 0))) hx hb harr rfl hK hP hD hS hA (fun cA => vcell_I cA N) hn hN hby hcl2 hsl2 hdg kk2
theorem vcell_Z (cA : ClassId) (N : Nat) : vp_cell cA (N, .inl (fun _ => 0)) = arrV cA N (fun _ => defaultValue .boolean) := rfl
theorem ra_Z {s : State} {D : va_G} {cA cI cZ : ClassId} (hK : va_K D vwCl [(cI, .int), (cZ, .boolean)] s) (h1 : va_RA s cA .boolean) : cA = cZ := by
  have h2 : s.vm.findClass ("[" ++ (FieldType.toString .boolean)) = some cZ := (hK.2 1 (cZ, .boolean) rfl).2
  have h1 : s.vm.findClass ("[" ++ (FieldType.toString .boolean)) = some cA := h1
  rw [h1] at h2
  exact Option.some.inj h2
set_option maxHeartbeats 400000 in
theorem x_newaZ {k n : Nat} (N : Nat) (hC : CX (setc Γ k n) cI cZ cc own nL fr lo) (hC2 : CX (setc Γ (k + 1) (n + N)) cI cZ cc own nL fr lo) {v : Int32} (hn : ¬ v < 0) (hN : v.toNatClampNeg = N) (hby : N * componentBytes .boolean ≤ 536870912) (ws2 : Nat → va_W) (hs : ∀ q, ws ++ [(q, .inl (cZ, N, .inl (fun _ => 0)))] = ws2 q) (hdg : decode cc pc = .ok (.newarray .boolean, 2)) (kk : ∀ q, VV (setc Γ (k + 1) (n + N)) (ws2 q) lv (pc + 2) (.ref q :: st)) : VV (setc Γ k n) ws lv pc (.int v :: st) := by
  obtain ⟨p, l, e, R, s, m, args, below, meth, c, cells, slots, Q, D, A, H0, nL1⟩ := Γ
  obtain ⟨hx, hb, hml, hnL, hown, hNN, hA, hfr, hlo, hcl, hsl⟩ := hC
  have hC2 := hC2
  have hcl2 : k + 1 ≤ R.cells := hC2.2.2.2.2.2.2.2.2.2.1
  have hsl2 : n + N ≤ R.slots := hC2.2.2.2.2.2.2.2.2.2.2
  subst hnL
  intro H locs ls hP hD hS hl
  have harr : (Cond.arrayClass (newarray.typeOf .boolean)).before args s = true := hNN.1.at aw_Z args
  have hK := hNN.2.2.2
  have kk2 : ∀ (q : Nat) (cA : ClassId) (H1 : Heap), va_K D vwCl ([(cI, .int), (cZ, .boolean)] ++ [(cA, .boolean)]) s → va_P D vwCl (ws ++ [(q, .inl (cA, (N, .inl (fun _ => 0))))]) H1 → va_D A (ws ++ [(q, .inl (cA, (N, .inl (fun _ => 0))))]) → va_S A H0 H1 locs → W p l e R s m args below meth c H1 locs (k + 1) (n + N) Q (F0 m (pc + 2) ls (.ref q :: st)) := by
    intro q cA H1 hK1 hP1 hD1 hS1
    have h3 := ra_Z hK (hK1.2 2 (cA, .boolean) rfl).2
    subst h3
    rw [hs q] at hP1 hD1
    exact kk q H1 locs ls hP1 hD1 hS1 hl
  exact va_newa (ty := .boolean) (a0 := (N, .inl (fun _ => 0))) hx hb harr rfl hK hP hD hS hA (fun cA => vcell_Z cA N) hn hN hby hcl2 hsl2 hdg kk2
theorem x_new {k n : Nat} (hC : CX (setc Γ k n) cI cZ cc own nL fr lo) (ci : Nat) {C : String} {T : u_T} {N index : Nat} (hC2 : CX (setc Γ (k + 1) (n + N)) cI cZ cc own nL fr lo) {ty0 : Nat → FieldType} (hty : ∀ k, k < N → parseFieldDescriptor (T k).2.2.1 = some (ty0 k)) (hin : ∀ w ∈ u_ws C T N, w ∈ lw_tbl ∧ goodWord w = true) (hcw : okw (.classLink own index C)) (his : okw (.instantiable C N)) (hini : okw (.initialized C)) (hc : vwCl[ci]? = some (C, T, N)) (fs : List Value) (hfs : ∀ j, j < N → defaultValue (ty0 j) = vp_V fs j) (ws2 : Nat → va_W) (hs : ∀ q, ws ++ [(q, .inr (ci, fs))] = ws2 q) (hdg : decode cc pc = .ok (.new index, 3)) (kk : ∀ q, VV (setc Γ (k + 1) (n + N)) (ws2 q) lv (pc + 3) (.ref q :: st)) : VV (setc Γ k n) ws lv pc st := by
  obtain ⟨p, l, e, R, s, m, args, below, meth, c, cells, slots, Q, D, A, H0, nL1⟩ := Γ
  obtain ⟨hx, hb, hml, hnL, hown, hNN, hA, hfr, hlo, hcl, hsl⟩ := hC
  obtain ⟨-, -, -, -, -, -, -, -, -, hcl2, hsl2⟩ := hC2
  subst hnL
  intro H locs ls hP hD hS hl
  refine va_new (ci := ci) (fs := fs) (Ts := u_ws C T N) hx hb (fun w h => hNN.1.at (hin w h) _) (fun _ h => h) ty0 hty hown (hNN.1.at hcw _) (hNN.1.at his _) (hNN.1.at hini _) hNN.2.2.2 hP hD hS hA hc hfs hcl2 hsl2 hdg (fun q H1 hP1 hD1 hS1 => ?_)
  rw [hs q] at hP1 hD1
  exact kk q H1 locs ls hP1 hD1 hS1 hl
def Mc (l : Launch) (D : va_G) (cI cZ : ClassId) (y : MethodName) (cc : ByteArray) (nL : Nat) (fr lo mc ms : Nat) (av : List Value) (w0 : va_W) {S : Type} (w1 : S → va_W) (post : S → Prop) : Prop :=
  ∀ sz : Nat, Met l y [.code y cc nL none] { frames := fr, cells := mc, slots := ms, locals := lo } (PreM D cI cZ av w0 sz) (va_Qv post (fun u t => va_P D vwCl (w1 u) t.heap ∧ va_D (va_A w0 sz) (w1 u)) (va_A w0 sz)) mc ms (va_A w0 sz)
theorem mk_Mc {l : Launch} {D : va_G} {y : MethodName} {mc ms : Nat} {av : List Value} {w0 : va_W} {S : Type} {w1 : S → va_W} {post : S → Prop} (hy : plainName y.cls = true) (hyn : y.name = "<init>") (hen : (lg_sl av).length ≤ nL)
    (body : ∀ Γ : Cx, gl Γ = l → gD Γ = D → (∀ k n, k ≤ mc → n ≤ ms → CX (setc Γ k n) cI cZ cc y.cls nL fr lo ∧ NM (setc Γ k n)) → (∀ (u : S) (lv : List (Nat × Value)) (pc : Nat), post u → decode cc pc = .ok (.return_, 1) → VV (setc Γ mc ms) (w1 u) lv pc []) → VV (setc Γ 0 0) w0 (lv_args 0 av) 0 []) : Mc l D cI cZ y cc nL fr lo mc ms av w0 w1 post := by
  intro sz
  refine Met.ofW (cc := cc) (maxL := nL) (ret := none) hy rfl ?_
  intro p e s m args below meth c s₁ B hml hv
  obtain ⟨rfl, hsz, hN, hP, hD0⟩ := hv
  have hx := B.exec
  have hb := B.bytes
  have hr := B.returns
  have hown : s.vm.findClass y.cls = some m.cls := findClass_of_methodNamed B.named
  have hlocks := B.notSynchronized
  have hin : meth.name = "<init>" := (name_of_methodNamed B.named B.method).1.trans hyn
  subst hsz
  have hD := hD0.self (sz := s.heap.size)
  have hS : va_S (va_A w0 s.heap.size) s.heap s.heap [] := va_S.rf
  have hl := lv_entry av (n := nL) hen
  rw [lg_entry_eq]
  generalize (lg_sl av ++ List.replicate (nL - (lg_sl av).length) Slot.unset).toArray = ls at hl ⊢
  refine body (p, l, e, _, s, m, av.toArray, below, meth, c, 0, 0, _, D, va_A w0 s.heap.size, s.heap, nL) rfl rfl (fun k n h1 h2 => ⟨⟨hx, hb, hml, rfl, hown, hN, fun q h => Or.inr h, Nat.le_refl _, Nat.le_refl _, h1, h2⟩, hin⟩) ?_ s.heap [] ls hP hD hS hl
  intro u lv pc hp hdg H locs ls hP2 hD2 hS2 hl2
  exact W.vret hx hb hr (fun t ht hW => ⟨⟨u, rfl, hp, by rw [ht]; exact hP2, hD2⟩, hS2.F ht⟩) hS2.2.2 hdg
theorem x_callI {k n : Nat} (hC : CX (setc Γ k n) cI cZ cc own nL fr lo) {mc ms : Nat} (hC2 : CX (setc Γ (k + mc) (n + ms)) cI cZ cc own nL fr lo) {y : MethodName} {bytes : ByteArray} {maxL na index fr2 lo2 : Nat} {As rest st0 : List Value} {S : Type} {w1 : S → va_W} {post : S → Prop} (wc : va_W) (isC wrI ps : List Nat) (wr : va_W) (ws2 : S → va_W) (okc : okw (.code y bytes maxL none)) (oki : okw (.initialized y.cls)) (okn : okw (.instanceMethod y)) (hyn : y.name = "<init>") (hy1 : y.cls ≠ "java/lang/invoke/MethodHandle") (hy2 : y.cls ≠ "java/lang/invoke/VarHandle") (hpd : (parseMethodDescriptor y.desc).map (fun d => d.parameters.length) = some na) (hlk : okw (.methodLink own index y)) {b : Nat} (hM : Mc (gl Γ) (gD Γ) cI cZ y bytes maxL fr2 lo2 mc ms (.ref b :: As) wc w1 post) (hfr2 : fr2 + 1 ≤ fr) (hlo2 : 8 + (maxL + 11) + lo2 ≤ lo) (hn : As.length = na) (hrs : (rest.map fun v => v.category).sum ≤ 8) (hnd0 : va_nd isC = true) (hCp : isC.map (fun i => ws[i]?) = wc.map some) (hRp : wrI.map (fun i => ws[i]?) = wr.map some) (hnd : va_nd wrI = true) (hdis : ∀ i ∈ wrI, i ∉ isC) (hnd2 : va_nd ps = true) (hps : ∀ u, ps.map (fun i => (wr ++ w1 u)[i]?) = (ws2 u).map some) (hst : st0 = As.reverse ++ .ref b :: rest) (hdg : decode cc pc = .ok (.invokespecial index, 3)) (kk : ∀ (u : S), post u → VV (setc Γ (k + mc) (n + ms)) (ws2 u) lv (pc + 3) rest) : VV (setc Γ k n) ws lv pc st0 := by
  obtain ⟨p, l, e, R, s, m, args, below, meth, c, cells, slots, Q, D, A, H0, nL1⟩ := Γ
  obtain ⟨hx, hb, hml, hnL, hown, hN, hA, hfr, hlo, hcl, hsl⟩ := hC
  obtain ⟨-, -, -, -, -, -, -, -, -, hcl2, hsl2⟩ := hC2
  subst hnL
  intro H locs ls hP hD hS hl
  have hPc := sub_world hP isC hCp
  have hDc := hD.sub isC hnd0 hCp
  have hFc := va_free (wc := wc) hD hS hA isC hCp
  have hfr3 : fr2 + 1 ≤ R.frames := Nat.le_trans hfr2 hfr
  have hlo3 : 8 + (maxL + 11) + lo2 ≤ R.locals := Nat.le_trans hlo2 hlo
  subst hst
  refine va_callv (va_runI (Ts := []) (As := As) (rest := rest) ⟨hx, hb, hml, hown, fun _ h => absurd h List.not_mem_nil⟩ (hM H.size) ⟨⟨rfl, rfl, hfr3, hlo3, fun w hw a U hW => ?_, List.mem_cons_self, hN.1.at okc _, hN.1.at oki _, ⟨hy1, hy2⟩, fun sig h => ?_, hN.1.at hlk _⟩, hyn, hN.1.at okn _⟩ ⟨preM_blind, fun U hU hW => preM_of hN hPc hDc U hU hW⟩ rfl hn hl.1 rfl (lv_room hrs) hdg ⟨hcl2, hsl2⟩) hS (fun q _ h => hFc q h) hFc (fun u t H1 locs1 ht hvm hw hB hz hk hS1 => ?_)
  · rw [List.mem_singleton] at hw
    subst hw
    exact (hN.1.moved hW).at okc a
  · have h2 := hpd
    rw [h] at h2
    exact (Option.some.inj h2).symm
  · obtain ⟨hP1, hD1⟩ := hB
    rw [ht] at hP1
    obtain ⟨hP2, hD2⟩ := back_world hP hD isC wrI ps hCp hRp hnd hdis hnd2 (hps u) hk hFc hP1 hD1
    exact kk u hw H1 locs1 ls hP2 hD2 hS1 hl
def okw2 (w : Cond) (Γ : Cx) : Prop := match Γ with
  | (_, _, _, _, s, _) => va_Nw w s
theorem x_callIN {k n : Nat} (hC : CX (setc Γ k n) cI cZ cc own nL fr lo) {mc ms : Nat} (hC2 : CX (setc Γ (k + mc) (n + ms)) cI cZ cc own nL fr lo) {y : MethodName} {bytes : ByteArray} {maxL na index fr2 lo2 : Nat} {As rest st0 : List Value} {S : Type} {w1 : S → va_W} {post : S → Prop} (wc : va_W) (isC wrI ps : List Nat) (wr : va_W) (ws2 : S → va_W) (okc : okw (.code y bytes maxL none)) (oki : okw (.initialized y.cls)) (okn : okw (.instanceMethod y)) (hyn : y.name = "<init>") (hy1 : y.cls ≠ "java/lang/invoke/MethodHandle") (hy2 : y.cls ≠ "java/lang/invoke/VarHandle") (hpd : (parseMethodDescriptor y.desc).map (fun d => d.parameters.length) = some na) (host : String) (hlk : okw2 (.methodLinkNest own index y host) Γ) {b : Nat} (hM : Mc (gl Γ) (gD Γ) cI cZ y bytes maxL fr2 lo2 mc ms (.ref b :: As) wc w1 post) (hfr2 : fr2 + 1 ≤ fr) (hlo2 : 8 + (maxL + 11) + lo2 ≤ lo) (hn : As.length = na) (hrs : (rest.map fun v => v.category).sum ≤ 8) (hnd0 : va_nd isC = true) (hCp : isC.map (fun i => ws[i]?) = wc.map some) (hRp : wrI.map (fun i => ws[i]?) = wr.map some) (hnd : va_nd wrI = true) (hdis : ∀ i ∈ wrI, i ∉ isC) (hnd2 : va_nd ps = true) (hps : ∀ u, ps.map (fun i => (wr ++ w1 u)[i]?) = (ws2 u).map some) (hst : st0 = As.reverse ++ .ref b :: rest) (hdg : decode cc pc = .ok (.invokespecial index, 3)) (kk : ∀ (u : S), post u → VV (setc Γ (k + mc) (n + ms)) (ws2 u) lv (pc + 3) rest) : VV (setc Γ k n) ws lv pc st0 := by
  obtain ⟨p, l, e, R, s, m, args, below, meth, c, cells, slots, Q, D, A, H0, nL1⟩ := Γ
  obtain ⟨hx, hb, hml, hnL, hown, hN, hA, hfr, hlo, hcl, hsl⟩ := hC
  obtain ⟨-, -, -, -, -, -, -, -, -, hcl2, hsl2⟩ := hC2
  subst hnL
  intro H locs ls hP hD hS hl
  have hPc := sub_world hP isC hCp
  have hDc := hD.sub isC hnd0 hCp
  have hFc := va_free (wc := wc) hD hS hA isC hCp
  have hfr3 : fr2 + 1 ≤ R.frames := Nat.le_trans hfr2 hfr
  have hlo3 : 8 + (maxL + 11) + lo2 ≤ R.locals := Nat.le_trans hlo2 hlo
  subst hst
  refine va_callv (va_runIN (Ts := []) (As := As) (rest := rest) ⟨hx, hb, hml, hown, fun _ h => absurd h List.not_mem_nil⟩ (hM H.size) ⟨⟨⟨rfl, rfl, hfr3, hlo3, fun w hw a U hW => ?_, List.mem_cons_self⟩, hN.1.at okc _, hN.1.at oki _, ⟨hy1, hy2⟩, fun sig h => ?_, va_Nw.use rfl hlk⟩, hyn, hN.1.at okn _⟩ ⟨preM_blind, fun U hU hW => preM_of hN hPc hDc U hU hW⟩ rfl hn hl.1 rfl (lv_room hrs) hdg ⟨hcl2, hsl2⟩) hS (fun q _ h => hFc q h) hFc (fun u t H1 locs1 ht hvm hw hB hz hk hS1 => ?_)
  · rw [List.mem_singleton] at hw
    subst hw
    exact (hN.1.moved hW).at okc a
  · have h2 := hpd
    rw [h] at h2
    exact (Option.some.inj h2).symm
  · obtain ⟨hP1, hD1⟩ := hB
    rw [ht] at hP1
    obtain ⟨hP2, hD2⟩ := back_world hP hD isC wrI ps hCp hRp hnd hdis hnd2 (hps u) hk hFc hP1 hD1
    exact kk u hw H1 locs1 ls hP2 hD2 hS1 hl
end VC
