/-! my layer: one judgement for machine, world and locals over a packed context -/
def okw (w : Cond) : Prop := w ∈ lw_tbl ∧ goodWord w = true
def KW (U : State) : Prop := ∀ w, okw w → w.before #[] U = true
abbrev ns_Law : Cond := .methodLinkNest RX2 37 yX7_isClause RX7
abbrev ns_Sight : Cond := .methodLinkNest RX4 88 yX7_isClause RX7
/-- what is known of the tables: the words, the nest words, the classes and the two kinds of arrays -/
def KN (D : va_G) (cI cZ : ClassId) (U : State) : Prop := KW U ∧ va_Nw ns_Law U ∧ va_Nw ns_Sight U ∧ va_K D vwCl [(cI, .int), (cZ, .boolean)] U
theorem KW.at {U : State} (h : KW U) {w : Cond} (hw : okw w) (a : Array Value) : w.before a U = true := word_at (State.WarmedH.refl U) (good_of_word hw.2) (h w hw)
theorem KW.moved {s U : State} (hW : s.WarmedH U.vm) (h : KW s) : KW U := fun w hw => word_at hW (good_of_word hw.2) (h w hw)
theorem KN.moved {D : va_G} {cI cZ : ClassId} {s U : State} (hW : s.WarmedH U.vm) (h : KN D cI cZ s) : KN D cI cZ U := ⟨h.1.moved hW, va_Nw.warmM hW h.2.1, va_Nw.warmM hW h.2.2.1, va_K.moved hW.alike h.2.2.2⟩
theorem KN.vm {D : va_G} {cI cZ : ClassId} {s U : State} (hv : s.vm = U.vm) (h : KN D cI cZ s) : KN D cI cZ U := h.moved (hv ▸ State.WarmedH.refl s)
abbrev Cx : Type := Program × Launch × Env × Room × State × MethodId × Array Value × List Frame × Method × Code × Nat × Nat × (State → Prop) × va_G × (Nat → Prop) × Heap × Nat
abbrev gl (Γ : Cx) : Launch := Γ.2.1
abbrev gD (Γ : Cx) : va_G := Γ.2.2.2.2.2.2.2.2.2.2.2.2.2.1
def VV (Γ : Cx) (ws : va_W) (lv : List (Nat × Value)) (pc : Nat) (st : List Value) : Prop :=
  match Γ with
  | (p, l, e, R, s, m, args, below, meth, c, cells, slots, Q, D, A, H0, nL) => ∀ (H : Heap) (locs : List Loc) (ls : Array Slot), va_P D vwCl ws H → va_D A ws → va_S A H0 H locs → lv_has ls nL lv → W p l e R s m args below meth c H locs cells slots Q (F0 m pc ls st)
def CX (Γ : Cx) (cI cZ : ClassId) (cc : ByteArray) (own : String) (nL0 fr lo : Nat) : Prop :=
  match Γ with
  | (p, l, e, R, s, m, args, below, meth, c, cells, slots, Q, D, A, H0, nL) => p.tables.exec = Jvm.exec ∧ c.code = cc ∧ c.maxLocals = nL ∧ nL = nL0 ∧ s.vm.findClass own = some m.cls ∧ KN D cI cZ s ∧ (∀ q, H0.size ≤ q → A q) ∧ fr ≤ R.frames ∧ lo ≤ R.locals ∧ cells ≤ R.cells ∧ slots ≤ R.slots
section VL
variable {Γ : Cx} {cI cZ : ClassId} {cc : ByteArray} {own : String} {nL fr lo : Nat} {ws : va_W} {lv : List (Nat × Value)} {pc : Nat} {st : List Value}
theorem x_iconst (hC : CX Γ cI cZ cc own nL fr lo) {n : Int} (v : Int32) (hdg : decode cc pc = .ok (.iconst n, 1)) (hv : Int32.ofInt n = v) (k : VV Γ ws lv (pc + 1) (.int v :: st)) : VV Γ ws lv pc st := by
  obtain ⟨p, l, e, R, s, m, args, below, meth, c, cells, slots, Q, D, A, H0, nL1⟩ := Γ
  obtain ⟨hx, hb, hml, hnL, hown, hN, hA, hfr, hlo, hcl, hsl⟩ := hC
  subst hnL
  intro H locs ls hP hD hS hl
  exact lv_iconst hx hb hdg hv (k H locs ls hP hD hS hl)
theorem x_bipush (hC : CX Γ cI cZ cc own nL fr lo) {n : Int} (v : Int32) (hdg : decode cc pc = .ok (.bipush n, 2)) (hv : (Int8.ofInt n).toInt32 = v) (k : VV Γ ws lv (pc + 2) (.int v :: st)) : VV Γ ws lv pc st := by
  obtain ⟨p, l, e, R, s, m, args, below, meth, c, cells, slots, Q, D, A, H0, nL1⟩ := Γ
  obtain ⟨hx, hb, hml, hnL, hown, hN, hA, hfr, hlo, hcl, hsl⟩ := hC
  subst hnL
  intro H locs ls hP hD hS hl
  exact lv_bipush hx hb hdg hv (k H locs ls hP hD hS hl)
theorem x_sipush (hC : CX Γ cI cZ cc own nL fr lo) {n : Int} (v : Int32) (hdg : decode cc pc = .ok (.sipush n, 3)) (hv : (Int16.ofInt n).toInt32 = v) (k : VV Γ ws lv (pc + 3) (.int v :: st)) : VV Γ ws lv pc st := by
  obtain ⟨p, l, e, R, s, m, args, below, meth, c, cells, slots, Q, D, A, H0, nL1⟩ := Γ
  obtain ⟨hx, hb, hml, hnL, hown, hN, hA, hfr, hlo, hcl, hsl⟩ := hC
  subst hnL
  intro H locs ls hP hD hS hl
  exact lv_sipush hx hb hdg hv (k H locs ls hP hD hS hl)
theorem x_lconst (hC : CX Γ cI cZ cc own nL fr lo) {n : Fin 2} (v : Int64) (hdg : decode cc pc = .ok (.lconst n, 1)) (hv : Int64.ofNat (n : Nat) = v) (k : VV Γ ws lv (pc + 1) (.long v :: st)) : VV Γ ws lv pc st := by
  obtain ⟨p, l, e, R, s, m, args, below, meth, c, cells, slots, Q, D, A, H0, nL1⟩ := Γ
  obtain ⟨hx, hb, hml, hnL, hown, hN, hA, hfr, hlo, hcl, hsl⟩ := hC
  subst hnL
  intro H locs ls hP hD hS hl
  exact lv_lconst hx hb hdg hv (k H locs ls hP hD hS hl)
theorem x_ldcw (hC : CX Γ cI cZ cc own nL fr lo) {index : Nat} {v : Int32} (hw : okw (.constant own index v)) (hdg : decode cc pc = .ok (.ldc_w index, 3)) (k : VV Γ ws lv (pc + 3) (.int v :: st)) : VV Γ ws lv pc st := by
  obtain ⟨p, l, e, R, s, m, args, below, meth, c, cells, slots, Q, D, A, H0, nL1⟩ := Γ
  obtain ⟨hx, hb, hml, hnL, hown, hN, hA, hfr, hlo, hcl, hsl⟩ := hC
  subst hnL
  intro H locs ls hP hD hS hl
  exact lv_ldcw hx hb hown (hN.1.at hw _) hdg (k H locs ls hP hD hS hl)
theorem x_ldc2 (hC : CX Γ cI cZ cc own nL fr lo) {index : Nat} {v : Int64} (hw : okw (.constantLong own index v)) (hdg : decode cc pc = .ok (.ldc2_w index, 3)) (k : VV Γ ws lv (pc + 3) (.long v :: st)) : VV Γ ws lv pc st := by
  obtain ⟨p, l, e, R, s, m, args, below, meth, c, cells, slots, Q, D, A, H0, nL1⟩ := Γ
  obtain ⟨hx, hb, hml, hnL, hown, hN, hA, hfr, hlo, hcl, hsl⟩ := hC
  subst hnL
  intro H locs ls hP hD hS hl
  exact lv_ldc2 hx hb hown (hN.1.at hw _) hdg (k H locs ls hP hD hS hl)
theorem x_iload_n (hC : CX Γ cI cZ cc own nL fr lo) (q : Nat) {k : Fin 4} {x : Int32} (hdg : decode cc pc = .ok (.iload_n k, 1)) (hq : lv[q]? = some ((k : Nat), .int x)) (kk : VV Γ ws lv (pc + 1) (.int x :: st)) : VV Γ ws lv pc st := by
  obtain ⟨p, l, e, R, s, m, args, below, meth, c, cells, slots, Q, D, A, H0, nL1⟩ := Γ
  obtain ⟨hx, hb, hml, hnL, hown, hN, hA, hfr, hlo, hcl, hsl⟩ := hC
  subst hnL
  intro H locs ls hP hD hS hl
  exact lv_iload_n hx hb hdg rfl (lv_at hl q hq) (kk H locs ls hP hD hS hl)
theorem x_iload (hC : CX Γ cI cZ cc own nL fr lo) (q : Nat) {i : Nat} {x : Int32} (hdg : decode cc pc = .ok (.iload i, 2)) (hq : lv[q]? = some (i, .int x)) (kk : VV Γ ws lv (pc + 2) (.int x :: st)) : VV Γ ws lv pc st := by
  obtain ⟨p, l, e, R, s, m, args, below, meth, c, cells, slots, Q, D, A, H0, nL1⟩ := Γ
  obtain ⟨hx, hb, hml, hnL, hown, hN, hA, hfr, hlo, hcl, hsl⟩ := hC
  subst hnL
  intro H locs ls hP hD hS hl
  exact lv_iload hx hb hdg (lv_at hl q hq) (kk H locs ls hP hD hS hl)
theorem x_lload_n (hC : CX Γ cI cZ cc own nL fr lo) (q : Nat) {k : Fin 4} {x : Int64} (hdg : decode cc pc = .ok (.lload_n k, 1)) (hq : lv[q]? = some ((k : Nat), .long x)) (kk : VV Γ ws lv (pc + 1) (.long x :: st)) : VV Γ ws lv pc st := by
  obtain ⟨p, l, e, R, s, m, args, below, meth, c, cells, slots, Q, D, A, H0, nL1⟩ := Γ
  obtain ⟨hx, hb, hml, hnL, hown, hN, hA, hfr, hlo, hcl, hsl⟩ := hC
  subst hnL
  intro H locs ls hP hD hS hl
  exact lv_lload_n hx hb hdg rfl (lv_at hl q hq) (kk H locs ls hP hD hS hl)
theorem x_lload (hC : CX Γ cI cZ cc own nL fr lo) (q : Nat) {i : Nat} {x : Int64} (hdg : decode cc pc = .ok (.lload i, 2)) (hq : lv[q]? = some (i, .long x)) (kk : VV Γ ws lv (pc + 2) (.long x :: st)) : VV Γ ws lv pc st := by
  obtain ⟨p, l, e, R, s, m, args, below, meth, c, cells, slots, Q, D, A, H0, nL1⟩ := Γ
  obtain ⟨hx, hb, hml, hnL, hown, hN, hA, hfr, hlo, hcl, hsl⟩ := hC
  subst hnL
  intro H locs ls hP hD hS hl
  exact lv_lload hx hb hdg (lv_at hl q hq) (kk H locs ls hP hD hS hl)
theorem x_aload_n (hC : CX Γ cI cZ cc own nL fr lo) (q : Nat) {k : Fin 4} {x : Nat} (hdg : decode cc pc = .ok (.aload_n k, 1)) (hq : lv[q]? = some ((k : Nat), .ref x)) (kk : VV Γ ws lv (pc + 1) (.ref x :: st)) : VV Γ ws lv pc st := by
  obtain ⟨p, l, e, R, s, m, args, below, meth, c, cells, slots, Q, D, A, H0, nL1⟩ := Γ
  obtain ⟨hx, hb, hml, hnL, hown, hN, hA, hfr, hlo, hcl, hsl⟩ := hC
  subst hnL
  intro H locs ls hP hD hS hl
  exact lv_aload_n hx hb hdg rfl (lv_at hl q hq) (kk H locs ls hP hD hS hl)
theorem x_aload (hC : CX Γ cI cZ cc own nL fr lo) (q : Nat) {i : Nat} {x : Nat} (hdg : decode cc pc = .ok (.aload i, 2)) (hq : lv[q]? = some (i, .ref x)) (kk : VV Γ ws lv (pc + 2) (.ref x :: st)) : VV Γ ws lv pc st := by
  obtain ⟨p, l, e, R, s, m, args, below, meth, c, cells, slots, Q, D, A, H0, nL1⟩ := Γ
  obtain ⟨hx, hb, hml, hnL, hown, hN, hA, hfr, hlo, hcl, hsl⟩ := hC
  subst hnL
  intro H locs ls hP hD hS hl
  exact lv_aload hx hb hdg (lv_at hl q hq) (kk H locs ls hP hD hS hl)
theorem x_istore_n (hC : CX Γ cI cZ cc own nL fr lo) {k : Fin 4} {x : Int32} (lv2 : List (Nat × Value)) (ps : List Nat) (hdg : decode cc pc = .ok (.istore_n k, 1)) (hn : (k : Nat) < nL) (hp : lv_pick (((k : Nat), Value.int x) :: lv.filter (fun q => !(q.1 == (k : Nat)) && !(q.1 + 1 == (k : Nat) && q.2.category == 2))) ps = lv2) (kk : VV Γ ws lv2 (pc + 1) st) : VV Γ ws lv pc (.int x :: st) := by
  obtain ⟨p, l, e, R, s, m, args, below, meth, c, cells, slots, Q, D, A, H0, nL1⟩ := Γ
  obtain ⟨hx, hb, hml, hnL, hown, hN, hA, hfr, hlo, hcl, hsl⟩ := hC
  subst hnL
  intro H locs ls hP hD hS hl
  exact lv_istore_n hx hb hdg rfl hl hn rfl (fun ls2 hl2 => kk H locs ls2 hP hD hS (lv_sub hl2 ps hp))
theorem x_istore (hC : CX Γ cI cZ cc own nL fr lo) {k : Nat} {x : Int32} (lv2 : List (Nat × Value)) (ps : List Nat) (hdg : decode cc pc = .ok (.istore k, 2)) (hn : k < nL) (hp : lv_pick ((k, Value.int x) :: lv.filter (fun q => !(q.1 == k) && !(q.1 + 1 == k && q.2.category == 2))) ps = lv2) (kk : VV Γ ws lv2 (pc + 2) st) : VV Γ ws lv pc (.int x :: st) := by
  obtain ⟨p, l, e, R, s, m, args, below, meth, c, cells, slots, Q, D, A, H0, nL1⟩ := Γ
  obtain ⟨hx, hb, hml, hnL, hown, hN, hA, hfr, hlo, hcl, hsl⟩ := hC
  subst hnL
  intro H locs ls hP hD hS hl
  exact lv_istore hx hb hdg hl hn rfl (fun ls2 hl2 => kk H locs ls2 hP hD hS (lv_sub hl2 ps hp))
theorem x_astore_n (hC : CX Γ cI cZ cc own nL fr lo) {k : Fin 4} {x : Nat} (lv2 : List (Nat × Value)) (ps : List Nat) (hdg : decode cc pc = .ok (.astore_n k, 1)) (hn : (k : Nat) < nL) (hp : lv_pick (((k : Nat), Value.ref x) :: lv.filter (fun q => !(q.1 == (k : Nat)) && !(q.1 + 1 == (k : Nat) && q.2.category == 2))) ps = lv2) (kk : VV Γ ws lv2 (pc + 1) st) : VV Γ ws lv pc (.ref x :: st) := by
  obtain ⟨p, l, e, R, s, m, args, below, meth, c, cells, slots, Q, D, A, H0, nL1⟩ := Γ
  obtain ⟨hx, hb, hml, hnL, hown, hN, hA, hfr, hlo, hcl, hsl⟩ := hC
  subst hnL
  intro H locs ls hP hD hS hl
  exact lv_astore_n hx hb hdg rfl hl hn rfl (fun ls2 hl2 => kk H locs ls2 hP hD hS (lv_sub hl2 ps hp))
theorem x_astore (hC : CX Γ cI cZ cc own nL fr lo) {k : Nat} {x : Nat} (lv2 : List (Nat × Value)) (ps : List Nat) (hdg : decode cc pc = .ok (.astore k, 2)) (hn : k < nL) (hp : lv_pick ((k, Value.ref x) :: lv.filter (fun q => !(q.1 == k) && !(q.1 + 1 == k && q.2.category == 2))) ps = lv2) (kk : VV Γ ws lv2 (pc + 2) st) : VV Γ ws lv pc (.ref x :: st) := by
  obtain ⟨p, l, e, R, s, m, args, below, meth, c, cells, slots, Q, D, A, H0, nL1⟩ := Γ
  obtain ⟨hx, hb, hml, hnL, hown, hN, hA, hfr, hlo, hcl, hsl⟩ := hC
  subst hnL
  intro H locs ls hP hD hS hl
  exact lv_astore hx hb hdg hl hn rfl (fun ls2 hl2 => kk H locs ls2 hP hD hS (lv_sub hl2 ps hp))
theorem x_iinc (hC : CX Γ cI cZ cc own nL fr lo) {i : Nat} {n : Int} {x : Int32} (q : Nat) (v : Int32) (lv2 : List (Nat × Value)) (ps : List Nat) (hdg : decode cc pc = .ok (.iinc i n, 3)) (hq : lv[q]? = some (i, .int x)) (hv : x + Int32.ofInt n = v) (hn : i < nL) (hp : lv_pick ((i, Value.int v) :: lv.filter (fun q => !(q.1 == i) && !(q.1 + 1 == i && q.2.category == 2))) ps = lv2) (kk : VV Γ ws lv2 (pc + 3) st) : VV Γ ws lv pc st := by
  obtain ⟨p, l, e, R, s, m, args, below, meth, c, cells, slots, Q, D, A, H0, nL1⟩ := Γ
  obtain ⟨hx, hb, hml, hnL, hown, hN, hA, hfr, hlo, hcl, hsl⟩ := hC
  subst hnL
  intro H locs ls hP hD hS hl
  exact lv_iinc hx hb hdg hl hq hv hn rfl (fun ls2 hl2 => kk H locs ls2 hP hD hS (lv_sub hl2 ps hp))
theorem x_iadd (hC : CX Γ cI cZ cc own nL fr lo) {x y : Int32} (hdg : decode cc pc = .ok (.iadd, 1)) (k : VV Γ ws lv (pc + 1) (.int (x + y) :: st)) : VV Γ ws lv pc (.int y :: .int x :: st) := by
  obtain ⟨p, l, e, R, s, m, args, below, meth, c, cells, slots, Q, D, A, H0, nL1⟩ := Γ
  obtain ⟨hx, hb, hml, hnL, hown, hN, hA, hfr, hlo, hcl, hsl⟩ := hC
  subst hnL
  intro H locs ls hP hD hS hl
  exact lv_iadd hx hb hdg (k H locs ls hP hD hS hl)
theorem x_isub (hC : CX Γ cI cZ cc own nL fr lo) {x y : Int32} (hdg : decode cc pc = .ok (.isub, 1)) (k : VV Γ ws lv (pc + 1) (.int (x - y) :: st)) : VV Γ ws lv pc (.int y :: .int x :: st) := by
  obtain ⟨p, l, e, R, s, m, args, below, meth, c, cells, slots, Q, D, A, H0, nL1⟩ := Γ
  obtain ⟨hx, hb, hml, hnL, hown, hN, hA, hfr, hlo, hcl, hsl⟩ := hC
  subst hnL
  intro H locs ls hP hD hS hl
  exact lv_isub hx hb hdg (k H locs ls hP hD hS hl)
theorem x_imul (hC : CX Γ cI cZ cc own nL fr lo) {x y : Int32} (hdg : decode cc pc = .ok (.imul, 1)) (k : VV Γ ws lv (pc + 1) (.int (x * y) :: st)) : VV Γ ws lv pc (.int y :: .int x :: st) := by
  obtain ⟨p, l, e, R, s, m, args, below, meth, c, cells, slots, Q, D, A, H0, nL1⟩ := Γ
  obtain ⟨hx, hb, hml, hnL, hown, hN, hA, hfr, hlo, hcl, hsl⟩ := hC
  subst hnL
  intro H locs ls hP hD hS hl
  exact lv_imul hx hb hdg (k H locs ls hP hD hS hl)
theorem x_iand (hC : CX Γ cI cZ cc own nL fr lo) {x y : Int32} (hdg : decode cc pc = .ok (.iand, 1)) (k : VV Γ ws lv (pc + 1) (.int (x &&& y) :: st)) : VV Γ ws lv pc (.int y :: .int x :: st) := by
  obtain ⟨p, l, e, R, s, m, args, below, meth, c, cells, slots, Q, D, A, H0, nL1⟩ := Γ
  obtain ⟨hx, hb, hml, hnL, hown, hN, hA, hfr, hlo, hcl, hsl⟩ := hC
  subst hnL
  intro H locs ls hP hD hS hl
  exact lv_iand hx hb hdg (k H locs ls hP hD hS hl)
theorem x_ior (hC : CX Γ cI cZ cc own nL fr lo) {x y : Int32} (hdg : decode cc pc = .ok (.ior, 1)) (k : VV Γ ws lv (pc + 1) (.int (x ||| y) :: st)) : VV Γ ws lv pc (.int y :: .int x :: st) := by
  obtain ⟨p, l, e, R, s, m, args, below, meth, c, cells, slots, Q, D, A, H0, nL1⟩ := Γ
  obtain ⟨hx, hb, hml, hnL, hown, hN, hA, hfr, hlo, hcl, hsl⟩ := hC
  subst hnL
  intro H locs ls hP hD hS hl
  exact lv_ior hx hb hdg (k H locs ls hP hD hS hl)
theorem x_ixor (hC : CX Γ cI cZ cc own nL fr lo) {x y : Int32} (hdg : decode cc pc = .ok (.ixor, 1)) (k : VV Γ ws lv (pc + 1) (.int (x ^^^ y) :: st)) : VV Γ ws lv pc (.int y :: .int x :: st) := by
  obtain ⟨p, l, e, R, s, m, args, below, meth, c, cells, slots, Q, D, A, H0, nL1⟩ := Γ
  obtain ⟨hx, hb, hml, hnL, hown, hN, hA, hfr, hlo, hcl, hsl⟩ := hC
  subst hnL
  intro H locs ls hP hD hS hl
  exact lv_ixor hx hb hdg (k H locs ls hP hD hS hl)
theorem x_ishl (hC : CX Γ cI cZ cc own nL fr lo) {x y : Int32} (hdg : decode cc pc = .ok (.ishl, 1)) (k : VV Γ ws lv (pc + 1) (.int (x <<< (y &&& 31)) :: st)) : VV Γ ws lv pc (.int y :: .int x :: st) := by
  obtain ⟨p, l, e, R, s, m, args, below, meth, c, cells, slots, Q, D, A, H0, nL1⟩ := Γ
  obtain ⟨hx, hb, hml, hnL, hown, hN, hA, hfr, hlo, hcl, hsl⟩ := hC
  subst hnL
  intro H locs ls hP hD hS hl
  exact lv_ishl hx hb hdg (k H locs ls hP hD hS hl)
theorem x_ishr (hC : CX Γ cI cZ cc own nL fr lo) {x y : Int32} (hdg : decode cc pc = .ok (.ishr, 1)) (k : VV Γ ws lv (pc + 1) (.int (x >>> (y &&& 31)) :: st)) : VV Γ ws lv pc (.int y :: .int x :: st) := by
  obtain ⟨p, l, e, R, s, m, args, below, meth, c, cells, slots, Q, D, A, H0, nL1⟩ := Γ
  obtain ⟨hx, hb, hml, hnL, hown, hN, hA, hfr, hlo, hcl, hsl⟩ := hC
  subst hnL
  intro H locs ls hP hD hS hl
  exact lv_ishr hx hb hdg (k H locs ls hP hD hS hl)
theorem x_iushr (hC : CX Γ cI cZ cc own nL fr lo) {x y : Int32} (hdg : decode cc pc = .ok (.iushr, 1)) (k : VV Γ ws lv (pc + 1) (.int ((x.toUInt32 >>> (y.toUInt32 &&& Int32.toUInt32 31)).toInt32) :: st)) : VV Γ ws lv pc (.int y :: .int x :: st) := by
  obtain ⟨p, l, e, R, s, m, args, below, meth, c, cells, slots, Q, D, A, H0, nL1⟩ := Γ
  obtain ⟨hx, hb, hml, hnL, hown, hN, hA, hfr, hlo, hcl, hsl⟩ := hC
  subst hnL
  intro H locs ls hP hD hS hl
  exact lv_iushr hx hb hdg rfl (k H locs ls hP hD hS hl)
theorem x_idiv (hC : CX Γ cI cZ cc own nL fr lo) {x y : Int32} (hdg : decode cc pc = .ok (.idiv, 1)) (hne : ¬ y = 0) (k : VV Γ ws lv (pc + 1) (.int (x / y) :: st)) : VV Γ ws lv pc (.int y :: .int x :: st) := by
  obtain ⟨p, l, e, R, s, m, args, below, meth, c, cells, slots, Q, D, A, H0, nL1⟩ := Γ
  obtain ⟨hx, hb, hml, hnL, hown, hN, hA, hfr, hlo, hcl, hsl⟩ := hC
  subst hnL
  intro H locs ls hP hD hS hl
  exact lv_idiv hx hb hdg hne (k H locs ls hP hD hS hl)
theorem x_irem (hC : CX Γ cI cZ cc own nL fr lo) {x y : Int32} (hdg : decode cc pc = .ok (.irem, 1)) (hne : ¬ y = 0) (k : VV Γ ws lv (pc + 1) (.int (x - x / y * y) :: st)) : VV Γ ws lv pc (.int y :: .int x :: st) := by
  obtain ⟨p, l, e, R, s, m, args, below, meth, c, cells, slots, Q, D, A, H0, nL1⟩ := Γ
  obtain ⟨hx, hb, hml, hnL, hown, hN, hA, hfr, hlo, hcl, hsl⟩ := hC
  subst hnL
  intro H locs ls hP hD hS hl
  exact lv_irem hx hb hdg hne (k H locs ls hP hD hS hl)
theorem x_land (hC : CX Γ cI cZ cc own nL fr lo) {x y : Int64} (hdg : decode cc pc = .ok (.land, 1)) (k : VV Γ ws lv (pc + 1) (.long (x &&& y) :: st)) : VV Γ ws lv pc (.long y :: .long x :: st) := by
  obtain ⟨p, l, e, R, s, m, args, below, meth, c, cells, slots, Q, D, A, H0, nL1⟩ := Γ
  obtain ⟨hx, hb, hml, hnL, hown, hN, hA, hfr, hlo, hcl, hsl⟩ := hC
  subst hnL
  intro H locs ls hP hD hS hl
  exact lv_land hx hb hdg (k H locs ls hP hD hS hl)
theorem x_lor (hC : CX Γ cI cZ cc own nL fr lo) {x y : Int64} (hdg : decode cc pc = .ok (.lor, 1)) (k : VV Γ ws lv (pc + 1) (.long (x ||| y) :: st)) : VV Γ ws lv pc (.long y :: .long x :: st) := by
  obtain ⟨p, l, e, R, s, m, args, below, meth, c, cells, slots, Q, D, A, H0, nL1⟩ := Γ
  obtain ⟨hx, hb, hml, hnL, hown, hN, hA, hfr, hlo, hcl, hsl⟩ := hC
  subst hnL
  intro H locs ls hP hD hS hl
  exact lv_lor hx hb hdg (k H locs ls hP hD hS hl)
theorem x_lushr (hC : CX Γ cI cZ cc own nL fr lo) {x : Int64} {y : Int32} (hdg : decode cc pc = .ok (.lushr, 1)) (k : VV Γ ws lv (pc + 1) (.long ((x.toUInt64 >>> (y.toInt64.toUInt64 &&& Int64.toUInt64 63)).toInt64) :: st)) : VV Γ ws lv pc (.int y :: .long x :: st) := by
  obtain ⟨p, l, e, R, s, m, args, below, meth, c, cells, slots, Q, D, A, H0, nL1⟩ := Γ
  obtain ⟨hx, hb, hml, hnL, hown, hN, hA, hfr, hlo, hcl, hsl⟩ := hC
  subst hnL
  intro H locs ls hP hD hS hl
  exact lv_lushr hx hb hdg rfl (k H locs ls hP hD hS hl)
theorem x_lshl (hC : CX Γ cI cZ cc own nL fr lo) {x : Int64} {y : Int32} (hdg : decode cc pc = .ok (.lshl, 1)) (k : VV Γ ws lv (pc + 1) (.long (x <<< (y.toInt64 &&& 63)) :: st)) : VV Γ ws lv pc (.int y :: .long x :: st) := by
  obtain ⟨p, l, e, R, s, m, args, below, meth, c, cells, slots, Q, D, A, H0, nL1⟩ := Γ
  obtain ⟨hx, hb, hml, hnL, hown, hN, hA, hfr, hlo, hcl, hsl⟩ := hC
  subst hnL
  intro H locs ls hP hD hS hl
  exact lv_lshl hx hb hdg rfl (k H locs ls hP hD hS hl)
theorem x_lshr (hC : CX Γ cI cZ cc own nL fr lo) {x : Int64} {y : Int32} (hdg : decode cc pc = .ok (.lshr, 1)) (k : VV Γ ws lv (pc + 1) (.long (x >>> (y.toInt64 &&& 63)) :: st)) : VV Γ ws lv pc (.int y :: .long x :: st) := by
  obtain ⟨p, l, e, R, s, m, args, below, meth, c, cells, slots, Q, D, A, H0, nL1⟩ := Γ
  obtain ⟨hx, hb, hml, hnL, hown, hN, hA, hfr, hlo, hcl, hsl⟩ := hC
  subst hnL
  intro H locs ls hP hD hS hl
  exact lv_lshr hx hb hdg rfl (k H locs ls hP hD hS hl)
theorem x_i2l (hC : CX Γ cI cZ cc own nL fr lo) {x : Int32} (hdg : decode cc pc = .ok (.i2l, 1)) (k : VV Γ ws lv (pc + 1) (.long x.toInt64 :: st)) : VV Γ ws lv pc (.int x :: st) := by
  obtain ⟨p, l, e, R, s, m, args, below, meth, c, cells, slots, Q, D, A, H0, nL1⟩ := Γ
  obtain ⟨hx, hb, hml, hnL, hown, hN, hA, hfr, hlo, hcl, hsl⟩ := hC
  subst hnL
  intro H locs ls hP hD hS hl
  exact lv_i2l hx hb hdg rfl (k H locs ls hP hD hS hl)
theorem x_l2i (hC : CX Γ cI cZ cc own nL fr lo) {x : Int64} (hdg : decode cc pc = .ok (.l2i, 1)) (k : VV Γ ws lv (pc + 1) (.int x.toInt32 :: st)) : VV Γ ws lv pc (.long x :: st) := by
  obtain ⟨p, l, e, R, s, m, args, below, meth, c, cells, slots, Q, D, A, H0, nL1⟩ := Γ
  obtain ⟨hx, hb, hml, hnL, hown, hN, hA, hfr, hlo, hcl, hsl⟩ := hC
  subst hnL
  intro H locs ls hP hD hS hl
  exact lv_l2i hx hb hdg rfl (k H locs ls hP hD hS hl)
theorem x_lcmp (hC : CX Γ cI cZ cc own nL fr lo) {x y : Int64} (hdg : decode cc pc = .ok (.lcmp, 1)) (k : VV Γ ws lv (pc + 1) (.int (lg_cmp x y) :: st)) : VV Γ ws lv pc (.long y :: .long x :: st) := by
  obtain ⟨p, l, e, R, s, m, args, below, meth, c, cells, slots, Q, D, A, H0, nL1⟩ := Γ
  obtain ⟨hx, hb, hml, hnL, hown, hN, hA, hfr, hlo, hcl, hsl⟩ := hC
  subst hnL
  intro H locs ls hP hD hS hl
  exact W.lcmp hx hb hdg (k H locs ls hP hD hS hl)
theorem x_dup (hC : CX Γ cI cZ cc own nL fr lo) {v : Value} (hdg : decode cc pc = .ok (.dup, 1)) (hv : v.category = 1) (k : VV Γ ws lv (pc + 1) (v :: v :: st)) : VV Γ ws lv pc (v :: st) := by
  obtain ⟨p, l, e, R, s, m, args, below, meth, c, cells, slots, Q, D, A, H0, nL1⟩ := Γ
  obtain ⟨hx, hb, hml, hnL, hown, hN, hA, hfr, hlo, hcl, hsl⟩ := hC
  subst hnL
  intro H locs ls hP hD hS hl
  exact lv_dup hx hb hdg hv (k H locs ls hP hD hS hl)
theorem x_dup2 (hC : CX Γ cI cZ cc own nL fr lo) {v w : Value} (hdg : decode cc pc = .ok (.dup2, 1)) (hv : v.category = 1) (hw : w.category = 1) (k : VV Γ ws lv (pc + 1) (v :: w :: v :: w :: st)) : VV Γ ws lv pc (v :: w :: st) := by
  obtain ⟨p, l, e, R, s, m, args, below, meth, c, cells, slots, Q, D, A, H0, nL1⟩ := Γ
  obtain ⟨hx, hb, hml, hnL, hown, hN, hA, hfr, hlo, hcl, hsl⟩ := hC
  subst hnL
  intro H locs ls hP hD hS hl
  exact lv_dup2_11 hx hb hdg hv hw (k H locs ls hP hD hS hl)
theorem x_if_eq (hC : CX Γ cI cZ cc own nL fr lo) {x : Int32} {off : Int} (tgt : Nat) (hdg : decode cc pc = .ok (.ifCond .eq off, 3)) (ht : (pc : Int) + off = (tgt : Int)) (kt : x = 0 → VV Γ ws lv tgt st) (kf : ¬ x = 0 → VV Γ ws lv (pc + 3) st) : VV Γ ws lv pc (.int x :: st) := by
  obtain ⟨p, l, e, R, s, m, args, below, meth, c, cells, slots, Q, D, A, H0, nL1⟩ := Γ
  obtain ⟨hx, hb, hml, hnL, hown, hN, hA, hfr, hlo, hcl, hsl⟩ := hC
  subst hnL
  intro H locs ls hP hD hS hl
  exact lv_if_eq hx hb hdg ht (fun q => kt q H locs ls hP hD hS hl) (fun q => kf q H locs ls hP hD hS hl)
theorem x_if_ne (hC : CX Γ cI cZ cc own nL fr lo) {x : Int32} {off : Int} (tgt : Nat) (hdg : decode cc pc = .ok (.ifCond .ne off, 3)) (ht : (pc : Int) + off = (tgt : Int)) (kt : ¬ x = 0 → VV Γ ws lv tgt st) (kf : x = 0 → VV Γ ws lv (pc + 3) st) : VV Γ ws lv pc (.int x :: st) := by
  obtain ⟨p, l, e, R, s, m, args, below, meth, c, cells, slots, Q, D, A, H0, nL1⟩ := Γ
  obtain ⟨hx, hb, hml, hnL, hown, hN, hA, hfr, hlo, hcl, hsl⟩ := hC
  subst hnL
  intro H locs ls hP hD hS hl
  exact lv_if_ne hx hb hdg ht (fun q => kt q H locs ls hP hD hS hl) (fun q => kf q H locs ls hP hD hS hl)
theorem x_if_lt (hC : CX Γ cI cZ cc own nL fr lo) {x : Int32} {off : Int} (tgt : Nat) (hdg : decode cc pc = .ok (.ifCond .lt off, 3)) (ht : (pc : Int) + off = (tgt : Int)) (kt : x < 0 → VV Γ ws lv tgt st) (kf : ¬ x < 0 → VV Γ ws lv (pc + 3) st) : VV Γ ws lv pc (.int x :: st) := by
  obtain ⟨p, l, e, R, s, m, args, below, meth, c, cells, slots, Q, D, A, H0, nL1⟩ := Γ
  obtain ⟨hx, hb, hml, hnL, hown, hN, hA, hfr, hlo, hcl, hsl⟩ := hC
  subst hnL
  intro H locs ls hP hD hS hl
  exact lv_if_lt hx hb hdg ht (fun q => kt q H locs ls hP hD hS hl) (fun q => kf q H locs ls hP hD hS hl)
theorem x_if_ge (hC : CX Γ cI cZ cc own nL fr lo) {x : Int32} {off : Int} (tgt : Nat) (hdg : decode cc pc = .ok (.ifCond .ge off, 3)) (ht : (pc : Int) + off = (tgt : Int)) (kt : 0 ≤ x → VV Γ ws lv tgt st) (kf : ¬ 0 ≤ x → VV Γ ws lv (pc + 3) st) : VV Γ ws lv pc (.int x :: st) := by
  obtain ⟨p, l, e, R, s, m, args, below, meth, c, cells, slots, Q, D, A, H0, nL1⟩ := Γ
  obtain ⟨hx, hb, hml, hnL, hown, hN, hA, hfr, hlo, hcl, hsl⟩ := hC
  subst hnL
  intro H locs ls hP hD hS hl
  exact lv_if_ge hx hb hdg ht (fun q => kt q H locs ls hP hD hS hl) (fun q => kf q H locs ls hP hD hS hl)
theorem x_if_gt (hC : CX Γ cI cZ cc own nL fr lo) {x : Int32} {off : Int} (tgt : Nat) (hdg : decode cc pc = .ok (.ifCond .gt off, 3)) (ht : (pc : Int) + off = (tgt : Int)) (kt : 0 < x → VV Γ ws lv tgt st) (kf : ¬ 0 < x → VV Γ ws lv (pc + 3) st) : VV Γ ws lv pc (.int x :: st) := by
  obtain ⟨p, l, e, R, s, m, args, below, meth, c, cells, slots, Q, D, A, H0, nL1⟩ := Γ
  obtain ⟨hx, hb, hml, hnL, hown, hN, hA, hfr, hlo, hcl, hsl⟩ := hC
  subst hnL
  intro H locs ls hP hD hS hl
  exact lv_if_gt hx hb hdg ht (fun q => kt q H locs ls hP hD hS hl) (fun q => kf q H locs ls hP hD hS hl)
theorem x_if_le (hC : CX Γ cI cZ cc own nL fr lo) {x : Int32} {off : Int} (tgt : Nat) (hdg : decode cc pc = .ok (.ifCond .le off, 3)) (ht : (pc : Int) + off = (tgt : Int)) (kt : x ≤ 0 → VV Γ ws lv tgt st) (kf : ¬ x ≤ 0 → VV Γ ws lv (pc + 3) st) : VV Γ ws lv pc (.int x :: st) := by
  obtain ⟨p, l, e, R, s, m, args, below, meth, c, cells, slots, Q, D, A, H0, nL1⟩ := Γ
  obtain ⟨hx, hb, hml, hnL, hown, hN, hA, hfr, hlo, hcl, hsl⟩ := hC
  subst hnL
  intro H locs ls hP hD hS hl
  exact lv_if_le hx hb hdg ht (fun q => kt q H locs ls hP hD hS hl) (fun q => kf q H locs ls hP hD hS hl)
theorem x_icmp_eq (hC : CX Γ cI cZ cc own nL fr lo) {x y : Int32} {off : Int} (tgt : Nat) (hdg : decode cc pc = .ok (.if_icmp .eq off, 3)) (ht : (pc : Int) + off = (tgt : Int)) (kt : x = y → VV Γ ws lv tgt st) (kf : ¬ x = y → VV Γ ws lv (pc + 3) st) : VV Γ ws lv pc (.int y :: .int x :: st) := by
  obtain ⟨p, l, e, R, s, m, args, below, meth, c, cells, slots, Q, D, A, H0, nL1⟩ := Γ
  obtain ⟨hx, hb, hml, hnL, hown, hN, hA, hfr, hlo, hcl, hsl⟩ := hC
  subst hnL
  intro H locs ls hP hD hS hl
  exact lv_icmp_eq hx hb hdg ht (fun q => kt q H locs ls hP hD hS hl) (fun q => kf q H locs ls hP hD hS hl)
theorem x_icmp_ne (hC : CX Γ cI cZ cc own nL fr lo) {x y : Int32} {off : Int} (tgt : Nat) (hdg : decode cc pc = .ok (.if_icmp .ne off, 3)) (ht : (pc : Int) + off = (tgt : Int)) (kt : ¬ x = y → VV Γ ws lv tgt st) (kf : x = y → VV Γ ws lv (pc + 3) st) : VV Γ ws lv pc (.int y :: .int x :: st) := by
  obtain ⟨p, l, e, R, s, m, args, below, meth, c, cells, slots, Q, D, A, H0, nL1⟩ := Γ
  obtain ⟨hx, hb, hml, hnL, hown, hN, hA, hfr, hlo, hcl, hsl⟩ := hC
  subst hnL
  intro H locs ls hP hD hS hl
  exact lv_icmp_ne hx hb hdg ht (fun q => kt q H locs ls hP hD hS hl) (fun q => kf q H locs ls hP hD hS hl)
theorem x_icmp_lt (hC : CX Γ cI cZ cc own nL fr lo) {x y : Int32} {off : Int} (tgt : Nat) (hdg : decode cc pc = .ok (.if_icmp .lt off, 3)) (ht : (pc : Int) + off = (tgt : Int)) (kt : x < y → VV Γ ws lv tgt st) (kf : ¬ x < y → VV Γ ws lv (pc + 3) st) : VV Γ ws lv pc (.int y :: .int x :: st) := by
  obtain ⟨p, l, e, R, s, m, args, below, meth, c, cells, slots, Q, D, A, H0, nL1⟩ := Γ
  obtain ⟨hx, hb, hml, hnL, hown, hN, hA, hfr, hlo, hcl, hsl⟩ := hC
  subst hnL
  intro H locs ls hP hD hS hl
  exact lv_icmp_lt hx hb hdg ht (fun q => kt q H locs ls hP hD hS hl) (fun q => kf q H locs ls hP hD hS hl)
theorem x_icmp_ge (hC : CX Γ cI cZ cc own nL fr lo) {x y : Int32} {off : Int} (tgt : Nat) (hdg : decode cc pc = .ok (.if_icmp .ge off, 3)) (ht : (pc : Int) + off = (tgt : Int)) (kt : y ≤ x → VV Γ ws lv tgt st) (kf : ¬ y ≤ x → VV Γ ws lv (pc + 3) st) : VV Γ ws lv pc (.int y :: .int x :: st) := by
  obtain ⟨p, l, e, R, s, m, args, below, meth, c, cells, slots, Q, D, A, H0, nL1⟩ := Γ
  obtain ⟨hx, hb, hml, hnL, hown, hN, hA, hfr, hlo, hcl, hsl⟩ := hC
  subst hnL
  intro H locs ls hP hD hS hl
  exact lv_icmp_ge hx hb hdg ht (fun q => kt q H locs ls hP hD hS hl) (fun q => kf q H locs ls hP hD hS hl)
theorem x_icmp_gt (hC : CX Γ cI cZ cc own nL fr lo) {x y : Int32} {off : Int} (tgt : Nat) (hdg : decode cc pc = .ok (.if_icmp .gt off, 3)) (ht : (pc : Int) + off = (tgt : Int)) (kt : y < x → VV Γ ws lv tgt st) (kf : ¬ y < x → VV Γ ws lv (pc + 3) st) : VV Γ ws lv pc (.int y :: .int x :: st) := by
  obtain ⟨p, l, e, R, s, m, args, below, meth, c, cells, slots, Q, D, A, H0, nL1⟩ := Γ
  obtain ⟨hx, hb, hml, hnL, hown, hN, hA, hfr, hlo, hcl, hsl⟩ := hC
  subst hnL
  intro H locs ls hP hD hS hl
  exact lv_icmp_gt hx hb hdg ht (fun q => kt q H locs ls hP hD hS hl) (fun q => kf q H locs ls hP hD hS hl)
theorem x_icmp_le (hC : CX Γ cI cZ cc own nL fr lo) {x y : Int32} {off : Int} (tgt : Nat) (hdg : decode cc pc = .ok (.if_icmp .le off, 3)) (ht : (pc : Int) + off = (tgt : Int)) (kt : x ≤ y → VV Γ ws lv tgt st) (kf : ¬ x ≤ y → VV Γ ws lv (pc + 3) st) : VV Γ ws lv pc (.int y :: .int x :: st) := by
  obtain ⟨p, l, e, R, s, m, args, below, meth, c, cells, slots, Q, D, A, H0, nL1⟩ := Γ
  obtain ⟨hx, hb, hml, hnL, hown, hN, hA, hfr, hlo, hcl, hsl⟩ := hC
  subst hnL
  intro H locs ls hP hD hS hl
  exact lv_icmp_le hx hb hdg ht (fun q => kt q H locs ls hP hD hS hl) (fun q => kf q H locs ls hP hD hS hl)
theorem x_goto (hC : CX Γ cI cZ cc own nL fr lo) {off : Int} (tgt : Nat) (hdg : decode cc pc = .ok (.goto off, 3)) (ht : (pc : Int) + off = (tgt : Int)) (k : VV Γ ws lv tgt st) : VV Γ ws lv pc st := by
  obtain ⟨p, l, e, R, s, m, args, below, meth, c, cells, slots, Q, D, A, H0, nL1⟩ := Γ
  obtain ⟨hx, hb, hml, hnL, hown, hN, hA, hfr, hlo, hcl, hsl⟩ := hC
  subst hnL
  intro H locs ls hP hD hS hl
  exact lv_goto hx hb hdg ht (k H locs ls hP hD hS hl)
theorem x_tabOut (hC : CX Γ cI cZ cc own nL fr lo) {dflt tl th : Int} {offs : Array Int} {len : Nat} {x : Int32} (tgt : Nat) (hdg : decode cc pc = .ok (.tableswitch dflt tl th offs, len)) (h : x.toInt < tl ∨ th < x.toInt) (ht : (pc : Int) + dflt = (tgt : Int)) (k : VV Γ ws lv tgt st) : VV Γ ws lv pc (.int x :: st) := by
  obtain ⟨p, l, e, R, s, m, args, below, meth, c, cells, slots, Q, D, A, H0, nL1⟩ := Γ
  obtain ⟨hx, hb, hml, hnL, hown, hN, hA, hfr, hlo, hcl, hsl⟩ := hC
  subst hnL
  intro H locs ls hP hD hS hl
  exact lv_tableOut hx hb hdg h ht (k H locs ls hP hD hS hl)
theorem x_tabIn (hC : CX Γ cI cZ cc own nL fr lo) {dflt tl th : Int} {offs : Array Int} {len : Nat} {x : Int32} {off : Int} (tgt : Nat) (hdg : decode cc pc = .ok (.tableswitch dflt tl th offs, len)) (h1 : ¬ x.toInt < tl) (h2 : ¬ th < x.toInt) (ho : offs[(x.toInt - tl).toNat]? = some off) (ht : (pc : Int) + off = (tgt : Int)) (k : VV Γ ws lv tgt st) : VV Γ ws lv pc (.int x :: st) := by
  obtain ⟨p, l, e, R, s, m, args, below, meth, c, cells, slots, Q, D, A, H0, nL1⟩ := Γ
  obtain ⟨hx, hb, hml, hnL, hown, hN, hA, hfr, hlo, hcl, hsl⟩ := hC
  subst hnL
  intro H locs ls hP hD hS hl
  exact lv_tableIn hx hb hdg h1 h2 ho ht (k H locs ls hP hD hS hl)
theorem x_look (hC : CX Γ cI cZ cc own nL fr lo) {dflt : Int} {ps : Array (Int × Int)} {len : Nat} {x : Int32} {off : Int} (tgt : Nat) (hdg : decode cc pc = .ok (.lookupswitch dflt ps, len)) (hp : (ps.toList.zip (ps.toList.drop 1)).all (fun (a, next) => a.1 < next.1) = true) (ho : Op.lookupswitch.offset ps.toList dflt x.toInt = off) (ht : (pc : Int) + off = (tgt : Int)) (k : VV Γ ws lv tgt st) : VV Γ ws lv pc (.int x :: st) := by
  obtain ⟨p, l, e, R, s, m, args, below, meth, c, cells, slots, Q, D, A, H0, nL1⟩ := Γ
  obtain ⟨hx, hb, hml, hnL, hown, hN, hA, hfr, hlo, hcl, hsl⟩ := hC
  subst hnL
  intro H locs ls hP hD hS hl
  exact lv_lookup hx hb hdg hp ho ht (k H locs ls hP hD hS hl)
theorem x_get (hC : CX Γ cI cZ cc own nL fr lo) (ci : Nat) {C : String} {T : u_T} {N index a : Nat} {fs : List Value} {v : Value} (hin : ∀ w ∈ u_ws C T N, w ∈ lw_tbl ∧ goodWord w = true) (q0 : Nat) (he : ws[q0]? = some (a, .inr (ci, fs))) (hc : vwCl[ci]? = some (C, T, N)) (k : Nat) (hk : k < N) (hw : okw (.fieldLink own index (T k).1 (T k).2.1 (T k).2.2.1)) (hv : fs[k]? = some v) (hdg : decode cc pc = .ok (.getfield index, 3)) (kk : VV Γ ws lv (pc + 3) (v :: st)) : VV Γ ws lv pc (.ref a :: st) := by
  obtain ⟨p, l, e, R, s, m, args, below, meth, c, cells, slots, Q, D, A, H0, nL1⟩ := Γ
  obtain ⟨hx, hb, hml, hnL, hown, hN, hA, hfr, hlo, hcl, hsl⟩ := hC
  subst hnL
  intro H locs ls hP hD hS hl
  exact va_get (Ts := u_ws C T N) hx hb (fun w h => hN.1.at (hin w h) _) (fun _ h => h) hown hN.2.2.2 hP q0 he hc k hk (hN.1.at hw _) (fun _ h => h) hv hdg (kk H locs ls hP hD hS hl)
theorem x_put (hC : CX Γ cI cZ cc own nL fr lo) (ci : Nat) {C : String} {T : u_T} {N index a : Nat} {fs : List Value} {v : Value} {ty : FieldType} {ty0 : Nat → FieldType} (hty : ∀ k, k < N → parseFieldDescriptor (T k).2.2.1 = some (ty0 k)) (hnm : ∀ a, a < N → ∀ b, b < N → a ≠ b → (T a).2.1 ≠ (T b).2.1) (hin : ∀ w ∈ u_ws C T N, w ∈ lw_tbl ∧ goodWord w = true) (q0 : Nat) (he : ws[q0]? = some (a, .inr (ci, fs))) (hc : vwCl[ci]? = some (C, T, N)) (k : Nat) (hk : k < N) (hw : okw (.fieldLink own index (T k).1 (T k).2.1 (T k).2.2.1)) (hfin : (T k).2.2.2 = false) (hd : parseFieldDescriptor (T k).2.2.1 = some ty) (hn : narrow ty v = v) (hfit : fits ty v = true) (hll : k < fs.length) (ws2 : va_W) (hs : ws.set q0 (a, .inr (ci, fs.set k v)) = ws2) (hdg : decode cc pc = .ok (.putfield index, 3)) (kk : VV Γ ws2 lv (pc + 3) st) : VV Γ ws lv pc (v :: .ref a :: st) := by
  obtain ⟨p, l, e, R, s, m, args, below, meth, c, cells, slots, Q, D, A, H0, nL1⟩ := Γ
  obtain ⟨hx, hb, hml, hnL, hown, hN, hA, hfr, hlo, hcl, hsl⟩ := hC
  subst hnL
  intro H locs ls hP hD hS hl
  subst hs
  exact va_put (Ts := u_ws C T N) hx hb (fun w h => hN.1.at (hin w h) _) (fun _ h => h) ty0 hty hnm hown hN.2.2.2 hP hD hS q0 he hc k hk (hN.1.at hw _) (fun _ h => h) hfin hd hn hfit hll hdg (fun H1 locs1 hP1 hD1 hS1 => kk H1 locs1 ls hP1 hD1 hS1 hl)
theorem x_iald (hC : CX Γ cI cZ cc own nL fr lo) (q0 : Nat) {a n : Nat} {f : Nat → Int32} {i : Int32} (ha : ws[q0]? = some (a, .inl (cI, n, .inl f))) (hin : vp_in i n) (hdg : decode cc pc = .ok (.iaload, 1)) (kk : VV Γ ws lv (pc + 1) (.int (f i.toNatClampNeg) :: st)) : VV Γ ws lv pc (.int i :: .ref a :: st) := by
  obtain ⟨p, l, e, R, s, m, args, below, meth, c, cells, slots, Q, D, A, H0, nL1⟩ := Γ
  obtain ⟨hx, hb, hml, hnL, hown, hN, hA, hfr, hlo, hcl, hsl⟩ := hC
  subst hnL
  intro H locs ls hP hD hS hl
  exact va_iald hx hb hN.2.2.2 hP q0 0 ha rfl hin hdg (kk H locs ls hP hD hS hl)
theorem x_zald (hC : CX Γ cI cZ cc own nL fr lo) (q0 : Nat) {a n : Nat} {f : Nat → Int32} {i : Int32} (ha : ws[q0]? = some (a, .inl (cZ, n, .inl f))) (hin : vp_in i n) (hdg : decode cc pc = .ok (.baload, 1)) (kk : VV Γ ws lv (pc + 1) (.int (f i.toNatClampNeg) :: st)) : VV Γ ws lv pc (.int i :: .ref a :: st) := by
  obtain ⟨p, l, e, R, s, m, args, below, meth, c, cells, slots, Q, D, A, H0, nL1⟩ := Γ
  obtain ⟨hx, hb, hml, hnL, hown, hN, hA, hfr, hlo, hcl, hsl⟩ := hC
  subst hnL
  intro H locs ls hP hD hS hl
  exact va_zald hx hb hN.2.2.2 hP q0 1 ha rfl hin hdg (kk H locs ls hP hD hS hl)
theorem x_iast (hC : CX Γ cI cZ cc own nL fr lo) (q0 : Nat) {a n : Nat} {f : Nat → Int32} {i x : Int32} (ha : ws[q0]? = some (a, .inl (cI, n, .inl f))) (hin : vp_in i n) (f2 : Nat → Int32) (hf : f2 = upd f i.toNatClampNeg x) (ws2 : va_W) (hs : ws.set q0 (a, .inl (cI, n, .inl f2)) = ws2) (hdg : decode cc pc = .ok (.iastore, 1)) (kk : VV Γ ws2 lv (pc + 1) st) : VV Γ ws lv pc (.int x :: .int i :: .ref a :: st) := by
  obtain ⟨p, l, e, R, s, m, args, below, meth, c, cells, slots, Q, D, A, H0, nL1⟩ := Γ
  obtain ⟨hx, hb, hml, hnL, hown, hN, hA, hfr, hlo, hcl, hsl⟩ := hC
  subst hnL
  intro H locs ls hP hD hS hl
  subst hs
  subst hf
  exact va_iast hx hb hN.2.2.2 hP hD hS q0 0 ha rfl hin hdg (fun H1 locs1 hP1 hD1 hS1 => kk H1 locs1 ls hP1 hD1 hS1 hl)
theorem x_zast (hC : CX Γ cI cZ cc own nL fr lo) (q0 : Nat) {a n : Nat} {f : Nat → Int32} {i x : Int32} (ha : ws[q0]? = some (a, .inl (cZ, n, .inl f))) (hin : vp_in i n) (f2 : Nat → Int32) (hf : f2 = upd f i.toNatClampNeg (vp_nar .boolean x)) (ws2 : va_W) (hs : ws.set q0 (a, .inl (cZ, n, .inl f2)) = ws2) (hdg : decode cc pc = .ok (.bastore, 1)) (kk : VV Γ ws2 lv (pc + 1) st) : VV Γ ws lv pc (.int x :: .int i :: .ref a :: st) := by
  obtain ⟨p, l, e, R, s, m, args, below, meth, c, cells, slots, Q, D, A, H0, nL1⟩ := Γ
  obtain ⟨hx, hb, hml, hnL, hown, hN, hA, hfr, hlo, hcl, hsl⟩ := hC
  subst hnL
  intro H locs ls hP hD hS hl
  subst hs
  subst hf
  exact va_zast hx hb hN.2.2.2 hP hD hS q0 1 ha rfl hin hdg (fun H1 locs1 hP1 hD1 hS1 => kk H1 locs1 ls hP1 hD1 hS1 hl)
theorem x_alen (hC : CX Γ cI cZ cc own nL fr lo) (q0 : Nat) {a : Nat} {x : vp_A} {v : Int32} (ha : ws[q0]? = some (a, .inl (cI, x))) (hv : Int32.ofNat x.1 = v) (hdg : decode cc pc = .ok (.arraylength, 1)) (kk : VV Γ ws lv (pc + 1) (.int v :: st)) : VV Γ ws lv pc (.ref a :: st) := by
  obtain ⟨p, l, e, R, s, m, args, below, meth, c, cells, slots, Q, D, A, H0, nL1⟩ := Γ
  obtain ⟨hx, hb, hml, hnL, hown, hN, hA, hfr, hlo, hcl, hsl⟩ := hC
  subst hnL
  intro H locs ls hP hD hS hl
  exact va_alen hx hb hN.2.2.2 hP q0 0 ha rfl hv hdg (kk H locs ls hP hD hS hl)
theorem x_top {x : Int32} (k : ∀ y : Int32, y = x → VV Γ ws lv pc (.int y :: st)) : VV Γ ws lv pc (.int x :: st) := k x rfl
theorem x_lsub {lv2 : List (Nat × Value)} (ps : List Nat) (hp : lv_pick lv ps = lv2) (k : VV Γ ws lv2 pc st) : VV Γ ws lv pc st := by
  obtain ⟨p, l, e, R, s, m, args, below, meth, c, cells, slots, Q, D, A, H0, nL1⟩ := Γ
  intro H locs ls hP hD hS hl
  exact k H locs ls hP hD hS (lv_sub hl ps hp)
abbrev PreM (D : va_G) (cI cZ : ClassId) (av : List Value) (w0 : va_W) (sz : Nat) : Array Value → State → Prop := va_Pc av (fun U => U.heap.size = sz ∧ KN D cI cZ U ∧ va_P D vwCl w0 U.heap ∧ va_D (fun _ => True) w0)
def Mi (l : Launch) (D : va_G) (cI cZ : ClassId) (y : MethodName) (cc : ByteArray) (nL : Nat) (rt : FieldType) (fr lo : Nat) (av : List Value) (w0 : va_W) {S : Type} (w1 : S → va_W) (post : Int32 → S → Prop) : Prop :=
  ∀ sz : Nat, Met l y [.code y cc nL (some rt)] { frames := fr, cells := 0, slots := 0, locals := lo } (PreM D cI cZ av w0 sz) (va_Qi post (fun u t => va_P D vwCl (w1 u) t.heap ∧ va_D (va_A w0 sz) (w1 u)) (va_A w0 sz)) 0 0 (va_A w0 sz)
def Mv (l : Launch) (D : va_G) (cI cZ : ClassId) (y : MethodName) (cc : ByteArray) (nL : Nat) (fr lo : Nat) (av : List Value) (w0 : va_W) {S : Type} (w1 : S → va_W) (post : S → Prop) : Prop :=
  ∀ sz : Nat, Met l y [.code y cc nL none] { frames := fr, cells := 0, slots := 0, locals := lo } (PreM D cI cZ av w0 sz) (va_Qv post (fun u t => va_P D vwCl (w1 u) t.heap ∧ va_D (va_A w0 sz) (w1 u)) (va_A w0 sz)) 0 0 (va_A w0 sz)
def Mr (l : Launch) (D : va_G) (cI cZ : ClassId) (y : MethodName) (cc : ByteArray) (nL : Nat) (rt : FieldType) (fr lo : Nat) (av : List Value) (w0 : va_W) {S : Type} (w1 : S → va_W) (a0 : Nat) (post : S → Prop) : Prop :=
  ∀ sz : Nat, Met l y [.code y cc nL (some rt)] { frames := fr, cells := 0, slots := 0, locals := lo } (PreM D cI cZ av w0 sz) (va_Qr post (fun u a t => a = a0 ∧ va_P D vwCl (w1 u) t.heap ∧ va_D (va_A w0 sz) (w1 u)) (va_A w0 sz)) 0 0 (va_A w0 sz)
def okV (y : MethodName) (cc : ByteArray) (nL : Nat) (rt : Option FieldType) (n : Nat) : Prop := okw (.code y cc nL rt) ∧ okw (.initialized y.cls) ∧ okw (.instanceMethod y) ∧ okw (.selects y.cls y y) ∧ y.cls ≠ "java/lang/invoke/MethodHandle" ∧ y.cls ≠ "java/lang/invoke/VarHandle" ∧ (parseMethodDescriptor y.desc).map (fun d => d.parameters.length) = some n
def okS (y : MethodName) (cc : ByteArray) (nL : Nat) (rt : Option FieldType) (n : Nat) : Prop := okw (.code y cc nL rt) ∧ okw (.initialized y.cls) ∧ okw (.static y) ∧ y.cls ≠ "java/lang/invoke/MethodHandle" ∧ y.cls ≠ "java/lang/invoke/VarHandle" ∧ (parseMethodDescriptor y.desc).map (fun d => d.parameters.length) = some n
theorem preM_blind {D : va_G} {av : List Value} {w0 : va_W} {sz : Nat} : FrameBlind (PreM D cI cZ av w0 sz) := by
  intro a U g mk q
  obtain ⟨q0, q1, qN, qP, qD⟩ := q
  exact ⟨q0, q1, KN.vm (s := U) (U := U.calling g mk a) rfl qN, qP, qD⟩
theorem preM_of {D : va_G} {av : List Value} {w0 : va_W} {s : State} {H : Heap} {A : Nat → Prop} (hN : KN D cI cZ s) (hP : va_P D vwCl w0 H) (hD : va_D A w0) (U : State) (hU : U.heap = H) (hW : s.WarmedH U.vm) : PreM D cI cZ av w0 H.size av.toArray U :=
  ⟨rfl, by rw [hU], hN.moved hW, by rw [hU]; exact hP, hD.weaken (fun _ _ _ _ => trivial)⟩
/-- the world behind a call, back in the caller's order -/
theorem back_world {D : va_G} {A : Nat → Prop} {wc wr w1 ws2 : va_W} {H H1 : Heap} (hP : va_P D vwCl ws H) (hD : va_D A ws) (isC isR ps : List Nat) (hC : isC.map (fun i => ws[i]?) = wc.map some) (hR : isR.map (fun i => ws[i]?) = wr.map some) (hn : va_nd isR = true) (hdis : ∀ i ∈ isR, i ∉ isC) (hn2 : va_nd ps = true) (hps : ps.map (fun i => (wr ++ w1)[i]?) = ws2.map some)
    (hk : ∀ q : Nat, q < H.size → ¬ va_A wc H.size q → H1[q]? = H[q]?) (hF : ∀ q, va_A wc H.size q → A q) (hP1 : va_P D vwCl w1 H1) (hD1 : va_D (va_A wc H.size) w1) : va_P D vwCl ws2 H1 ∧ va_D A ws2 := by
  obtain ⟨a, b⟩ := va_join (wr := wr) (w1 := w1) hP hD isC isR hC hR hn hdis hk hF hP1 hD1
  have b2 := b.sub ps hn2 hps
  refine ⟨?_, b2⟩
  intro k q hq
  have h1 : (ps.map (fun i => (wr ++ w1)[i]?))[k]? = some (some q) := by rw [hps, List.getElem?_map, hq]; rfl
  rw [List.getElem?_map] at h1
  cases hi : ps[k]? with
  | none => rw [hi] at h1; cases h1
  | some i => rw [hi] at h1; exact a i q (Option.some.inj h1)
theorem sub_world {D : va_G} {wc : va_W} {H : Heap} (hP : va_P D vwCl ws H) (isC : List Nat) (hC : isC.map (fun i => ws[i]?) = wc.map some) : va_P D vwCl wc H := by
  intro k q hq
  have h1 : (isC.map (fun i => ws[i]?))[k]? = some (some q) := by rw [hC, List.getElem?_map, hq]; rfl
  rw [List.getElem?_map] at h1
  cases hi : isC[k]? with
  | none => rw [hi] at h1; cases h1
  | some i => rw [hi] at h1; exact hP i q (Option.some.inj h1)
theorem x_callVi (hC : CX Γ cI cZ cc own nL fr lo) {y : MethodName} {bytes : ByteArray} {maxL n index fr2 lo2 : Nat} {As rest st0 : List Value} {S : Type} {w1 : S → va_W} (wc : va_W) (isC wrI ps : List Nat) (wr : va_W) (ws2 : S → va_W) {rt : FieldType} {post : Int32 → S → Prop} (ok : okV y bytes maxL (some rt) n) (hlk : okw (.methodLink own index y)) {b : Nat} (q0 ci : Nat) {q : vw_C} {fs : List Value} (hM : Mi (gl Γ) (gD Γ) cI cZ y bytes maxL rt fr2 lo2 (.ref b :: As) wc w1 post) (hfr2 : fr2 + 1 ≤ fr) (hlo2 : 8 + (maxL + 11) + lo2 ≤ lo) (hn : As.length = n) (hrs : (rest.map fun v => v.category).sum ≤ 8) (hnd0 : va_nd isC = true) (hCp : isC.map (fun i => ws[i]?) = wc.map some) (hRp : wrI.map (fun i => ws[i]?) = wr.map some) (hnd : va_nd wrI = true) (hdis : ∀ i ∈ wrI, i ∉ isC) (hnd2 : va_nd ps = true) (hps : ∀ u, ps.map (fun i => (wr ++ w1 u)[i]?) = (ws2 u).map some) (hci : vwCl[ci]? = some q) (hq1 : q.1 = y.cls) (he : wc[q0]? = some (b, .inr (ci, fs))) (hst : st0 = As.reverse ++ .ref b :: rest) (hdg : decode cc pc = .ok (.invokevirtual index, 3)) (kk : ∀ (r : Int32) (u : S), post r u → VV Γ (ws2 u) lv (pc + 3) (.int r :: rest)) : VV Γ ws lv pc st0 := by
  obtain ⟨p, l, e, R, s, m, args, below, meth, c, cells, slots, Q, D, A, H0, nL1⟩ := Γ
  obtain ⟨hx, hb, hml, hnL, hown, hN, hA, hfr, hlo, hcl, hsl⟩ := hC
  subst hnL
  intro H locs ls hP hD hS hl
  have hPc := sub_world hP isC hCp
  have hDc := hD.sub isC hnd0 hCp
  have hFc := va_free (wc := wc) hD hS hA isC hCp
  have hfr3 : fr2 + 1 ≤ R.frames := Nat.le_trans hfr2 hfr
  have hlo3 : 8 + (maxL + 11) + lo2 ≤ R.locals := Nat.le_trans hlo2 hlo
  subst hst
  refine va_calli (va_runV (Ts := []) (C := y.cls) (As := As) (rest := rest) ⟨hx, hb, hml, hown, fun _ h => absurd h List.not_mem_nil⟩ (hM H.size) ⟨⟨rfl, rfl, hfr3, hlo3, fun w hw a U hW => ?_, List.mem_cons_self, hN.1.at ok.1 _, hN.1.at ok.2.1 _, ⟨ok.2.2.2.2.1, ok.2.2.2.2.2.1⟩, fun sig h => ?_, hN.1.at hlk _⟩, hN.1.at ok.2.2.1 _, hN.1.at ok.2.2.2.1 _⟩ ⟨preM_blind, ?_, fun U hU hW => preM_of hN hPc hDc U hU hW⟩ rfl hn hl.1 rfl (lv_room hrs) hdg ⟨hcl, hsl⟩) hS (fun q _ h => hFc q h) hFc (fun r u t H1 locs1 ht hvm hw hB hz hk hS1 => ?_)
  · rw [List.mem_singleton] at hw
    subst hw
    exact (hN.1.moved hW).at ok.1 a
  · have h2 := ok.2.2.2.2.2.2
    rw [h] at h2
    exact (Option.some.inj h2).symm
  · have hr := va_recv hN.2.2.2 hPc hci he
    rw [hq1] at hr
    exact hr
  · obtain ⟨hP1, hD1⟩ := hB
    rw [ht] at hP1
    obtain ⟨hP2, hD2⟩ := back_world hP hD isC wrI ps hCp hRp hnd hdis hnd2 (hps u) hk hFc hP1 hD1
    exact kk r u hw H1 locs1 ls hP2 hD2 hS1 hl
theorem x_callSi (hC : CX Γ cI cZ cc own nL fr lo) {y : MethodName} {bytes : ByteArray} {maxL n index fr2 lo2 : Nat} {As rest st0 : List Value} {S : Type} {w1 : S → va_W} (wc : va_W) (isC wrI ps : List Nat) (wr : va_W) (ws2 : S → va_W) {rt : FieldType} {post : Int32 → S → Prop} (ok : okS y bytes maxL (some rt) n) (hlk : okw (.methodLink own index y)) (hM : Mi (gl Γ) (gD Γ) cI cZ y bytes maxL rt fr2 lo2 As wc w1 post) (hfr2 : fr2 + 1 ≤ fr) (hlo2 : 8 + (maxL + 11) + lo2 ≤ lo) (hn : As.length = n) (hrs : (rest.map fun v => v.category).sum ≤ 8) (hnd0 : va_nd isC = true) (hCp : isC.map (fun i => ws[i]?) = wc.map some) (hRp : wrI.map (fun i => ws[i]?) = wr.map some) (hnd : va_nd wrI = true) (hdis : ∀ i ∈ wrI, i ∉ isC) (hnd2 : va_nd ps = true) (hps : ∀ u, ps.map (fun i => (wr ++ w1 u)[i]?) = (ws2 u).map some) (hst : st0 = As.reverse ++ rest) (hdg : decode cc pc = .ok (.invokestatic index, 3)) (kk : ∀ (r : Int32) (u : S), post r u → VV Γ (ws2 u) lv (pc + 3) (.int r :: rest)) : VV Γ ws lv pc st0 := by
  obtain ⟨p, l, e, R, s, m, args, below, meth, c, cells, slots, Q, D, A, H0, nL1⟩ := Γ
  obtain ⟨hx, hb, hml, hnL, hown, hN, hA, hfr, hlo, hcl, hsl⟩ := hC
  subst hnL
  intro H locs ls hP hD hS hl
  have hPc := sub_world hP isC hCp
  have hDc := hD.sub isC hnd0 hCp
  have hFc := va_free (wc := wc) hD hS hA isC hCp
  have hfr3 : fr2 + 1 ≤ R.frames := Nat.le_trans hfr2 hfr
  have hlo3 : 8 + (maxL + 11) + lo2 ≤ R.locals := Nat.le_trans hlo2 hlo
  subst hst
  refine va_calli (va_runS (Ts := []) (As := As) (rest := rest) ⟨hx, hb, hml, hown, fun _ h => absurd h List.not_mem_nil⟩ (hM H.size) ⟨⟨rfl, rfl, hfr3, hlo3, fun w hw a U hW => ?_, List.mem_cons_self, hN.1.at ok.1 _, hN.1.at ok.2.1 _, ⟨ok.2.2.2.1, ok.2.2.2.2.1⟩, fun sig h => ?_, hN.1.at hlk _⟩, hN.1.at ok.2.2.1 _⟩ ⟨preM_blind, fun U hU hW => preM_of hN hPc hDc U hU hW⟩ rfl hn hl.1 rfl (lv_room hrs) hdg ⟨hcl, hsl⟩) hS (fun q _ h => hFc q h) hFc (fun r u t H1 locs1 ht hvm hw hB hz hk hS1 => ?_)
  · rw [List.mem_singleton] at hw
    subst hw
    exact (hN.1.moved hW).at ok.1 a
  · have h2 := ok.2.2.2.2.2
    rw [h] at h2
    exact (Option.some.inj h2).symm
  · obtain ⟨hP1, hD1⟩ := hB
    rw [ht] at hP1
    obtain ⟨hP2, hD2⟩ := back_world hP hD isC wrI ps hCp hRp hnd hdis hnd2 (hps u) hk hFc hP1 hD1
    exact kk r u hw H1 locs1 ls hP2 hD2 hS1 hl
theorem x_callNi (hC : CX Γ cI cZ cc own nL fr lo) {y : MethodName} {bytes : ByteArray} {maxL n index fr2 lo2 : Nat} {As rest st0 : List Value} {S : Type} {w1 : S → va_W} (wc : va_W) (isC wrI ps : List Nat) (wr : va_W) (ws2 : S → va_W) {rt : FieldType} {post : Int32 → S → Prop} (ok : okS y bytes maxL (some rt) n) (host : String) (hlk : ∀ {D : va_G} {U : State}, KN D cI cZ U → va_Nw (.methodLinkNest own index y host) U) (hM : Mi (gl Γ) (gD Γ) cI cZ y bytes maxL rt fr2 lo2 As wc w1 post) (hfr2 : fr2 + 1 ≤ fr) (hlo2 : 8 + (maxL + 11) + lo2 ≤ lo) (hn : As.length = n) (hrs : (rest.map fun v => v.category).sum ≤ 8) (hnd0 : va_nd isC = true) (hCp : isC.map (fun i => ws[i]?) = wc.map some) (hRp : wrI.map (fun i => ws[i]?) = wr.map some) (hnd : va_nd wrI = true) (hdis : ∀ i ∈ wrI, i ∉ isC) (hnd2 : va_nd ps = true) (hps : ∀ u, ps.map (fun i => (wr ++ w1 u)[i]?) = (ws2 u).map some) (hst : st0 = As.reverse ++ rest) (hdg : decode cc pc = .ok (.invokestatic index, 3)) (kk : ∀ (r : Int32) (u : S), post r u → VV Γ (ws2 u) lv (pc + 3) (.int r :: rest)) : VV Γ ws lv pc st0 := by
  obtain ⟨p, l, e, R, s, m, args, below, meth, c, cells, slots, Q, D, A, H0, nL1⟩ := Γ
  obtain ⟨hx, hb, hml, hnL, hown, hN, hA, hfr, hlo, hcl, hsl⟩ := hC
  subst hnL
  intro H locs ls hP hD hS hl
  have hPc := sub_world hP isC hCp
  have hDc := hD.sub isC hnd0 hCp
  have hFc := va_free (wc := wc) hD hS hA isC hCp
  have hfr3 : fr2 + 1 ≤ R.frames := Nat.le_trans hfr2 hfr
  have hlo3 : 8 + (maxL + 11) + lo2 ≤ R.locals := Nat.le_trans hlo2 hlo
  subst hst
  refine va_calli (va_runSN (Ts := []) (As := As) (rest := rest) ⟨hx, hb, hml, hown, fun _ h => absurd h List.not_mem_nil⟩ (hM H.size) ⟨⟨⟨rfl, rfl, hfr3, hlo3, fun w hw a U hW => ?_, List.mem_cons_self⟩, hN.1.at ok.1 _, hN.1.at ok.2.1 _, ⟨ok.2.2.2.1, ok.2.2.2.2.1⟩, fun sig h => ?_, va_Nw.use rfl (hlk hN)⟩, hN.1.at ok.2.2.1 _, trivial⟩ ⟨preM_blind, fun U hU hW => preM_of hN hPc hDc U hU hW⟩ rfl hn hl.1 rfl (lv_room hrs) hdg ⟨hcl, hsl⟩) hS (fun q _ h => hFc q h) hFc (fun r u t H1 locs1 ht hvm hw hB hz hk hS1 => ?_)
  · rw [List.mem_singleton] at hw
    subst hw
    exact (hN.1.moved hW).at ok.1 a
  · have h2 := ok.2.2.2.2.2
    rw [h] at h2
    exact (Option.some.inj h2).symm
  · obtain ⟨hP1, hD1⟩ := hB
    rw [ht] at hP1
    obtain ⟨hP2, hD2⟩ := back_world hP hD isC wrI ps hCp hRp hnd hdis hnd2 (hps u) hk hFc hP1 hD1
    exact kk r u hw H1 locs1 ls hP2 hD2 hS1 hl
theorem x_callVv (hC : CX Γ cI cZ cc own nL fr lo) {y : MethodName} {bytes : ByteArray} {maxL n index fr2 lo2 : Nat} {As rest st0 : List Value} {S : Type} {w1 : S → va_W} (wc : va_W) (isC wrI ps : List Nat) (wr : va_W) (ws2 : S → va_W) {post : S → Prop} (ok : okV y bytes maxL none n) (hlk : okw (.methodLink own index y)) {b : Nat} (q0 ci : Nat) {q : vw_C} {fs : List Value} (hM : Mv (gl Γ) (gD Γ) cI cZ y bytes maxL fr2 lo2 (.ref b :: As) wc w1 post) (hfr2 : fr2 + 1 ≤ fr) (hlo2 : 8 + (maxL + 11) + lo2 ≤ lo) (hn : As.length = n) (hrs : (rest.map fun v => v.category).sum ≤ 8) (hnd0 : va_nd isC = true) (hCp : isC.map (fun i => ws[i]?) = wc.map some) (hRp : wrI.map (fun i => ws[i]?) = wr.map some) (hnd : va_nd wrI = true) (hdis : ∀ i ∈ wrI, i ∉ isC) (hnd2 : va_nd ps = true) (hps : ∀ u, ps.map (fun i => (wr ++ w1 u)[i]?) = (ws2 u).map some) (hci : vwCl[ci]? = some q) (hq1 : q.1 = y.cls) (he : wc[q0]? = some (b, .inr (ci, fs))) (hst : st0 = As.reverse ++ .ref b :: rest) (hdg : decode cc pc = .ok (.invokevirtual index, 3)) (kk : ∀ (u : S), post u → VV Γ (ws2 u) lv (pc + 3) rest) : VV Γ ws lv pc st0 := by
  obtain ⟨p, l, e, R, s, m, args, below, meth, c, cells, slots, Q, D, A, H0, nL1⟩ := Γ
  obtain ⟨hx, hb, hml, hnL, hown, hN, hA, hfr, hlo, hcl, hsl⟩ := hC
  subst hnL
  intro H locs ls hP hD hS hl
  have hPc := sub_world hP isC hCp
  have hDc := hD.sub isC hnd0 hCp
  have hFc := va_free (wc := wc) hD hS hA isC hCp
  have hfr3 : fr2 + 1 ≤ R.frames := Nat.le_trans hfr2 hfr
  have hlo3 : 8 + (maxL + 11) + lo2 ≤ R.locals := Nat.le_trans hlo2 hlo
  subst hst
  refine va_callv (va_runV (Ts := []) (C := y.cls) (As := As) (rest := rest) ⟨hx, hb, hml, hown, fun _ h => absurd h List.not_mem_nil⟩ (hM H.size) ⟨⟨rfl, rfl, hfr3, hlo3, fun w hw a U hW => ?_, List.mem_cons_self, hN.1.at ok.1 _, hN.1.at ok.2.1 _, ⟨ok.2.2.2.2.1, ok.2.2.2.2.2.1⟩, fun sig h => ?_, hN.1.at hlk _⟩, hN.1.at ok.2.2.1 _, hN.1.at ok.2.2.2.1 _⟩ ⟨preM_blind, ?_, fun U hU hW => preM_of hN hPc hDc U hU hW⟩ rfl hn hl.1 rfl (lv_room hrs) hdg ⟨hcl, hsl⟩) hS (fun q _ h => hFc q h) hFc (fun u t H1 locs1 ht hvm hw hB hz hk hS1 => ?_)
  · rw [List.mem_singleton] at hw
    subst hw
    exact (hN.1.moved hW).at ok.1 a
  · have h2 := ok.2.2.2.2.2.2
    rw [h] at h2
    exact (Option.some.inj h2).symm
  · have hr := va_recv hN.2.2.2 hPc hci he
    rw [hq1] at hr
    exact hr
  · obtain ⟨hP1, hD1⟩ := hB
    rw [ht] at hP1
    obtain ⟨hP2, hD2⟩ := back_world hP hD isC wrI ps hCp hRp hnd hdis hnd2 (hps u) hk hFc hP1 hD1
    exact kk u hw H1 locs1 ls hP2 hD2 hS1 hl
theorem x_callSv (hC : CX Γ cI cZ cc own nL fr lo) {y : MethodName} {bytes : ByteArray} {maxL n index fr2 lo2 : Nat} {As rest st0 : List Value} {S : Type} {w1 : S → va_W} (wc : va_W) (isC wrI ps : List Nat) (wr : va_W) (ws2 : S → va_W) {post : S → Prop} (ok : okS y bytes maxL none n) (hlk : okw (.methodLink own index y)) (hM : Mv (gl Γ) (gD Γ) cI cZ y bytes maxL fr2 lo2 As wc w1 post) (hfr2 : fr2 + 1 ≤ fr) (hlo2 : 8 + (maxL + 11) + lo2 ≤ lo) (hn : As.length = n) (hrs : (rest.map fun v => v.category).sum ≤ 8) (hnd0 : va_nd isC = true) (hCp : isC.map (fun i => ws[i]?) = wc.map some) (hRp : wrI.map (fun i => ws[i]?) = wr.map some) (hnd : va_nd wrI = true) (hdis : ∀ i ∈ wrI, i ∉ isC) (hnd2 : va_nd ps = true) (hps : ∀ u, ps.map (fun i => (wr ++ w1 u)[i]?) = (ws2 u).map some) (hst : st0 = As.reverse ++ rest) (hdg : decode cc pc = .ok (.invokestatic index, 3)) (kk : ∀ (u : S), post u → VV Γ (ws2 u) lv (pc + 3) rest) : VV Γ ws lv pc st0 := by
  obtain ⟨p, l, e, R, s, m, args, below, meth, c, cells, slots, Q, D, A, H0, nL1⟩ := Γ
  obtain ⟨hx, hb, hml, hnL, hown, hN, hA, hfr, hlo, hcl, hsl⟩ := hC
  subst hnL
  intro H locs ls hP hD hS hl
  have hPc := sub_world hP isC hCp
  have hDc := hD.sub isC hnd0 hCp
  have hFc := va_free (wc := wc) hD hS hA isC hCp
  have hfr3 : fr2 + 1 ≤ R.frames := Nat.le_trans hfr2 hfr
  have hlo3 : 8 + (maxL + 11) + lo2 ≤ R.locals := Nat.le_trans hlo2 hlo
  subst hst
  refine va_callv (va_runS (Ts := []) (As := As) (rest := rest) ⟨hx, hb, hml, hown, fun _ h => absurd h List.not_mem_nil⟩ (hM H.size) ⟨⟨rfl, rfl, hfr3, hlo3, fun w hw a U hW => ?_, List.mem_cons_self, hN.1.at ok.1 _, hN.1.at ok.2.1 _, ⟨ok.2.2.2.1, ok.2.2.2.2.1⟩, fun sig h => ?_, hN.1.at hlk _⟩, hN.1.at ok.2.2.1 _⟩ ⟨preM_blind, fun U hU hW => preM_of hN hPc hDc U hU hW⟩ rfl hn hl.1 rfl (lv_room hrs) hdg ⟨hcl, hsl⟩) hS (fun q _ h => hFc q h) hFc (fun u t H1 locs1 ht hvm hw hB hz hk hS1 => ?_)
  · rw [List.mem_singleton] at hw
    subst hw
    exact (hN.1.moved hW).at ok.1 a
  · have h2 := ok.2.2.2.2.2
    rw [h] at h2
    exact (Option.some.inj h2).symm
  · obtain ⟨hP1, hD1⟩ := hB
    rw [ht] at hP1
    obtain ⟨hP2, hD2⟩ := back_world hP hD isC wrI ps hCp hRp hnd hdis hnd2 (hps u) hk hFc hP1 hD1
    exact kk u hw H1 locs1 ls hP2 hD2 hS1 hl
theorem x_callNv (hC : CX Γ cI cZ cc own nL fr lo) {y : MethodName} {bytes : ByteArray} {maxL n index fr2 lo2 : Nat} {As rest st0 : List Value} {S : Type} {w1 : S → va_W} (wc : va_W) (isC wrI ps : List Nat) (wr : va_W) (ws2 : S → va_W) {post : S → Prop} (ok : okS y bytes maxL none n) (host : String) (hlk : ∀ {D : va_G} {U : State}, KN D cI cZ U → va_Nw (.methodLinkNest own index y host) U) (hM : Mv (gl Γ) (gD Γ) cI cZ y bytes maxL fr2 lo2 As wc w1 post) (hfr2 : fr2 + 1 ≤ fr) (hlo2 : 8 + (maxL + 11) + lo2 ≤ lo) (hn : As.length = n) (hrs : (rest.map fun v => v.category).sum ≤ 8) (hnd0 : va_nd isC = true) (hCp : isC.map (fun i => ws[i]?) = wc.map some) (hRp : wrI.map (fun i => ws[i]?) = wr.map some) (hnd : va_nd wrI = true) (hdis : ∀ i ∈ wrI, i ∉ isC) (hnd2 : va_nd ps = true) (hps : ∀ u, ps.map (fun i => (wr ++ w1 u)[i]?) = (ws2 u).map some) (hst : st0 = As.reverse ++ rest) (hdg : decode cc pc = .ok (.invokestatic index, 3)) (kk : ∀ (u : S), post u → VV Γ (ws2 u) lv (pc + 3) rest) : VV Γ ws lv pc st0 := by
  obtain ⟨p, l, e, R, s, m, args, below, meth, c, cells, slots, Q, D, A, H0, nL1⟩ := Γ
  obtain ⟨hx, hb, hml, hnL, hown, hN, hA, hfr, hlo, hcl, hsl⟩ := hC
  subst hnL
  intro H locs ls hP hD hS hl
  have hPc := sub_world hP isC hCp
  have hDc := hD.sub isC hnd0 hCp
  have hFc := va_free (wc := wc) hD hS hA isC hCp
  have hfr3 : fr2 + 1 ≤ R.frames := Nat.le_trans hfr2 hfr
  have hlo3 : 8 + (maxL + 11) + lo2 ≤ R.locals := Nat.le_trans hlo2 hlo
  subst hst
  refine va_callv (va_runSN (Ts := []) (As := As) (rest := rest) ⟨hx, hb, hml, hown, fun _ h => absurd h List.not_mem_nil⟩ (hM H.size) ⟨⟨⟨rfl, rfl, hfr3, hlo3, fun w hw a U hW => ?_, List.mem_cons_self⟩, hN.1.at ok.1 _, hN.1.at ok.2.1 _, ⟨ok.2.2.2.1, ok.2.2.2.2.1⟩, fun sig h => ?_, va_Nw.use rfl (hlk hN)⟩, hN.1.at ok.2.2.1 _, trivial⟩ ⟨preM_blind, fun U hU hW => preM_of hN hPc hDc U hU hW⟩ rfl hn hl.1 rfl (lv_room hrs) hdg ⟨hcl, hsl⟩) hS (fun q _ h => hFc q h) hFc (fun u t H1 locs1 ht hvm hw hB hz hk hS1 => ?_)
  · rw [List.mem_singleton] at hw
    subst hw
    exact (hN.1.moved hW).at ok.1 a
  · have h2 := ok.2.2.2.2.2
    rw [h] at h2
    exact (Option.some.inj h2).symm
  · obtain ⟨hP1, hD1⟩ := hB
    rw [ht] at hP1
    obtain ⟨hP2, hD2⟩ := back_world hP hD isC wrI ps hCp hRp hnd hdis hnd2 (hps u) hk hFc hP1 hD1
    exact kk u hw H1 locs1 ls hP2 hD2 hS1 hl
theorem x_callVr (hC : CX Γ cI cZ cc own nL fr lo) {y : MethodName} {bytes : ByteArray} {maxL n index fr2 lo2 : Nat} {As rest st0 : List Value} {S : Type} {w1 : S → va_W} (wc : va_W) (isC wrI ps : List Nat) (wr : va_W) (ws2 : S → va_W) {rt : FieldType} {a0 : Nat} {post : S → Prop} (ok : okV y bytes maxL (some rt) n) (hlk : okw (.methodLink own index y)) {b : Nat} (q0 ci : Nat) {q : vw_C} {fs : List Value} (hM : Mr (gl Γ) (gD Γ) cI cZ y bytes maxL rt fr2 lo2 (.ref b :: As) wc w1 a0 post) (hfr2 : fr2 + 1 ≤ fr) (hlo2 : 8 + (maxL + 11) + lo2 ≤ lo) (hn : As.length = n) (hrs : (rest.map fun v => v.category).sum ≤ 8) (hnd0 : va_nd isC = true) (hCp : isC.map (fun i => ws[i]?) = wc.map some) (hRp : wrI.map (fun i => ws[i]?) = wr.map some) (hnd : va_nd wrI = true) (hdis : ∀ i ∈ wrI, i ∉ isC) (hnd2 : va_nd ps = true) (hps : ∀ u, ps.map (fun i => (wr ++ w1 u)[i]?) = (ws2 u).map some) (hci : vwCl[ci]? = some q) (hq1 : q.1 = y.cls) (he : wc[q0]? = some (b, .inr (ci, fs))) (hst : st0 = As.reverse ++ .ref b :: rest) (hdg : decode cc pc = .ok (.invokevirtual index, 3)) (kk : ∀ (u : S), post u → VV Γ (ws2 u) lv (pc + 3) (.ref a0 :: rest)) : VV Γ ws lv pc st0 := by
  obtain ⟨p, l, e, R, s, m, args, below, meth, c, cells, slots, Q, D, A, H0, nL1⟩ := Γ
  obtain ⟨hx, hb, hml, hnL, hown, hN, hA, hfr, hlo, hcl, hsl⟩ := hC
  subst hnL
  intro H locs ls hP hD hS hl
  have hPc := sub_world hP isC hCp
  have hDc := hD.sub isC hnd0 hCp
  have hFc := va_free (wc := wc) hD hS hA isC hCp
  have hfr3 : fr2 + 1 ≤ R.frames := Nat.le_trans hfr2 hfr
  have hlo3 : 8 + (maxL + 11) + lo2 ≤ R.locals := Nat.le_trans hlo2 hlo
  subst hst
  refine va_callr (va_runV (Ts := []) (C := y.cls) (As := As) (rest := rest) ⟨hx, hb, hml, hown, fun _ h => absurd h List.not_mem_nil⟩ (hM H.size) ⟨⟨rfl, rfl, hfr3, hlo3, fun w hw a U hW => ?_, List.mem_cons_self, hN.1.at ok.1 _, hN.1.at ok.2.1 _, ⟨ok.2.2.2.2.1, ok.2.2.2.2.2.1⟩, fun sig h => ?_, hN.1.at hlk _⟩, hN.1.at ok.2.2.1 _, hN.1.at ok.2.2.2.1 _⟩ ⟨preM_blind, ?_, fun U hU hW => preM_of hN hPc hDc U hU hW⟩ rfl hn hl.1 rfl (lv_room hrs) hdg ⟨hcl, hsl⟩) hS (fun q _ h => hFc q h) hFc (fun u a t H1 locs1 ht hvm hw hB hz hk hS1 => ?_)
  · rw [List.mem_singleton] at hw
    subst hw
    exact (hN.1.moved hW).at ok.1 a
  · have h2 := ok.2.2.2.2.2.2
    rw [h] at h2
    exact (Option.some.inj h2).symm
  · have hr := va_recv hN.2.2.2 hPc hci he
    rw [hq1] at hr
    exact hr
  · obtain ⟨ha0, hP1, hD1⟩ := hB
    subst ha0
    rw [ht] at hP1
    obtain ⟨hP2, hD2⟩ := back_world hP hD isC wrI ps hCp hRp hnd hdis hnd2 (hps u) hk hFc hP1 hD1
    exact kk u hw H1 locs1 ls hP2 hD2 hS1 hl
theorem mk_Mi {l : Launch} {D : va_G} {y : MethodName} {av : List Value} {w0 : va_W} {rt : FieldType} {S : Type} {w1 : S → va_W} {post : Int32 → S → Prop} (hy : plainName y.cls = true) (hen : (lg_sl av).length ≤ nL)
    (body : ∀ Γ : Cx, gl Γ = l → gD Γ = D → CX Γ cI cZ cc y.cls nL fr lo → (∀ (r : Int32) (u : S) (lv : List (Nat × Value)) (pc : Nat), post r u → narrow rt (.int r) = .int r → decode cc pc = .ok (.ireturn, 1) → VV Γ (w1 u) lv pc [.int r]) → VV Γ w0 (lv_args 0 av) 0 []) : Mi l D cI cZ y cc nL rt fr lo av w0 w1 post := by
  intro sz
  refine Met.ofW (cc := cc) (maxL := nL) (ret := (some rt)) hy rfl ?_
  intro p e s m args below meth c s₁ B hml hv
  obtain ⟨rfl, hsz, hN, hP, hD0⟩ := hv
  have hx := B.exec
  have hb := B.bytes
  have hr := B.returns
  have hown : s.vm.findClass y.cls = some m.cls := findClass_of_methodNamed B.named
  have hlocks := B.notSynchronized
  subst hsz
  have hD := hD0.self (sz := s.heap.size)
  have hS : va_S (va_A w0 s.heap.size) s.heap s.heap [] := va_S.rf
  have hl := lv_entry av (n := nL) hen
  rw [lg_entry_eq]
  generalize (lg_sl av ++ List.replicate (nL - (lg_sl av).length) Slot.unset).toArray = ls at hl ⊢
  refine body (p, l, e, _, s, m, av.toArray, below, meth, c, 0, 0, _, D, va_A w0 s.heap.size, s.heap, nL) rfl rfl ⟨hx, hb, hml, rfl, hown, hN, fun q h => Or.inr h, Nat.le_refl _, Nat.le_refl _, Nat.zero_le _, Nat.zero_le _⟩ ?_ s.heap [] ls hP hD hS hl
  intro r u lv pc hp hn hdg H locs ls hP2 hD2 hS2 hl2
  exact W.zret hx hb hr hn (fun t ht hW => ⟨⟨r, u, rfl, hp, by rw [ht]; exact hP2, hD2⟩, hS2.F ht⟩) hS2.2.2 hdg
theorem mk_Mv {l : Launch} {D : va_G} {y : MethodName} {av : List Value} {w0 : va_W} {S : Type} {w1 : S → va_W} {post : S → Prop} (hy : plainName y.cls = true) (hen : (lg_sl av).length ≤ nL)
    (body : ∀ Γ : Cx, gl Γ = l → gD Γ = D → CX Γ cI cZ cc y.cls nL fr lo → (∀ (u : S) (lv : List (Nat × Value)) (pc : Nat), post u → decode cc pc = .ok (.return_, 1) → VV Γ (w1 u) lv pc []) → VV Γ w0 (lv_args 0 av) 0 []) : Mv l D cI cZ y cc nL fr lo av w0 w1 post := by
  intro sz
  refine Met.ofW (cc := cc) (maxL := nL) (ret := none) hy rfl ?_
  intro p e s m args below meth c s₁ B hml hv
  obtain ⟨rfl, hsz, hN, hP, hD0⟩ := hv
  have hx := B.exec
  have hb := B.bytes
  have hr := B.returns
  have hown : s.vm.findClass y.cls = some m.cls := findClass_of_methodNamed B.named
  have hlocks := B.notSynchronized
  subst hsz
  have hD := hD0.self (sz := s.heap.size)
  have hS : va_S (va_A w0 s.heap.size) s.heap s.heap [] := va_S.rf
  have hl := lv_entry av (n := nL) hen
  rw [lg_entry_eq]
  generalize (lg_sl av ++ List.replicate (nL - (lg_sl av).length) Slot.unset).toArray = ls at hl ⊢
  refine body (p, l, e, _, s, m, av.toArray, below, meth, c, 0, 0, _, D, va_A w0 s.heap.size, s.heap, nL) rfl rfl ⟨hx, hb, hml, rfl, hown, hN, fun q h => Or.inr h, Nat.le_refl _, Nat.le_refl _, Nat.zero_le _, Nat.zero_le _⟩ ?_ s.heap [] ls hP hD hS hl
  intro u lv pc hp hdg H locs ls hP2 hD2 hS2 hl2
  exact W.vret hx hb hr (fun t ht hW => ⟨⟨u, rfl, hp, by rw [ht]; exact hP2, hD2⟩, hS2.F ht⟩) hS2.2.2 hdg
theorem mk_Mr {l : Launch} {D : va_G} {y : MethodName} {av : List Value} {w0 : va_W} {rn : String} {S : Type} {w1 : S → va_W} {a0 : Nat} {post : S → Prop} (hy : plainName y.cls = true) (hen : (lg_sl av).length ≤ nL)
    (body : ∀ Γ : Cx, gl Γ = l → gD Γ = D → CX Γ cI cZ cc y.cls nL fr lo → (∀ (u : S) (lv : List (Nat × Value)) (pc : Nat), post u → decode cc pc = .ok (.areturn, 1) → VV Γ (w1 u) lv pc [.ref a0]) → VV Γ w0 (lv_args 0 av) 0 []) : Mr l D cI cZ y cc nL (.object rn) fr lo av w0 w1 a0 post := by
  intro sz
  refine Met.ofW (cc := cc) (maxL := nL) (ret := (some (.object rn))) hy rfl ?_
  intro p e s m args below meth c s₁ B hml hv
  obtain ⟨rfl, hsz, hN, hP, hD0⟩ := hv
  have hx := B.exec
  have hb := B.bytes
  have hr := B.returns
  have hown : s.vm.findClass y.cls = some m.cls := findClass_of_methodNamed B.named
  have hlocks := B.notSynchronized
  subst hsz
  have hD := hD0.self (sz := s.heap.size)
  have hS : va_S (va_A w0 s.heap.size) s.heap s.heap [] := va_S.rf
  have hl := lv_entry av (n := nL) hen
  rw [lg_entry_eq]
  generalize (lg_sl av ++ List.replicate (nL - (lg_sl av).length) Slot.unset).toArray = ls at hl ⊢
  refine body (p, l, e, _, s, m, av.toArray, below, meth, c, 0, 0, _, D, va_A w0 s.heap.size, s.heap, nL) rfl rfl ⟨hx, hb, hml, rfl, hown, hN, fun q h => Or.inr h, Nat.le_refl _, Nat.le_refl _, Nat.zero_le _, Nat.zero_le _⟩ ?_ s.heap [] ls hP hD hS hl
  intro u lv pc hp hdg H locs ls hP2 hD2 hS2 hl2
  exact W.aret hx hb hr (Or.inl ⟨rn, rfl⟩) (Or.inr ⟨a0, rfl⟩) (fun t ht hW => ⟨⟨u, a0, rfl, hp, rfl, by rw [ht]; exact hP2, hD2⟩, hS2.F ht⟩) hS2.2.2 hdg
end VL
