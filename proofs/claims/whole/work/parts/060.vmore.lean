abbrev isB (r : Int32) : Prop := narrow .boolean (.int r) = .int r
abbrev W_tx (cI : ClassId) (tx : Nat → Nat) (bytesv : Nat → Int32) (lengthv : Int32) (partsv : Nat → Int32) (placev : Int32) (firstFaultv : Int32) : va_W := [(tx 0, .inr (3, [.ref (tx 1), .int lengthv, .ref (tx 2), .int placev, .int firstFaultv])), (tx 1, .inl (cI, 20, .inl bytesv)), (tx 2, .inl (cI, 6, .inl partsv))]
abbrev W_lw (cI : ClassId) (lw : Nat → Nat) (toldv : Nat → Int32) (partsv : Nat → Int32) (hangMasksv : Nat → Int32) (hangValuesv : Nat → Int32) (ownSeatsv : Nat → Int32) : va_W := [(lw 0, .inr (0, [.ref (lw 1), .ref (lw 2), .ref (lw 3), .ref (lw 4), .ref (lw 5)])), (lw 1, .inl (cI, 5, .inl toldv)), (lw 2, .inl (cI, 120, .inl partsv)), (lw 3, .inl (cI, 20, .inl hangMasksv)), (lw 4, .inl (cI, 20, .inl hangValuesv)), (lw 5, .inl (cI, 12, .inl ownSeatsv))]
abbrev W_se (cI : ClassId) (se : Nat → Nat) (orderv : Nat → Int32) (fromv : Nat → Int32) (marksv : Nat → Int32) (cameByv : Nat → Int32) (runsv : Int32) (lengthv : Int32) (withinv : Nat → Int32) : va_W := [(se 0, .inr (1, [.ref (se 1), .ref (se 2), .ref (se 3), .ref (se 4), .int runsv, .int lengthv, .ref (se 5)])), (se 1, .inl (cI, 16384, .inl orderv)), (se 2, .inl (cI, 16384, .inl fromv)), (se 3, .inl (cI, 16384, .inl marksv)), (se 4, .inl (cI, 16384, .inl cameByv)), (se 5, .inl (cI, 17, .inl withinv))]
abbrev W_sg (cI : ClassId) (sg : Nat → Nat) (lw0 : Nat) (ownVotesv : Nat → Int32) (votesv : Nat → Int32) (rowsv : Nat → Int32) (groupsv : Int32) (barsv : Int32) (nowv : Int32) (forcedv : Int32) (barredv : Int32) (mayActsv : Nat → Int32) (mayEndsv : Nat → Int32) (maysv : Int32) : va_W := [(sg 0, .inr (2, [.ref lw0, .ref (sg 1), .ref (sg 2), .ref (sg 3), .int groupsv, .int barsv, .int nowv, .int forcedv, .int barredv, .ref (sg 4), .ref (sg 5), .int maysv])), (sg 1, .inl (cI, 3, .inl ownVotesv)), (sg 2, .inl (cI, 3, .inl votesv)), (sg 3, .inl (cI, 5, .inl rowsv)), (sg 4, .inl (cI, 20, .inl mayActsv)), (sg 5, .inl (cI, 20, .inl mayEndsv))]
abbrev W_sl (cI : ClassId) (sl : Nat → Nat) (tx0 lw0 sg0 so0 se0 : Nat) (rollSetsv : Nat → Int32) (rollActsv : Nat → Int32) (rolledv : Int32) (keptv : Nat → Int32) (statev : Int32) : va_W := [(sl 0, .inr (4, [.ref tx0, .ref lw0, .ref sg0, .ref so0, .ref se0, .ref (sl 1), .ref (sl 2), .int rolledv, .ref (sl 3), .int statev])), (sl 1, .inl (cI, 20, .inl rollSetsv)), (sl 2, .inl (cI, 20, .inl rollActsv)), (sl 3, .inl (cI, 3, .inl keptv))]
abbrev W_md (cI : ClassId) (cZ : ClassId) (md : Nat → Nat) (thrownv : Int32) (textv : Nat → Int32) (textSizev : Int32) (placev : Int32) (letterv : Int32) (firstv : Int32) (secondv : Int32) (thirdv : Int32) (sidev : Int32) (hangv : Int32) (formsv : Nat → Int32) (formManyv : Nat → Int32) (seatsv : Nat → Int32) (nowv : Int32) (barAlwaysv : Int32) (noPutv : Int32) (farv : Nat → Int32) (queuev : Nat → Int32) (fromv : Nat → Int32) (byv : Nat → Int32) (manyv : Int32) (isv : Nat → Int32) (nextv : Nat → Int32) (rollSetv : Nat → Int32) (rollActv : Nat → Int32) (rollsv : Int32) (slotsv : Nat → Int32) (isKeptv : Nat → Int32) : va_W := [(md 0, .inr (5, [.int thrownv, .ref (md 1), .int textSizev, .int placev, .int letterv, .int firstv, .int secondv, .int thirdv, .int sidev, .int hangv, .ref (md 2), .ref (md 3), .ref (md 4), .int nowv, .int barAlwaysv, .int noPutv, .ref (md 5), .ref (md 6), .ref (md 7), .ref (md 8), .int manyv, .ref (md 9), .ref (md 10), .ref (md 11), .ref (md 12), .int rollsv, .ref (md 13), .ref (md 14)])), (md 1, .inl (cI, 20, .inl textv)), (md 2, .inl (cI, 90, .inl formsv)), (md 3, .inl (cI, 5, .inl formManyv)), (md 4, .inl (cI, 12, .inl seatsv)), (md 5, .inl (cI, 16384, .inl farv)), (md 6, .inl (cI, 16384, .inl queuev)), (md 7, .inl (cI, 16384, .inl fromv)), (md 8, .inl (cI, 16384, .inl byv)), (md 9, .inl (cZ, 16384, .inl isv)), (md 10, .inl (cZ, 16384, .inl nextv)), (md 11, .inl (cI, 20, .inl rollSetv)), (md 12, .inl (cI, 20, .inl rollActv)), (md 13, .inl (cI, 3, .inl slotsv)), (md 14, .inl (cZ, 3, .inl isKeptv))]
section VM
variable {Γ : Cx} {cI cZ : ClassId} {cc : ByteArray} {own : String} {nL fr lo : Nat} {ws : va_W} {lv : List (Nat × Value)} {pc : Nat} {st : List Value}
theorem x_iastN (hC : CX Γ cI cZ cc own nL fr lo) (q0 : Nat) {a n : Nat} {f : Nat → Int32} {i x : Int32} (ha : ws[q0]? = some (a, .inl (cI, n, .inl f))) (hin : vp_in i n) (ws2 : (Nat → Int32) → va_W) (hs : ∀ f2, ws.set q0 (a, .inl (cI, n, .inl f2)) = ws2 f2) (hdg : decode cc pc = .ok (.iastore, 1)) (kk : ∀ f2 : Nat → Int32, f2 = upd f i.toNatClampNeg x → VV Γ (ws2 f2) lv (pc + 1) st) : VV Γ ws lv pc (.int x :: .int i :: .ref a :: st) := by
  obtain ⟨p, l, e, R, s, m, args, below, meth, c, cells, slots, Q, D, A, H0, nL1⟩ := Γ
  obtain ⟨hx, hb, hml, hnL, hown, hN, hA, hfr, hlo, hcl, hsl⟩ := hC
  subst hnL
  intro H locs ls hP hD hS hl
  refine va_iast hx hb hN.2.2.2 hP hD hS q0 0 ha rfl hin hdg (fun H1 locs1 hP1 hD1 hS1 => ?_)
  have h2 := hs (upd f i.toNatClampNeg x)
  rw [h2] at hP1 hD1
  exact kk _ rfl H1 locs1 ls hP1 hD1 hS1 hl
theorem x_zastN (hC : CX Γ cI cZ cc own nL fr lo) (q0 : Nat) {a n : Nat} {f : Nat → Int32} {i x : Int32} (ha : ws[q0]? = some (a, .inl (cZ, n, .inl f))) (hin : vp_in i n) (ws2 : (Nat → Int32) → va_W) (hs : ∀ f2, ws.set q0 (a, .inl (cZ, n, .inl f2)) = ws2 f2) (hdg : decode cc pc = .ok (.bastore, 1)) (kk : ∀ f2 : Nat → Int32, f2 = upd f i.toNatClampNeg (vp_nar .boolean x) → VV Γ (ws2 f2) lv (pc + 1) st) : VV Γ ws lv pc (.int x :: .int i :: .ref a :: st) := by
  obtain ⟨p, l, e, R, s, m, args, below, meth, c, cells, slots, Q, D, A, H0, nL1⟩ := Γ
  obtain ⟨hx, hb, hml, hnL, hown, hN, hA, hfr, hlo, hcl, hsl⟩ := hC
  subst hnL
  intro H locs ls hP hD hS hl
  refine va_zast hx hb hN.2.2.2 hP hD hS q0 1 ha rfl hin hdg (fun H1 locs1 hP1 hD1 hS1 => ?_)
  have h2 := hs (upd f i.toNatClampNeg (vp_nar .boolean x))
  rw [h2] at hP1 hD1
  exact kk _ rfl H1 locs1 ls hP1 hD1 hS1 hl
theorem ac_lk : okw (.methodLink RX4 55 arraycopyName) := ⟨List.mem_of_getElem? (i := 402) (by decide +kernel), by decide +kernel⟩
theorem ac_nat : okw (.native arraycopyName) := ⟨List.mem_of_getElem? (i := 404) (by decide +kernel), by decide +kernel⟩
theorem ac_st : okw (.static arraycopyName) := ⟨List.mem_of_getElem? (i := 403) (by decide +kernel), by decide +kernel⟩
theorem ac_in : okw (.initialized "java/lang/System") := ⟨List.mem_of_getElem? (i := 60) (by decide +kernel), by decide +kernel⟩
theorem x_copy {fr lo : Nat} (hC : CX Γ cI cZ cc RX4 nL (fr + 1) lo) (q0 q1 : Nat) {a0 a : Nat} {f g : Nat → Int32} (ha0 : ws[q0]? = some (a0, .inl (cI, 3, .inl f))) (ha1 : ws[q1]? = some (a, .inl (cI, 3, .inl g))) (ws2 : (Nat → Int32) → va_W) (hs : ∀ f2, ws.set q1 (a, .inl (cI, 3, .inl f2)) = ws2 f2) (hdg : decode cc pc = .ok (.invokestatic 55, 3)) (kk : ∀ f2 : Nat → Int32, f2 = va_cpy f g 0 0 3 → VV Γ (ws2 f2) lv (pc + 3) []) (hlo2 : 18 ≤ lo := by decide) : VV Γ ws lv pc [.int 3, .int 0, .ref a, .int 0, .ref a0] := by
  obtain ⟨p, l, e, R, s, m, args, below, meth, c, cells, slots, Q, D, A, H0, nL1⟩ := Γ
  obtain ⟨hx, hb, hml, hnL, hown, hN, hA, hfr, hlo, hcl, hsl⟩ := hC
  subst hnL
  intro H locs ls hP hD hS hl
  refine va_copyi hx hb (hml.trans hl.1.symm) hown (hN.1.at ac_lk _) (hN.1.at ac_nat _) (hN.1.at ac_st _) (hN.1.at ac_in _) hN.2.2.2 hP hD hS q0 q1 0 0 ha0 ha1 rfl rfl rfl (by decide) (by decide) (by decide) (by decide) (by decide) (fun _ _ => rfl) (Nat.le_trans (Nat.le_add_left 1 fr) hfr) (Nat.le_trans (by decide +kernel) (Nat.le_trans hlo2 hlo)) hdg (fun H1 locs1 hP1 hD1 hS1 => ?_)
  have h2 := hs (va_cpy f g (0 : Int32).toNatClampNeg (0 : Int32).toNatClampNeg (3 : Int32).toNatClampNeg)
  rw [h2] at hP1 hD1
  exact kk _ rfl H1 locs1 ls hP1 hD1 hS1 hl
end VM
