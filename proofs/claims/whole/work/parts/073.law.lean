def wp_X2_placeOf  (p0 : Int32) (p1 : Int32) (post : Int32 → Prop) : Prop := post ((p0 * ((4 : Int32))) + p1) 
set_option maxHeartbeats 4000000 in
set_option maxRecDepth 100000 in
theorem c_X2_placeOf (l : Launch) (D : va_G) (cI cZ : ClassId)   (p0 : Int32) (p1 : Int32) (post : Int32 → Prop) (hm : wp_X2_placeOf  p0 p1 post) : Mi l D cI cZ yX2_placeOf cX2_placeOf 2 .int 0 0 [.int p0, .int p1] (([] : va_W)) (S := Unit) (fun _ => ([] : va_W)) (fun r _ => post r ) := by
  refine mk_Mi (by decide +kernel) (Nat.le_of_ble_eq_true rfl) ?_
  intro Γ hl0 hD0 hC hR
  subst hl0
  subst hD0
  have hC : CX Γ cI cZ cX2_placeOf RX2 2 0 0 := hC
  show VV Γ (([] : va_W)) [(0, .int p0), (1, .int p1)] 0 []
  unfold wp_X2_placeOf at hm
  refine x_iload_n hC 0 dX2_placeOf_0 rfl ?_
  refine x_iconst hC (4 : Int32) dX2_placeOf_1 (by decide) ?_
  refine x_imul hC dX2_placeOf_2 ?_
  refine x_iload_n hC 1 dX2_placeOf_3 rfl ?_
  refine x_iadd hC dX2_placeOf_4 ?_
  exact hR ((p0 * ((4 : Int32))) + p1) () [(0, .int p0), (1, .int p1)] 5 hm rfl dX2_placeOf_5

def wp_X2_rowOf  (p0 : Int32) (p1 : Int32) (post : Int32 → Prop) : Prop := wp_X2_placeOf  p0 p1 (fun (r_1 : Int32) => post (r_1 * ((6 : Int32))) )
set_option maxHeartbeats 4000000 in
set_option maxRecDepth 100000 in
theorem c_X2_rowOf (l : Launch) (D : va_G) (cI cZ : ClassId)   (p0 : Int32) (p1 : Int32) (post : Int32 → Prop) (hm : wp_X2_rowOf  p0 p1 post) : Mi l D cI cZ yX2_rowOf cX2_rowOf 2 .int 1 21 [.int p0, .int p1] (([] : va_W)) (S := Unit) (fun _ => ([] : va_W)) (fun r _ => post r ) := by
  refine mk_Mi (by decide +kernel) (Nat.le_of_ble_eq_true rfl) ?_
  intro Γ hl0 hD0 hC hR
  subst hl0
  subst hD0
  have hC : CX Γ cI cZ cX2_rowOf RX2 2 1 21 := hC
  show VV Γ (([] : va_W)) [(0, .int p0), (1, .int p1)] 0 []
  unfold wp_X2_rowOf at hm
  refine x_iload_n hC 0 dX2_rowOf_0 rfl ?_
  refine x_iload_n hC 1 dX2_rowOf_1 rfl ?_
  refine x_callSi hC _ [] [] [] (([] : va_W)) (fun _ => ([] : va_W)) ok_X2_placeOf ml_X2_33 (c_X2_placeOf (gl Γ) (gD Γ) cI cZ   p0 p1 _ hm) (by decide) (by decide) rfl (Nat.le_of_ble_eq_true rfl) rfl rfl rfl rfl (by decide) rfl (fun _ => rfl) rfl dX2_rowOf_2 ?_
  rintro r_1 _ hm
  refine x_bipush hC (6 : Int32) dX2_rowOf_5 (by decide) ?_
  refine x_imul hC dX2_rowOf_7 ?_
  exact hR (r_1 * ((6 : Int32))) () [(0, .int p0), (1, .int p1)] 8 hm rfl dX2_rowOf_8

def wp_X2_hangOn (lw_hangMasks : Nat → Int32) (lw_hangValues : Nat → Int32) (p0 : Int32) (p1 : Int32) (post : (Nat → Int32) → (Nat → Int32) → Prop) : Prop := (p0 < 0 → post lw_hangMasks lw_hangValues) ∧ (¬ p0 < 0 → (((20 : Int32)) ≤ p0 → post lw_hangMasks lw_hangValues) ∧ (¬ ((20 : Int32)) ≤ p0 → wp_X1_maskOf  p1 (fun (r_3 : Int32) => vp_in p0 20 ∧ ∀ lw_hangMasks_4 : Nat → Int32, lw_hangMasks_4 = upd lw_hangMasks p0.toNatClampNeg r_3 → wp_X1_valueOf  p1 (fun (r_5 : Int32) => vp_in p0 20 ∧ ∀ lw_hangValues_6 : Nat → Int32, lw_hangValues_6 = upd lw_hangValues p0.toNatClampNeg r_5 → post lw_hangMasks_4 lw_hangValues_6))))
set_option maxHeartbeats 4000000 in
set_option maxRecDepth 100000 in
theorem c_X2_hangOn (l : Launch) (D : va_G) (cI cZ : ClassId) (lw : Nat → Nat) (lw_told : Nat → Int32) (lw_parts : Nat → Int32) (lw_hangMasks : Nat → Int32) (lw_hangValues : Nat → Int32) (lw_ownSeats : Nat → Int32) (p0 : Int32) (p1 : Int32) (post : (Nat → Int32) → (Nat → Int32) → Prop) (hm : wp_X2_hangOn lw_hangMasks lw_hangValues p0 p1 post) : Mv l D cI cZ yX2_hangOn cX2_hangOn 3 2 43 [.ref (lw 0), .int p0, .int p1] (W_lw cI lw lw_told lw_parts lw_hangMasks lw_hangValues lw_ownSeats) (S := (Nat → Int32) × (Nat → Int32)) (fun u => W_lw cI lw lw_told lw_parts (u.1) (u.2) lw_ownSeats) (fun u => post u.1 u.2) := by
  refine mk_Mv (by decide +kernel) (Nat.le_of_ble_eq_true rfl) ?_
  intro Γ hl0 hD0 hC hR
  subst hl0
  subst hD0
  have hC : CX Γ cI cZ cX2_hangOn RX2 3 2 43 := hC
  show VV Γ (W_lw cI lw lw_told lw_parts lw_hangMasks lw_hangValues lw_ownSeats) [(0, .ref (lw 0)), (1, .int p0), (2, .int p1)] 0 []
  unfold wp_X2_hangOn at hm
  refine x_iload_n hC 1 dX2_hangOn_0 rfl ?_
  refine x_if_lt hC 30 dX2_hangOn_1 (by decide) (fun c_1 => ?_) (fun c_1 => ?_)
  · replace hm := hm.1 c_1
    exact hR (lw_hangMasks, lw_hangValues) [(0, .ref (lw 0)), (1, .int p0), (2, .int p1)] 30 hm dX2_hangOn_30
  · replace hm := hm.2 c_1
    refine x_iload_n hC 1 dX2_hangOn_4 rfl ?_
    refine x_bipush hC (20 : Int32) dX2_hangOn_5 (by decide) ?_
    refine x_icmp_ge hC 30 dX2_hangOn_7 (by decide) (fun c_2 => ?_) (fun c_2 => ?_)
    · replace hm := hm.1 c_2
      exact hR (lw_hangMasks, lw_hangValues) [(0, .ref (lw 0)), (1, .int p0), (2, .int p1)] 30 hm dX2_hangOn_30
    · replace hm := hm.2 c_2
      refine x_aload_n hC 0 dX2_hangOn_10 rfl ?_
      refine x_get hC 0 inX2g 0 rfl rfl 2 (by decide) fl_X2_18 rfl dX2_hangOn_11 ?_
      refine x_iload_n hC 1 dX2_hangOn_14 rfl ?_
      refine x_iload_n hC 2 dX2_hangOn_15 rfl ?_
      refine x_callSi hC _ [] [0, 1, 2, 3, 4, 5] [0, 1, 2, 3, 4, 5] (W_lw cI lw lw_told lw_parts lw_hangMasks lw_hangValues lw_ownSeats) (fun _ => W_lw cI lw lw_told lw_parts lw_hangMasks lw_hangValues lw_ownSeats) ok_X1_maskOf ml_X2_54 (c_X1_maskOf (gl Γ) (gD Γ) cI cZ   p1 _ hm) (by decide) (by decide) rfl (Nat.le_of_ble_eq_true rfl) rfl rfl rfl rfl (by decide) rfl (fun _ => rfl) rfl dX2_hangOn_16 ?_
      rintro r_3 _ hm
      refine x_iastN hC 3 rfl hm.1 (fun lw_hangMasks_4 => W_lw cI lw lw_told lw_parts lw_hangMasks_4 lw_hangValues lw_ownSeats) (fun _ => rfl) dX2_hangOn_19 (fun lw_hangMasks_4 elw_hangMasks_4 => ?_)
      replace hm := hm.2 lw_hangMasks_4 elw_hangMasks_4
      refine x_aload_n hC 0 dX2_hangOn_20 rfl ?_
      refine x_get hC 0 inX2g 0 rfl rfl 3 (by decide) fl_X2_21 rfl dX2_hangOn_21 ?_
      refine x_iload_n hC 1 dX2_hangOn_24 rfl ?_
      refine x_iload_n hC 2 dX2_hangOn_25 rfl ?_
      refine x_callSi hC _ [] [0, 1, 2, 3, 4, 5] [0, 1, 2, 3, 4, 5] (W_lw cI lw lw_told lw_parts lw_hangMasks_4 lw_hangValues lw_ownSeats) (fun _ => W_lw cI lw lw_told lw_parts lw_hangMasks_4 lw_hangValues lw_ownSeats) ok_X1_valueOf ml_X2_59 (c_X1_valueOf (gl Γ) (gD Γ) cI cZ   p1 _ hm) (by decide) (by decide) rfl (Nat.le_of_ble_eq_true rfl) rfl rfl rfl rfl (by decide) rfl (fun _ => rfl) rfl dX2_hangOn_26 ?_
      rintro r_5 _ hm
      refine x_iastN hC 4 rfl hm.1 (fun lw_hangValues_6 => W_lw cI lw lw_told lw_parts lw_hangMasks_4 lw_hangValues_6 lw_ownSeats) (fun _ => rfl) dX2_hangOn_29 (fun lw_hangValues_6 elw_hangValues_6 => ?_)
      replace hm := hm.2 lw_hangValues_6 elw_hangValues_6
      exact hR (lw_hangMasks_4, lw_hangValues_6) [(0, .ref (lw 0)), (1, .int p0), (2, .int p1)] 30 hm dX2_hangOn_30

def wpJ_X2_add_88 (tx_parts : Nat → Int32)  (post : Int32 → (Nat → Int32) → (Nat → Int32) → (Nat → Int32) → (Nat → Int32) → Prop) (lw_told_14 : Nat → Int32) (lw_parts_15 : Nat → Int32) (lw_hangMasks_16 : Nat → Int32) (lw_hangValues_17 : Nat → Int32) (x1_18 : Int32) : Prop := vp_in x1_18 5 ∧ (wp_X2_placeOf  x1_18 (lw_told_14 x1_18.toNatClampNeg) (fun (r_19 : Int32) => wp_X6_part tx_parts ((5 : Int32)) (fun (r_20 : Int32) => wp_X2_hangOn lw_hangMasks_16 lw_hangValues_17 r_19 r_20 (fun (lw_hangMasks_21 : Nat → Int32) (lw_hangValues_22 : Nat → Int32) => vp_in x1_18 5 ∧ (post (lw_told_14 x1_18.toNatClampNeg) lw_told_14 lw_parts_15 lw_hangMasks_21 lw_hangValues_22)))))
def wpL_X2_add_44 (tx_parts : Nat → Int32)  (post : Int32 → (Nat → Int32) → (Nat → Int32) → (Nat → Int32) → (Nat → Int32) → Prop) : Nat → (Nat → Int32) → (Nat → Int32) → (Nat → Int32) → (Nat → Int32) → Int32 → Int32 → Int32 → Prop
  | 0, _, _, _, _, _, _, _ => False
  | n + 1, lw_told_6, lw_parts_7, lw_hangMasks_8, lw_hangValues_9, x1_10, x3_11, x4_12 => (((6 : Int32)) ≤ x4_12 → wpJ_X2_add_88 tx_parts  post lw_told_6 lw_parts_7 lw_hangMasks_8 lw_hangValues_9 x1_10) ∧ (¬ ((6 : Int32)) ≤ x4_12 → (x3_11 < 0 → ∀ x4_24 : Int32, x4_24 = x4_12 + (1 : Int32) → (wpL_X2_add_44 tx_parts  post n) lw_told_6 lw_parts_7 lw_hangMasks_8 lw_hangValues_9 x1_10 x3_11 x4_24) ∧ (¬ x3_11 < 0 → (((120 : Int32)) ≤ (x3_11 + x4_12) → ∀ x4_26 : Int32, x4_26 = x4_12 + (1 : Int32) → (wpL_X2_add_44 tx_parts  post n) lw_told_6 lw_parts_7 lw_hangMasks_8 lw_hangValues_9 x1_10 x3_11 x4_26) ∧ (¬ ((120 : Int32)) ≤ (x3_11 + x4_12) → wp_X6_part tx_parts x4_12 (fun (r_27 : Int32) => vp_in (x3_11 + x4_12) 120 ∧ ∀ lw_parts_28 : Nat → Int32, lw_parts_28 = upd lw_parts_7 (x3_11 + x4_12).toNatClampNeg r_27 → ∀ x4_29 : Int32, x4_29 = x4_12 + (1 : Int32) → (wpL_X2_add_44 tx_parts  post n) lw_told_6 lw_parts_28 lw_hangMasks_8 lw_hangValues_9 x1_10 x3_11 x4_29))))
def wp_X2_add (lw_told : Nat → Int32) (lw_parts : Nat → Int32) (lw_hangMasks : Nat → Int32) (lw_hangValues : Nat → Int32) (tx_parts : Nat → Int32) (p0 : Int32) (post : Int32 → (Nat → Int32) → (Nat → Int32) → (Nat → Int32) → (Nat → Int32) → Prop) : Prop := wp_X7_isClause  p0 (fun (r_1 : Int32) => (r_1 = 0 → post ((-4 : Int32)) lw_told lw_parts lw_hangMasks lw_hangValues) ∧ (¬ r_1 = 0 → vp_in p0 5 ∧ (((lw_told p0.toNatClampNeg) < ((3 : Int32)) → vp_in p0 5 ∧ (vp_in p0 5 ∧ ∀ lw_told_4 : Nat → Int32, lw_told_4 = upd lw_told p0.toNatClampNeg ((lw_told p0.toNatClampNeg) + ((1 : Int32))) → vp_in p0 5 ∧ (wp_X2_rowOf  p0 (lw_told_4 p0.toNatClampNeg) (fun (r_5 : Int32) => ∃ k44, wpL_X2_add_44 tx_parts  post k44 lw_told_4 lw_parts lw_hangMasks lw_hangValues p0 r_5 ((0 : Int32)))))) ∧ (¬ (lw_told p0.toNatClampNeg) < ((3 : Int32)) → post ((-4 : Int32)) lw_told lw_parts lw_hangMasks lw_hangValues))))
set_option maxHeartbeats 4000000 in
set_option maxRecDepth 100000 in
theorem c_X2_add (l : Launch) (D : va_G) (cI cZ : ClassId) (lw : Nat → Nat) (tx : Nat → Nat) (lw_told : Nat → Int32) (lw_parts : Nat → Int32) (lw_hangMasks : Nat → Int32) (lw_hangValues : Nat → Int32) (lw_ownSeats : Nat → Int32) (tx_bytes : Nat → Int32) (tx_length : Int32) (tx_parts : Nat → Int32) (tx_place : Int32) (tx_firstFault : Int32) (p0 : Int32) (post : Int32 → (Nat → Int32) → (Nat → Int32) → (Nat → Int32) → (Nat → Int32) → Prop) (hm : wp_X2_add lw_told lw_parts lw_hangMasks lw_hangValues tx_parts p0 post) : Mi l D cI cZ yX2_add cX2_add 5 .int 3 65 [.ref (lw 0), .int p0, .ref (tx 0)] (W_lw cI lw lw_told lw_parts lw_hangMasks lw_hangValues lw_ownSeats ++ W_tx cI tx tx_bytes tx_length tx_parts tx_place tx_firstFault) (S := (Nat → Int32) × (Nat → Int32) × (Nat → Int32) × (Nat → Int32)) (fun u => W_lw cI lw (u.1) (u.2.1) (u.2.2.1) (u.2.2.2) lw_ownSeats ++ W_tx cI tx tx_bytes tx_length tx_parts tx_place tx_firstFault) (fun r u => post r u.1 u.2.1 u.2.2.1 u.2.2.2) := by
  refine mk_Mi (by decide +kernel) (Nat.le_of_ble_eq_true rfl) ?_
  intro Γ hl0 hD0 hC hR
  subst hl0
  subst hD0
  have hC : CX Γ cI cZ cX2_add RX2 5 3 65 := hC
  show VV Γ (W_lw cI lw lw_told lw_parts lw_hangMasks lw_hangValues lw_ownSeats ++ W_tx cI tx tx_bytes tx_length tx_parts tx_place tx_firstFault) [(0, .ref (lw 0)), (1, .int p0), (2, .ref (tx 0))] 0 []
  have B_88 : ∀ (lw_told_14 : Nat → Int32) (lw_parts_15 : Nat → Int32) (lw_hangMasks_16 : Nat → Int32) (lw_hangValues_17 : Nat → Int32) (x1_18 : Int32), wpJ_X2_add_88 tx_parts  post lw_told_14 lw_parts_15 lw_hangMasks_16 lw_hangValues_17 x1_18 → VV Γ (W_lw cI lw lw_told_14 lw_parts_15 lw_hangMasks_16 lw_hangValues_17 lw_ownSeats ++ W_tx cI tx tx_bytes tx_length tx_parts tx_place tx_firstFault) [(0, .ref (lw 0)), (1, .int x1_18), (2, .ref (tx 0))] 88 [] := by
    intro  lw_told_14 lw_parts_15 lw_hangMasks_16 lw_hangValues_17 x1_18 hm
    unfold wpJ_X2_add_88 at hm
    refine x_aload_n hC 0 dX2_add_88 rfl ?_
    refine x_iload_n hC 1 dX2_add_89 rfl ?_
    refine x_aload_n hC 0 dX2_add_90 rfl ?_
    refine x_get hC 0 inX2g 0 rfl rfl 0 (by decide) fl_X2_9 rfl dX2_add_91 ?_
    refine x_iload_n hC 1 dX2_add_94 rfl ?_
    refine x_iald hC 1 rfl hm.1 dX2_add_95 ?_
    replace hm := hm.2
    refine x_callSi hC _ [] [0, 1, 2, 3, 4, 5, 6, 7, 8] [0, 1, 2, 3, 4, 5, 6, 7, 8] (W_lw cI lw lw_told_14 lw_parts_15 lw_hangMasks_16 lw_hangValues_17 lw_ownSeats ++ W_tx cI tx tx_bytes tx_length tx_parts tx_place tx_firstFault) (fun _ => W_lw cI lw lw_told_14 lw_parts_15 lw_hangMasks_16 lw_hangValues_17 lw_ownSeats ++ W_tx cI tx tx_bytes tx_length tx_parts tx_place tx_firstFault) ok_X2_placeOf ml_X2_33 (c_X2_placeOf (gl Γ) (gD Γ) cI cZ   x1_18 (lw_told_14 x1_18.toNatClampNeg) _ hm) (by decide) (by decide) rfl (Nat.le_of_ble_eq_true rfl) rfl rfl rfl rfl (by decide) rfl (fun _ => rfl) rfl dX2_add_96 ?_
    rintro r_19 _ hm
    refine x_aload_n hC 2 dX2_add_99 rfl ?_
    refine x_iconst hC (5 : Int32) dX2_add_100 (by decide) ?_
    refine x_callVi hC _ [6, 7, 8] [0, 1, 2, 3, 4, 5] [0, 1, 2, 3, 4, 5, 6, 7, 8] (W_lw cI lw lw_told_14 lw_parts_15 lw_hangMasks_16 lw_hangValues_17 lw_ownSeats) (fun _ => W_lw cI lw lw_told_14 lw_parts_15 lw_hangMasks_16 lw_hangValues_17 lw_ownSeats ++ W_tx cI tx tx_bytes tx_length tx_parts tx_place tx_firstFault) ok_X6_part ml_X2_44 0 3 (c_X6_part (gl Γ) (gD Γ) cI cZ tx tx_bytes tx_length tx_parts tx_place tx_firstFault ((5 : Int32)) _ hm) (by decide) (by decide) rfl (Nat.le_of_ble_eq_true rfl) rfl rfl rfl rfl (by decide) rfl (fun _ => rfl) rfl rfl rfl rfl dX2_add_101 ?_
    rintro r_20 _ hm
    refine x_callVv hC _ [0, 1, 2, 3, 4, 5] [6, 7, 8] [3, 4, 5, 6, 7, 8, 0, 1, 2] (W_tx cI tx tx_bytes tx_length tx_parts tx_place tx_firstFault) (fun u => W_lw cI lw lw_told_14 lw_parts_15 (u.1) (u.2) lw_ownSeats ++ W_tx cI tx tx_bytes tx_length tx_parts tx_place tx_firstFault) ok_X2_hangOn ml_X2_50 0 0 (c_X2_hangOn (gl Γ) (gD Γ) cI cZ lw lw_told_14 lw_parts_15 lw_hangMasks_16 lw_hangValues_17 lw_ownSeats r_19 r_20 _ hm) (by decide) (by decide) rfl (Nat.le_of_ble_eq_true rfl) rfl rfl rfl rfl (by decide) rfl (fun _ => rfl) rfl rfl rfl rfl dX2_add_104 ?_
    rintro ⟨lw_hangMasks_21, lw_hangValues_22⟩ hm
    refine x_aload_n hC 0 dX2_add_107 rfl ?_
    refine x_get hC 0 inX2g 0 rfl rfl 0 (by decide) fl_X2_9 rfl dX2_add_108 ?_
    refine x_iload_n hC 1 dX2_add_111 rfl ?_
    refine x_iald hC 1 rfl hm.1 dX2_add_112 ?_
    replace hm := hm.2
    exact hR (lw_told_14 x1_18.toNatClampNeg) (lw_told_14, lw_parts_15, lw_hangMasks_21, lw_hangValues_22) [(0, .ref (lw 0)), (1, .int x1_18), (2, .ref (tx 0))] 113 hm rfl dX2_add_113
  have B_44 : ∀ (n : Nat) (lw_told_6 : Nat → Int32) (lw_parts_7 : Nat → Int32) (lw_hangMasks_8 : Nat → Int32) (lw_hangValues_9 : Nat → Int32) (x1_10 : Int32) (x3_11 : Int32) (x4_12 : Int32), wpL_X2_add_44 tx_parts  post n lw_told_6 lw_parts_7 lw_hangMasks_8 lw_hangValues_9 x1_10 x3_11 x4_12 → VV Γ (W_lw cI lw lw_told_6 lw_parts_7 lw_hangMasks_8 lw_hangValues_9 lw_ownSeats ++ W_tx cI tx tx_bytes tx_length tx_parts tx_place tx_firstFault) [(0, .ref (lw 0)), (1, .int x1_10), (2, .ref (tx 0)), (3, .int x3_11), (4, .int x4_12)] 44 [] := by
    intro  n
    induction n with
    | zero => intro lw_told_6 lw_parts_7 lw_hangMasks_8 lw_hangValues_9 x1_10 x3_11 x4_12 hm; rw [wpL_X2_add_44] at hm; exact hm.elim
    | succ n ih =>
      intro lw_told_6 lw_parts_7 lw_hangMasks_8 lw_hangValues_9 x1_10 x3_11 x4_12 hm
      rw [wpL_X2_add_44] at hm
      refine x_iload hC 4 dX2_add_44 rfl ?_
      refine x_bipush hC (6 : Int32) dX2_add_46 (by decide) ?_
      refine x_icmp_ge hC 88 dX2_add_48 (by decide) (fun c_13 => ?_) (fun c_13 => ?_)
      · replace hm := hm.1 c_13
        refine x_lsub [0, 1, 2] rfl ?_
        exact B_88   lw_told_6 lw_parts_7 lw_hangMasks_8 lw_hangValues_9 x1_10 hm
      · replace hm := hm.2 c_13
        refine x_iload_n hC 3 dX2_add_51 rfl ?_
        refine x_if_lt hC 82 dX2_add_52 (by decide) (fun c_23 => ?_) (fun c_23 => ?_)
        · replace hm := hm.1 c_23
          obtain ⟨x4_24, ex4_24⟩ : ∃ y : Int32, y = x4_12 + (1 : Int32) := ⟨_, rfl⟩
          replace hm := hm x4_24 ex4_24
          refine x_iinc hC 4 x4_24 [(0, .ref (lw 0)), (1, .int x1_10), (2, .ref (tx 0)), (3, .int x3_11), (4, .int x4_24)] [1, 2, 3, 4, 0] dX2_add_82 rfl (by rw [ex4_24]; rfl) (by decide) rfl ?_
          refine x_goto hC 44 dX2_add_85 (by decide) ?_
          exact ih lw_told_6 lw_parts_7 lw_hangMasks_8 lw_hangValues_9 x1_10 x3_11 x4_24 hm
        · replace hm := hm.2 c_23
          refine x_iload_n hC 3 dX2_add_55 rfl ?_
          refine x_iload hC 4 dX2_add_56 rfl ?_
          refine x_iadd hC dX2_add_58 ?_
          refine x_aload_n hC 0 dX2_add_59 rfl ?_
          refine x_get hC 0 inX2g 0 rfl rfl 1 (by decide) fl_X2_15 rfl dX2_add_60 ?_
          refine x_alen hC 2 rfl rfl dX2_add_63 ?_
          refine x_icmp_ge hC 82 dX2_add_64 (by decide) (fun c_25 => ?_) (fun c_25 => ?_)
          · replace hm := hm.1 c_25
            obtain ⟨x4_26, ex4_26⟩ : ∃ y : Int32, y = x4_12 + (1 : Int32) := ⟨_, rfl⟩
            replace hm := hm x4_26 ex4_26
            refine x_iinc hC 4 x4_26 [(0, .ref (lw 0)), (1, .int x1_10), (2, .ref (tx 0)), (3, .int x3_11), (4, .int x4_26)] [1, 2, 3, 4, 0] dX2_add_82 rfl (by rw [ex4_26]; rfl) (by decide) rfl ?_
            refine x_goto hC 44 dX2_add_85 (by decide) ?_
            exact ih lw_told_6 lw_parts_7 lw_hangMasks_8 lw_hangValues_9 x1_10 x3_11 x4_26 hm
          · replace hm := hm.2 c_25
            refine x_aload_n hC 0 dX2_add_67 rfl ?_
            refine x_get hC 0 inX2g 0 rfl rfl 1 (by decide) fl_X2_15 rfl dX2_add_68 ?_
            refine x_iload_n hC 3 dX2_add_71 rfl ?_
            refine x_iload hC 4 dX2_add_72 rfl ?_
            refine x_iadd hC dX2_add_74 ?_
            refine x_aload_n hC 2 dX2_add_75 rfl ?_
            refine x_iload hC 4 dX2_add_76 rfl ?_
            refine x_callVi hC _ [6, 7, 8] [0, 1, 2, 3, 4, 5] [0, 1, 2, 3, 4, 5, 6, 7, 8] (W_lw cI lw lw_told_6 lw_parts_7 lw_hangMasks_8 lw_hangValues_9 lw_ownSeats) (fun _ => W_lw cI lw lw_told_6 lw_parts_7 lw_hangMasks_8 lw_hangValues_9 lw_ownSeats ++ W_tx cI tx tx_bytes tx_length tx_parts tx_place tx_firstFault) ok_X6_part ml_X2_44 0 3 (c_X6_part (gl Γ) (gD Γ) cI cZ tx tx_bytes tx_length tx_parts tx_place tx_firstFault x4_12 _ hm) (by decide) (by decide) rfl (Nat.le_of_ble_eq_true rfl) rfl rfl rfl rfl (by decide) rfl (fun _ => rfl) rfl rfl rfl rfl dX2_add_78 ?_
            rintro r_27 _ hm
            refine x_iastN hC 2 rfl hm.1 (fun lw_parts_28 => W_lw cI lw lw_told_6 lw_parts_28 lw_hangMasks_8 lw_hangValues_9 lw_ownSeats ++ W_tx cI tx tx_bytes tx_length tx_parts tx_place tx_firstFault) (fun _ => rfl) dX2_add_81 (fun lw_parts_28 elw_parts_28 => ?_)
            replace hm := hm.2 lw_parts_28 elw_parts_28
            obtain ⟨x4_29, ex4_29⟩ : ∃ y : Int32, y = x4_12 + (1 : Int32) := ⟨_, rfl⟩
            replace hm := hm x4_29 ex4_29
            refine x_iinc hC 4 x4_29 [(0, .ref (lw 0)), (1, .int x1_10), (2, .ref (tx 0)), (3, .int x3_11), (4, .int x4_29)] [1, 2, 3, 4, 0] dX2_add_82 rfl (by rw [ex4_29]; rfl) (by decide) rfl ?_
            refine x_goto hC 44 dX2_add_85 (by decide) ?_
            exact ih lw_told_6 lw_parts_28 lw_hangMasks_8 lw_hangValues_9 x1_10 x3_11 x4_29 hm
  unfold wp_X2_add at hm
  refine x_iload_n hC 1 dX2_add_0 rfl ?_
  refine x_callNi hC _ [] [0, 1, 2, 3, 4, 5, 6, 7, 8] [0, 1, 2, 3, 4, 5, 6, 7, 8] (W_lw cI lw lw_told lw_parts lw_hangMasks lw_hangValues lw_ownSeats ++ W_tx cI tx tx_bytes tx_length tx_parts tx_place tx_firstFault) (fun _ => W_lw cI lw lw_told lw_parts lw_hangMasks lw_hangValues lw_ownSeats ++ W_tx cI tx tx_bytes tx_length tx_parts tx_place tx_firstFault) ok_X7_isClause RX7 (fun h => h.2.1) (c_X7_isClause (gl Γ) (gD Γ) cI cZ   p0 _ hm) (by decide) (by decide) rfl (Nat.le_of_ble_eq_true rfl) rfl rfl rfl rfl (by decide) rfl (fun _ => rfl) rfl dX2_add_1 ?_
  rintro r_1 _ hm
  refine x_if_eq hC 17 dX2_add_4 (by decide) (fun c_2 => ?_) (fun c_2 => ?_)
  · replace hm := hm.1 c_2
    refine x_bipush hC (-4 : Int32) dX2_add_17 (by decide) ?_
    exact hR ((-4 : Int32)) (lw_told, lw_parts, lw_hangMasks, lw_hangValues) [(0, .ref (lw 0)), (1, .int p0), (2, .ref (tx 0))] 19 hm rfl dX2_add_19
  · replace hm := hm.2 c_2
    refine x_aload_n hC 0 dX2_add_7 rfl ?_
    refine x_get hC 0 inX2g 0 rfl rfl 0 (by decide) fl_X2_9 rfl dX2_add_8 ?_
    refine x_iload_n hC 1 dX2_add_11 rfl ?_
    refine x_iald hC 1 rfl hm.1 dX2_add_12 ?_
    replace hm := hm.2
    refine x_iconst hC (3 : Int32) dX2_add_13 (by decide) ?_
    refine x_icmp_lt hC 20 dX2_add_14 (by decide) (fun c_3 => ?_) (fun c_3 => ?_)
    · replace hm := hm.1 c_3
      refine x_aload_n hC 0 dX2_add_20 rfl ?_
      refine x_get hC 0 inX2g 0 rfl rfl 0 (by decide) fl_X2_9 rfl dX2_add_21 ?_
      refine x_iload_n hC 1 dX2_add_24 rfl ?_
      refine x_dup2 hC dX2_add_25 rfl rfl ?_
      refine x_iald hC 1 rfl hm.1 dX2_add_26 ?_
      replace hm := hm.2
      refine x_iconst hC (1 : Int32) dX2_add_27 (by decide) ?_
      refine x_iadd hC dX2_add_28 ?_
      refine x_iastN hC 1 rfl hm.1 (fun lw_told_4 => W_lw cI lw lw_told_4 lw_parts lw_hangMasks lw_hangValues lw_ownSeats ++ W_tx cI tx tx_bytes tx_length tx_parts tx_place tx_firstFault) (fun _ => rfl) dX2_add_29 (fun lw_told_4 elw_told_4 => ?_)
      replace hm := hm.2 lw_told_4 elw_told_4
      refine x_iload_n hC 1 dX2_add_30 rfl ?_
      refine x_aload_n hC 0 dX2_add_31 rfl ?_
      refine x_get hC 0 inX2g 0 rfl rfl 0 (by decide) fl_X2_9 rfl dX2_add_32 ?_
      refine x_iload_n hC 1 dX2_add_35 rfl ?_
      refine x_iald hC 1 rfl hm.1 dX2_add_36 ?_
      replace hm := hm.2
      refine x_callSi hC _ [] [0, 1, 2, 3, 4, 5, 6, 7, 8] [0, 1, 2, 3, 4, 5, 6, 7, 8] (W_lw cI lw lw_told_4 lw_parts lw_hangMasks lw_hangValues lw_ownSeats ++ W_tx cI tx tx_bytes tx_length tx_parts tx_place tx_firstFault) (fun _ => W_lw cI lw lw_told_4 lw_parts lw_hangMasks lw_hangValues lw_ownSeats ++ W_tx cI tx tx_bytes tx_length tx_parts tx_place tx_firstFault) ok_X2_rowOf ml_X2_41 (c_X2_rowOf (gl Γ) (gD Γ) cI cZ   p0 (lw_told_4 p0.toNatClampNeg) _ hm) (by decide) (by decide) rfl (Nat.le_of_ble_eq_true rfl) rfl rfl rfl rfl (by decide) rfl (fun _ => rfl) rfl dX2_add_37 ?_
      rintro r_5 _ hm
      refine x_istore_n hC [(0, .ref (lw 0)), (1, .int p0), (2, .ref (tx 0)), (3, .int r_5)] [1, 2, 3, 0] dX2_add_40 (by decide) rfl ?_
      refine x_iconst hC (0 : Int32) dX2_add_41 (by decide) ?_
      refine x_istore hC [(0, .ref (lw 0)), (1, .int p0), (2, .ref (tx 0)), (3, .int r_5), (4, .int ((0 : Int32)))] [1, 2, 3, 4, 0] dX2_add_42 (by decide) rfl ?_
      obtain ⟨n_30, hm⟩ := hm
      exact B_44  n_30 lw_told_4 lw_parts lw_hangMasks lw_hangValues p0 r_5 ((0 : Int32)) hm
    · replace hm := hm.2 c_3
      refine x_bipush hC (-4 : Int32) dX2_add_17 (by decide) ?_
      exact hR ((-4 : Int32)) (lw_told, lw_parts, lw_hangMasks, lw_hangValues) [(0, .ref (lw 0)), (1, .int p0), (2, .ref (tx 0))] 19 hm rfl dX2_add_19

def wp_X2_drop (lw_told : Nat → Int32) (p0 : Int32) (post : Int32 → (Nat → Int32) → Prop) : Prop := wp_X7_isClause  p0 (fun (r_1 : Int32) => (¬ r_1 = 0 → vp_in p0 5 ∧ (∀ x2_3 : Int32, x2_3 = lw_told p0.toNatClampNeg → vp_in p0 5 ∧ ∀ lw_told_4 : Nat → Int32, lw_told_4 = upd lw_told p0.toNatClampNeg ((0 : Int32)) → post x2_3 lw_told_4)) ∧ (r_1 = 0 → post ((0 : Int32)) lw_told))
set_option maxHeartbeats 4000000 in
set_option maxRecDepth 100000 in
theorem c_X2_drop (l : Launch) (D : va_G) (cI cZ : ClassId) (lw : Nat → Nat) (lw_told : Nat → Int32) (lw_parts : Nat → Int32) (lw_hangMasks : Nat → Int32) (lw_hangValues : Nat → Int32) (lw_ownSeats : Nat → Int32) (p0 : Int32) (post : Int32 → (Nat → Int32) → Prop) (hm : wp_X2_drop lw_told p0 post) : Mi l D cI cZ yX2_drop cX2_drop 3 .int 1 20 [.ref (lw 0), .int p0] (W_lw cI lw lw_told lw_parts lw_hangMasks lw_hangValues lw_ownSeats) (S := (Nat → Int32)) (fun u => W_lw cI lw u lw_parts lw_hangMasks lw_hangValues lw_ownSeats) (fun r u => post r u) := by
  refine mk_Mi (by decide +kernel) (Nat.le_of_ble_eq_true rfl) ?_
  intro Γ hl0 hD0 hC hR
  subst hl0
  subst hD0
  have hC : CX Γ cI cZ cX2_drop RX2 3 1 20 := hC
  show VV Γ (W_lw cI lw lw_told lw_parts lw_hangMasks lw_hangValues lw_ownSeats) [(0, .ref (lw 0)), (1, .int p0)] 0 []
  unfold wp_X2_drop at hm
  refine x_iload_n hC 1 dX2_drop_0 rfl ?_
  refine x_callNi hC _ [] [0, 1, 2, 3, 4, 5] [0, 1, 2, 3, 4, 5] (W_lw cI lw lw_told lw_parts lw_hangMasks lw_hangValues lw_ownSeats) (fun _ => W_lw cI lw lw_told lw_parts lw_hangMasks lw_hangValues lw_ownSeats) ok_X7_isClause RX7 (fun h => h.2.1) (c_X7_isClause (gl Γ) (gD Γ) cI cZ   p0 _ hm) (by decide) (by decide) rfl (Nat.le_of_ble_eq_true rfl) rfl rfl rfl rfl (by decide) rfl (fun _ => rfl) rfl dX2_drop_1 ?_
  rintro r_1 _ hm
  refine x_if_ne hC 9 dX2_drop_4 (by decide) (fun c_2 => ?_) (fun c_2 => ?_)
  · replace hm := hm.1 c_2
    refine x_aload_n hC 0 dX2_drop_9 rfl ?_
    refine x_get hC 0 inX2g 0 rfl rfl 0 (by decide) fl_X2_9 rfl dX2_drop_10 ?_
    refine x_iload_n hC 1 dX2_drop_13 rfl ?_
    refine x_iald hC 1 rfl hm.1 dX2_drop_14 ?_
    replace hm := hm.2
    refine x_top (fun x2_3 ex2_3 => ?_)
    replace hm := hm x2_3 ex2_3
    refine x_istore_n hC [(0, .ref (lw 0)), (1, .int p0), (2, .int x2_3)] [1, 2, 0] dX2_drop_15 (by decide) rfl ?_
    refine x_aload_n hC 0 dX2_drop_16 rfl ?_
    refine x_get hC 0 inX2g 0 rfl rfl 0 (by decide) fl_X2_9 rfl dX2_drop_17 ?_
    refine x_iload_n hC 1 dX2_drop_20 rfl ?_
    refine x_iconst hC (0 : Int32) dX2_drop_21 (by decide) ?_
    refine x_iastN hC 1 rfl hm.1 (fun lw_told_4 => W_lw cI lw lw_told_4 lw_parts lw_hangMasks lw_hangValues lw_ownSeats) (fun _ => rfl) dX2_drop_22 (fun lw_told_4 elw_told_4 => ?_)
    replace hm := hm.2 lw_told_4 elw_told_4
    refine x_iload_n hC 2 dX2_drop_23 rfl ?_
    exact hR x2_3 lw_told_4 [(0, .ref (lw 0)), (1, .int p0), (2, .int x2_3)] 24 hm rfl dX2_drop_24
  · replace hm := hm.2 c_2
    refine x_iconst hC (0 : Int32) dX2_drop_7 (by decide) ?_
    exact hR ((0 : Int32)) lw_told [(0, .ref (lw 0)), (1, .int p0)] 8 hm rfl dX2_drop_8

def wp_X2_formsOf (lw_told : Nat → Int32) (p0 : Int32) (post : Int32 → Prop) : Prop := (p0 < 0 → post ((0 : Int32)) ) ∧ (¬ p0 < 0 → (p0 < ((5 : Int32)) → vp_in p0 5 ∧ (post (lw_told p0.toNatClampNeg) )) ∧ (¬ p0 < ((5 : Int32)) → post ((0 : Int32)) ))
set_option maxHeartbeats 4000000 in
set_option maxRecDepth 100000 in
theorem c_X2_formsOf (l : Launch) (D : va_G) (cI cZ : ClassId) (lw : Nat → Nat) (lw_told : Nat → Int32) (lw_parts : Nat → Int32) (lw_hangMasks : Nat → Int32) (lw_hangValues : Nat → Int32) (lw_ownSeats : Nat → Int32) (p0 : Int32) (post : Int32 → Prop) (hm : wp_X2_formsOf lw_told p0 post) : Mi l D cI cZ yX2_formsOf cX2_formsOf 2 .int 0 0 [.ref (lw 0), .int p0] (W_lw cI lw lw_told lw_parts lw_hangMasks lw_hangValues lw_ownSeats) (S := Unit) (fun _ => W_lw cI lw lw_told lw_parts lw_hangMasks lw_hangValues lw_ownSeats) (fun r _ => post r ) := by
  refine mk_Mi (by decide +kernel) (Nat.le_of_ble_eq_true rfl) ?_
  intro Γ hl0 hD0 hC hR
  subst hl0
  subst hD0
  have hC : CX Γ cI cZ cX2_formsOf RX2 2 0 0 := hC
  show VV Γ (W_lw cI lw lw_told lw_parts lw_hangMasks lw_hangValues lw_ownSeats) [(0, .ref (lw 0)), (1, .int p0)] 0 []
  unfold wp_X2_formsOf at hm
  refine x_iload_n hC 1 dX2_formsOf_0 rfl ?_
  refine x_if_lt hC 9 dX2_formsOf_1 (by decide) (fun c_1 => ?_) (fun c_1 => ?_)
  · replace hm := hm.1 c_1
    refine x_iconst hC (0 : Int32) dX2_formsOf_9 (by decide) ?_
    refine x_goto hC 19 dX2_formsOf_10 (by decide) ?_
    exact hR ((0 : Int32)) () [(0, .ref (lw 0)), (1, .int p0)] 19 hm rfl dX2_formsOf_19
  · replace hm := hm.2 c_1
    refine x_iload_n hC 1 dX2_formsOf_4 rfl ?_
    refine x_iconst hC (5 : Int32) dX2_formsOf_5 (by decide) ?_
    refine x_icmp_lt hC 13 dX2_formsOf_6 (by decide) (fun c_2 => ?_) (fun c_2 => ?_)
    · replace hm := hm.1 c_2
      refine x_aload_n hC 0 dX2_formsOf_13 rfl ?_
      refine x_get hC 0 inX2g 0 rfl rfl 0 (by decide) fl_X2_9 rfl dX2_formsOf_14 ?_
      refine x_iload_n hC 1 dX2_formsOf_17 rfl ?_
      refine x_iald hC 1 rfl hm.1 dX2_formsOf_18 ?_
      replace hm := hm.2
      exact hR (lw_told p0.toNatClampNeg) () [(0, .ref (lw 0)), (1, .int p0)] 19 hm rfl dX2_formsOf_19
    · replace hm := hm.2 c_2
      refine x_iconst hC (0 : Int32) dX2_formsOf_9 (by decide) ?_
      refine x_goto hC 19 dX2_formsOf_10 (by decide) ?_
      exact hR ((0 : Int32)) () [(0, .ref (lw 0)), (1, .int p0)] 19 hm rfl dX2_formsOf_19

def wp_X2_giveSeats (lw_ownSeats : Nat → Int32) (p0 : Int32) (p1 : Int32) (p2 : Int32) (post : Int32 → (Nat → Int32) → Prop) : Prop := ∀ x4_1 : Int32, x4_1 = (p0 * ((4 : Int32))) + p1 → (x4_1 < 0 → post ((0 : Int32)) lw_ownSeats) ∧ (¬ x4_1 < 0 → (x4_1 < ((12 : Int32)) → vp_in x4_1 12 ∧ (∀ x5_4 : Int32, x5_4 = lw_ownSeats x4_1.toNatClampNeg → vp_in x4_1 12 ∧ ∀ lw_ownSeats_5 : Nat → Int32, lw_ownSeats_5 = upd lw_ownSeats x4_1.toNatClampNeg p2 → post x5_4 lw_ownSeats_5)) ∧ (¬ x4_1 < ((12 : Int32)) → post ((0 : Int32)) lw_ownSeats))
set_option maxHeartbeats 4000000 in
set_option maxRecDepth 100000 in
theorem c_X2_giveSeats (l : Launch) (D : va_G) (cI cZ : ClassId) (lw : Nat → Nat) (lw_told : Nat → Int32) (lw_parts : Nat → Int32) (lw_hangMasks : Nat → Int32) (lw_hangValues : Nat → Int32) (lw_ownSeats : Nat → Int32) (p0 : Int32) (p1 : Int32) (p2 : Int32) (post : Int32 → (Nat → Int32) → Prop) (hm : wp_X2_giveSeats lw_ownSeats p0 p1 p2 post) : Mi l D cI cZ yX2_giveSeats cX2_giveSeats 6 .int 0 0 [.ref (lw 0), .int p0, .int p1, .int p2] (W_lw cI lw lw_told lw_parts lw_hangMasks lw_hangValues lw_ownSeats) (S := (Nat → Int32)) (fun u => W_lw cI lw lw_told lw_parts lw_hangMasks lw_hangValues u) (fun r u => post r u) := by
  refine mk_Mi (by decide +kernel) (Nat.le_of_ble_eq_true rfl) ?_
  intro Γ hl0 hD0 hC hR
  subst hl0
  subst hD0
  have hC : CX Γ cI cZ cX2_giveSeats RX2 6 0 0 := hC
  show VV Γ (W_lw cI lw lw_told lw_parts lw_hangMasks lw_hangValues lw_ownSeats) [(0, .ref (lw 0)), (1, .int p0), (2, .int p1), (3, .int p2)] 0 []
  unfold wp_X2_giveSeats at hm
  refine x_iload_n hC 1 dX2_giveSeats_0 rfl ?_
  refine x_iconst hC (4 : Int32) dX2_giveSeats_1 (by decide) ?_
  refine x_imul hC dX2_giveSeats_2 ?_
  refine x_iload_n hC 2 dX2_giveSeats_3 rfl ?_
  refine x_iadd hC dX2_giveSeats_4 ?_
  refine x_top (fun x4_1 ex4_1 => ?_)
  replace hm := hm x4_1 ex4_1
  refine x_istore hC [(0, .ref (lw 0)), (1, .int p0), (2, .int p1), (3, .int p2), (4, .int x4_1)] [1, 2, 3, 4, 0] dX2_giveSeats_5 (by decide) rfl ?_
  refine x_iload hC 4 dX2_giveSeats_7 rfl ?_
  refine x_if_lt hC 22 dX2_giveSeats_9 (by decide) (fun c_2 => ?_) (fun c_2 => ?_)
  · replace hm := hm.1 c_2
    refine x_iconst hC (0 : Int32) dX2_giveSeats_22 (by decide) ?_
    exact hR ((0 : Int32)) lw_ownSeats [(0, .ref (lw 0)), (1, .int p0), (2, .int p1), (3, .int p2), (4, .int x4_1)] 23 hm rfl dX2_giveSeats_23
  · replace hm := hm.2 c_2
    refine x_iload hC 4 dX2_giveSeats_12 rfl ?_
    refine x_aload_n hC 0 dX2_giveSeats_14 rfl ?_
    refine x_get hC 0 inX2g 0 rfl rfl 4 (by decide) fl_X2_24 rfl dX2_giveSeats_15 ?_
    refine x_alen hC 5 rfl rfl dX2_giveSeats_18 ?_
    refine x_icmp_lt hC 24 dX2_giveSeats_19 (by decide) (fun c_3 => ?_) (fun c_3 => ?_)
    · replace hm := hm.1 c_3
      refine x_aload_n hC 0 dX2_giveSeats_24 rfl ?_
      refine x_get hC 0 inX2g 0 rfl rfl 4 (by decide) fl_X2_24 rfl dX2_giveSeats_25 ?_
      refine x_iload hC 4 dX2_giveSeats_28 rfl ?_
      refine x_iald hC 5 rfl hm.1 dX2_giveSeats_30 ?_
      replace hm := hm.2
      refine x_top (fun x5_4 ex5_4 => ?_)
      replace hm := hm x5_4 ex5_4
      refine x_istore hC [(0, .ref (lw 0)), (1, .int p0), (2, .int p1), (3, .int p2), (4, .int x4_1), (5, .int x5_4)] [1, 2, 3, 4, 5, 0] dX2_giveSeats_31 (by decide) rfl ?_
      refine x_aload_n hC 0 dX2_giveSeats_33 rfl ?_
      refine x_get hC 0 inX2g 0 rfl rfl 4 (by decide) fl_X2_24 rfl dX2_giveSeats_34 ?_
      refine x_iload hC 4 dX2_giveSeats_37 rfl ?_
      refine x_iload_n hC 3 dX2_giveSeats_39 rfl ?_
      refine x_iastN hC 5 rfl hm.1 (fun lw_ownSeats_5 => W_lw cI lw lw_told lw_parts lw_hangMasks lw_hangValues lw_ownSeats_5) (fun _ => rfl) dX2_giveSeats_40 (fun lw_ownSeats_5 elw_ownSeats_5 => ?_)
      replace hm := hm.2 lw_ownSeats_5 elw_ownSeats_5
      refine x_iload hC 5 dX2_giveSeats_41 rfl ?_
      exact hR x5_4 lw_ownSeats_5 [(0, .ref (lw 0)), (1, .int p0), (2, .int p1), (3, .int p2), (4, .int x4_1), (5, .int x5_4)] 43 hm rfl dX2_giveSeats_43
    · replace hm := hm.2 c_3
      refine x_iconst hC (0 : Int32) dX2_giveSeats_22 (by decide) ?_
      exact hR ((0 : Int32)) lw_ownSeats [(0, .ref (lw 0)), (1, .int p0), (2, .int p1), (3, .int p2), (4, .int x4_1)] 23 hm rfl dX2_giveSeats_23

def wp_X2_inForce (lw_hangMasks : Nat → Int32) (lw_hangValues : Nat → Int32) (p0 : Int32) (p1 : Int32) (post : Int32 → Prop) : Prop := wp_X5_formOf  p0 p1 (fun (r_1 : Int32) => wp_X2_placeOf  p1 r_1 (fun (r_2 : Int32) => (r_1 = 0 → post ((0 : Int32)) ) ∧ (¬ r_1 = 0 → (r_2 < 0 → post ((0 : Int32)) ) ∧ (¬ r_2 < 0 → (r_2 < ((20 : Int32)) → vp_in r_2 20 ∧ (vp_in r_2 20 ∧ ((¬ (p0 &&& (lw_hangMasks r_2.toNatClampNeg)) = (lw_hangValues r_2.toNatClampNeg) → post ((0 : Int32)) ) ∧ ((p0 &&& (lw_hangMasks r_2.toNatClampNeg)) = (lw_hangValues r_2.toNatClampNeg) → post ((1 : Int32)) )))) ∧ (¬ r_2 < ((20 : Int32)) → post ((0 : Int32)) )))))
set_option maxHeartbeats 4000000 in
set_option maxRecDepth 100000 in
theorem c_X2_inForce (l : Launch) (D : va_G) (cI cZ : ClassId) (lw : Nat → Nat) (lw_told : Nat → Int32) (lw_parts : Nat → Int32) (lw_hangMasks : Nat → Int32) (lw_hangValues : Nat → Int32) (lw_ownSeats : Nat → Int32) (p0 : Int32) (p1 : Int32) (post : Int32 → Prop) (hm : wp_X2_inForce lw_hangMasks lw_hangValues p0 p1 post) : Mi l D cI cZ yX2_inForce cX2_inForce 5 .boolean 1 21 [.ref (lw 0), .int p0, .int p1] (W_lw cI lw lw_told lw_parts lw_hangMasks lw_hangValues lw_ownSeats) (S := Unit) (fun _ => W_lw cI lw lw_told lw_parts lw_hangMasks lw_hangValues lw_ownSeats) (fun r _ => post r ) := by
  refine mk_Mi (by decide +kernel) (Nat.le_of_ble_eq_true rfl) ?_
  intro Γ hl0 hD0 hC hR
  subst hl0
  subst hD0
  have hC : CX Γ cI cZ cX2_inForce RX2 5 1 21 := hC
  show VV Γ (W_lw cI lw lw_told lw_parts lw_hangMasks lw_hangValues lw_ownSeats) [(0, .ref (lw 0)), (1, .int p0), (2, .int p1)] 0 []
  unfold wp_X2_inForce at hm
  refine x_iload_n hC 1 dX2_inForce_0 rfl ?_
  refine x_iload_n hC 2 dX2_inForce_1 rfl ?_
  refine x_callSi hC _ [] [0, 1, 2, 3, 4, 5] [0, 1, 2, 3, 4, 5] (W_lw cI lw lw_told lw_parts lw_hangMasks lw_hangValues lw_ownSeats) (fun _ => W_lw cI lw lw_told lw_parts lw_hangMasks lw_hangValues lw_ownSeats) ok_X5_formOf ml_X2_62 (c_X5_formOf (gl Γ) (gD Γ) cI cZ   p0 p1 _ hm) (by decide) (by decide) rfl (Nat.le_of_ble_eq_true rfl) rfl rfl rfl rfl (by decide) rfl (fun _ => rfl) rfl dX2_inForce_2 ?_
  rintro r_1 _ hm
  refine x_istore_n hC [(0, .ref (lw 0)), (1, .int p0), (2, .int p1), (3, .int r_1)] [1, 2, 3, 0] dX2_inForce_5 (by decide) rfl ?_
  refine x_iload_n hC 2 dX2_inForce_6 rfl ?_
  refine x_iload_n hC 3 dX2_inForce_7 rfl ?_
  refine x_callSi hC _ [] [0, 1, 2, 3, 4, 5] [0, 1, 2, 3, 4, 5] (W_lw cI lw lw_told lw_parts lw_hangMasks lw_hangValues lw_ownSeats) (fun _ => W_lw cI lw lw_told lw_parts lw_hangMasks lw_hangValues lw_ownSeats) ok_X2_placeOf ml_X2_33 (c_X2_placeOf (gl Γ) (gD Γ) cI cZ   p1 r_1 _ hm) (by decide) (by decide) rfl (Nat.le_of_ble_eq_true rfl) rfl rfl rfl rfl (by decide) rfl (fun _ => rfl) rfl dX2_inForce_8 ?_
  rintro r_2 _ hm
  refine x_istore hC [(0, .ref (lw 0)), (1, .int p0), (2, .int p1), (3, .int r_1), (4, .int r_2)] [1, 2, 3, 4, 0] dX2_inForce_11 (by decide) rfl ?_
  refine x_iload_n hC 3 dX2_inForce_13 rfl ?_
  refine x_if_eq hC 29 dX2_inForce_14 (by decide) (fun c_3 => ?_) (fun c_3 => ?_)
  · replace hm := hm.1 c_3
    refine x_iconst hC (0 : Int32) dX2_inForce_29 (by decide) ?_
    exact hR ((0 : Int32)) () [(0, .ref (lw 0)), (1, .int p0), (2, .int p1), (3, .int r_1), (4, .int r_2)] 30 hm rfl dX2_inForce_30
  · replace hm := hm.2 c_3
    refine x_iload hC 4 dX2_inForce_17 rfl ?_
    refine x_if_lt hC 29 dX2_inForce_19 (by decide) (fun c_4 => ?_) (fun c_4 => ?_)
    · replace hm := hm.1 c_4
      refine x_iconst hC (0 : Int32) dX2_inForce_29 (by decide) ?_
      exact hR ((0 : Int32)) () [(0, .ref (lw 0)), (1, .int p0), (2, .int p1), (3, .int r_1), (4, .int r_2)] 30 hm rfl dX2_inForce_30
    · replace hm := hm.2 c_4
      refine x_iload hC 4 dX2_inForce_22 rfl ?_
      refine x_bipush hC (20 : Int32) dX2_inForce_24 (by decide) ?_
      refine x_icmp_lt hC 31 dX2_inForce_26 (by decide) (fun c_5 => ?_) (fun c_5 => ?_)
      · replace hm := hm.1 c_5
        refine x_iload_n hC 1 dX2_inForce_31 rfl ?_
        refine x_aload_n hC 0 dX2_inForce_32 rfl ?_
        refine x_get hC 0 inX2g 0 rfl rfl 2 (by decide) fl_X2_18 rfl dX2_inForce_33 ?_
        refine x_iload hC 4 dX2_inForce_36 rfl ?_
        refine x_iald hC 3 rfl hm.1 dX2_inForce_38 ?_
        replace hm := hm.2
        refine x_iand hC dX2_inForce_39 ?_
        refine x_aload_n hC 0 dX2_inForce_40 rfl ?_
        refine x_get hC 0 inX2g 0 rfl rfl 3 (by decide) fl_X2_21 rfl dX2_inForce_41 ?_
        refine x_iload hC 4 dX2_inForce_44 rfl ?_
        refine x_iald hC 4 rfl hm.1 dX2_inForce_46 ?_
        replace hm := hm.2
        refine x_icmp_ne hC 54 dX2_inForce_47 (by decide) (fun c_6 => ?_) (fun c_6 => ?_)
        · replace hm := hm.1 c_6
          refine x_iconst hC (0 : Int32) dX2_inForce_54 (by decide) ?_
          exact hR ((0 : Int32)) () [(0, .ref (lw 0)), (1, .int p0), (2, .int p1), (3, .int r_1), (4, .int r_2)] 55 hm rfl dX2_inForce_55
        · replace hm := hm.2 c_6
          refine x_iconst hC (1 : Int32) dX2_inForce_50 (by decide) ?_
          refine x_goto hC 55 dX2_inForce_51 (by decide) ?_
          exact hR ((1 : Int32)) () [(0, .ref (lw 0)), (1, .int p0), (2, .int p1), (3, .int r_1), (4, .int r_2)] 55 hm rfl dX2_inForce_55
      · replace hm := hm.2 c_5
        refine x_iconst hC (0 : Int32) dX2_inForce_29 (by decide) ?_
        exact hR ((0 : Int32)) () [(0, .ref (lw 0)), (1, .int p0), (2, .int p1), (3, .int r_1), (4, .int r_2)] 30 hm rfl dX2_inForce_30

def wpL_X2_howManyInForce_4 (lw_hangMasks : Nat → Int32) (lw_hangValues : Nat → Int32)  (post : Int32 → Prop) : Nat → Int32 → Int32 → Int32 → Prop
  | 0, _, _, _ => False
  | n + 1, x1_1, x2_2, x3_3 => (((5 : Int32)) ≤ x3_3 → post x2_2 ) ∧ (¬ ((5 : Int32)) ≤ x3_3 → wp_X2_inForce lw_hangMasks lw_hangValues x1_1 x3_3 (fun (r_5 : Int32) => (r_5 = 0 → ∀ x2_7 : Int32, x2_7 = x2_2 + ((0 : Int32)) → ∀ x3_8 : Int32, x3_8 = x3_3 + (1 : Int32) → (wpL_X2_howManyInForce_4 lw_hangMasks lw_hangValues  post n) x1_1 x2_7 x3_8) ∧ (¬ r_5 = 0 → ∀ x2_9 : Int32, x2_9 = x2_2 + ((1 : Int32)) → ∀ x3_10 : Int32, x3_10 = x3_3 + (1 : Int32) → (wpL_X2_howManyInForce_4 lw_hangMasks lw_hangValues  post n) x1_1 x2_9 x3_10)))
def wp_X2_howManyInForce (lw_hangMasks : Nat → Int32) (lw_hangValues : Nat → Int32) (p0 : Int32) (post : Int32 → Prop) : Prop := ∃ k4, wpL_X2_howManyInForce_4 lw_hangMasks lw_hangValues  post k4 p0 ((0 : Int32)) ((0 : Int32))
set_option maxHeartbeats 4000000 in
set_option maxRecDepth 100000 in
theorem c_X2_howManyInForce (l : Launch) (D : va_G) (cI cZ : ClassId) (lw : Nat → Nat) (lw_told : Nat → Int32) (lw_parts : Nat → Int32) (lw_hangMasks : Nat → Int32) (lw_hangValues : Nat → Int32) (lw_ownSeats : Nat → Int32) (p0 : Int32) (post : Int32 → Prop) (hm : wp_X2_howManyInForce lw_hangMasks lw_hangValues p0 post) : Mi l D cI cZ yX2_howManyInForce cX2_howManyInForce 4 .int 2 45 [.ref (lw 0), .int p0] (W_lw cI lw lw_told lw_parts lw_hangMasks lw_hangValues lw_ownSeats) (S := Unit) (fun _ => W_lw cI lw lw_told lw_parts lw_hangMasks lw_hangValues lw_ownSeats) (fun r _ => post r ) := by
  refine mk_Mi (by decide +kernel) (Nat.le_of_ble_eq_true rfl) ?_
  intro Γ hl0 hD0 hC hR
  subst hl0
  subst hD0
  have hC : CX Γ cI cZ cX2_howManyInForce RX2 4 2 45 := hC
  show VV Γ (W_lw cI lw lw_told lw_parts lw_hangMasks lw_hangValues lw_ownSeats) [(0, .ref (lw 0)), (1, .int p0)] 0 []
  have B_4 : ∀ (n : Nat) (x1_1 : Int32) (x2_2 : Int32) (x3_3 : Int32), wpL_X2_howManyInForce_4 lw_hangMasks lw_hangValues  post n x1_1 x2_2 x3_3 → VV Γ (W_lw cI lw lw_told lw_parts lw_hangMasks lw_hangValues lw_ownSeats) [(0, .ref (lw 0)), (1, .int x1_1), (2, .int x2_2), (3, .int x3_3)] 4 [] := by
    intro  n
    induction n with
    | zero => intro x1_1 x2_2 x3_3 hm; rw [wpL_X2_howManyInForce_4] at hm; exact hm.elim
    | succ n ih =>
      intro x1_1 x2_2 x3_3 hm
      rw [wpL_X2_howManyInForce_4] at hm
      refine x_iload_n hC 3 dX2_howManyInForce_4 rfl ?_
      refine x_iconst hC (5 : Int32) dX2_howManyInForce_5 (by decide) ?_
      refine x_icmp_ge hC 32 dX2_howManyInForce_6 (by decide) (fun c_4 => ?_) (fun c_4 => ?_)
      · replace hm := hm.1 c_4
        refine x_iload_n hC 2 dX2_howManyInForce_32 rfl ?_
        exact hR x2_2 () [(0, .ref (lw 0)), (1, .int x1_1), (2, .int x2_2), (3, .int x3_3)] 33 hm rfl dX2_howManyInForce_33
      · replace hm := hm.2 c_4
        refine x_iload_n hC 2 dX2_howManyInForce_9 rfl ?_
        refine x_aload_n hC 0 dX2_howManyInForce_10 rfl ?_
        refine x_iload_n hC 1 dX2_howManyInForce_11 rfl ?_
        refine x_iload_n hC 3 dX2_howManyInForce_12 rfl ?_
        refine x_callVi hC _ [0, 1, 2, 3, 4, 5] [] [0, 1, 2, 3, 4, 5] (([] : va_W)) (fun _ => W_lw cI lw lw_told lw_parts lw_hangMasks lw_hangValues lw_ownSeats) ok_X2_inForce ml_X2_67 0 0 (c_X2_inForce (gl Γ) (gD Γ) cI cZ lw lw_told lw_parts lw_hangMasks lw_hangValues lw_ownSeats x1_1 x3_3 _ hm) (by decide) (by decide) rfl (Nat.le_of_ble_eq_true rfl) rfl rfl rfl rfl (by decide) rfl (fun _ => rfl) rfl rfl rfl rfl dX2_howManyInForce_13 ?_
        rintro r_5 _ hm
        refine x_if_eq hC 23 dX2_howManyInForce_16 (by decide) (fun c_6 => ?_) (fun c_6 => ?_)
        · replace hm := hm.1 c_6
          refine x_iconst hC (0 : Int32) dX2_howManyInForce_23 (by decide) ?_
          refine x_iadd hC dX2_howManyInForce_24 ?_
          refine x_top (fun x2_7 ex2_7 => ?_)
          replace hm := hm x2_7 ex2_7
          refine x_istore_n hC [(0, .ref (lw 0)), (1, .int x1_1), (2, .int x2_7), (3, .int x3_3)] [1, 2, 0, 3] dX2_howManyInForce_25 (by decide) rfl ?_
          obtain ⟨x3_8, ex3_8⟩ : ∃ y : Int32, y = x3_3 + (1 : Int32) := ⟨_, rfl⟩
          replace hm := hm x3_8 ex3_8
          refine x_iinc hC 3 x3_8 [(0, .ref (lw 0)), (1, .int x1_1), (2, .int x2_7), (3, .int x3_8)] [1, 2, 3, 0] dX2_howManyInForce_26 rfl (by rw [ex3_8]; rfl) (by decide) rfl ?_
          refine x_goto hC 4 dX2_howManyInForce_29 (by decide) ?_
          exact ih x1_1 x2_7 x3_8 hm
        · replace hm := hm.2 c_6
          refine x_iconst hC (1 : Int32) dX2_howManyInForce_19 (by decide) ?_
          refine x_goto hC 24 dX2_howManyInForce_20 (by decide) ?_
          refine x_iadd hC dX2_howManyInForce_24 ?_
          refine x_top (fun x2_9 ex2_9 => ?_)
          replace hm := hm x2_9 ex2_9
          refine x_istore_n hC [(0, .ref (lw 0)), (1, .int x1_1), (2, .int x2_9), (3, .int x3_3)] [1, 2, 0, 3] dX2_howManyInForce_25 (by decide) rfl ?_
          obtain ⟨x3_10, ex3_10⟩ : ∃ y : Int32, y = x3_3 + (1 : Int32) := ⟨_, rfl⟩
          replace hm := hm x3_10 ex3_10
          refine x_iinc hC 3 x3_10 [(0, .ref (lw 0)), (1, .int x1_1), (2, .int x2_9), (3, .int x3_10)] [1, 2, 3, 0] dX2_howManyInForce_26 rfl (by rw [ex3_10]; rfl) (by decide) rfl ?_
          refine x_goto hC 4 dX2_howManyInForce_29 (by decide) ?_
          exact ih x1_1 x2_9 x3_10 hm
  unfold wp_X2_howManyInForce at hm
  refine x_iconst hC (0 : Int32) dX2_howManyInForce_0 (by decide) ?_
  refine x_istore_n hC [(0, .ref (lw 0)), (1, .int p0), (2, .int ((0 : Int32)))] [1, 2, 0] dX2_howManyInForce_1 (by decide) rfl ?_
  refine x_iconst hC (0 : Int32) dX2_howManyInForce_2 (by decide) ?_
  refine x_istore_n hC [(0, .ref (lw 0)), (1, .int p0), (2, .int ((0 : Int32))), (3, .int ((0 : Int32)))] [1, 2, 3, 0] dX2_howManyInForce_3 (by decide) rfl ?_
  obtain ⟨n_11, hm⟩ := hm
  exact B_4  n_11 p0 ((0 : Int32)) ((0 : Int32)) hm

def wpL_X2_ownSeatsOf_5 (lw_ownSeats : Nat → Int32)  (post : Int32 → Prop) : Nat → Int32 → Int32 → Int32 → Int32 → Prop
  | 0, _, _, _, _ => False
  | n + 1, x1_1, x2_2, x3_3, x4_4 => (((4 : Int32)) ≤ x4_4 → post x3_3 ) ∧ (¬ ((4 : Int32)) ≤ x4_4 → ∀ x5_6 : Int32, x5_6 = (x2_2 * ((4 : Int32))) + x4_4 → (¬ ((x1_1 >>> (x4_4 &&& 31)) &&& ((1 : Int32))) = ((1 : Int32)) → ∀ x4_8 : Int32, x4_8 = x4_4 + (1 : Int32) → (wpL_X2_ownSeatsOf_5 lw_ownSeats  post n) x1_1 x2_2 x3_3 x4_8) ∧ (((x1_1 >>> (x4_4 &&& 31)) &&& ((1 : Int32))) = ((1 : Int32)) → (x5_6 < 0 → ∀ x4_10 : Int32, x4_10 = x4_4 + (1 : Int32) → (wpL_X2_ownSeatsOf_5 lw_ownSeats  post n) x1_1 x2_2 x3_3 x4_10) ∧ (¬ x5_6 < 0 → (((12 : Int32)) ≤ x5_6 → ∀ x4_12 : Int32, x4_12 = x4_4 + (1 : Int32) → (wpL_X2_ownSeatsOf_5 lw_ownSeats  post n) x1_1 x2_2 x3_3 x4_12) ∧ (¬ ((12 : Int32)) ≤ x5_6 → vp_in x5_6 12 ∧ (∀ x3_13 : Int32, x3_13 = x3_3 + (lw_ownSeats x5_6.toNatClampNeg) → ∀ x4_14 : Int32, x4_14 = x4_4 + (1 : Int32) → (wpL_X2_ownSeatsOf_5 lw_ownSeats  post n) x1_1 x2_2 x3_13 x4_14)))))
def wp_X2_ownSeatsOf (lw_ownSeats : Nat → Int32) (p0 : Int32) (p1 : Int32) (post : Int32 → Prop) : Prop := ∃ k5, wpL_X2_ownSeatsOf_5 lw_ownSeats  post k5 p0 p1 ((0 : Int32)) ((0 : Int32))
set_option maxHeartbeats 4000000 in
set_option maxRecDepth 100000 in
theorem c_X2_ownSeatsOf (l : Launch) (D : va_G) (cI cZ : ClassId) (lw : Nat → Nat) (lw_told : Nat → Int32) (lw_parts : Nat → Int32) (lw_hangMasks : Nat → Int32) (lw_hangValues : Nat → Int32) (lw_ownSeats : Nat → Int32) (p0 : Int32) (p1 : Int32) (post : Int32 → Prop) (hm : wp_X2_ownSeatsOf lw_ownSeats p0 p1 post) : Mi l D cI cZ yX2_ownSeatsOf cX2_ownSeatsOf 6 .int 0 0 [.ref (lw 0), .int p0, .int p1] (W_lw cI lw lw_told lw_parts lw_hangMasks lw_hangValues lw_ownSeats) (S := Unit) (fun _ => W_lw cI lw lw_told lw_parts lw_hangMasks lw_hangValues lw_ownSeats) (fun r _ => post r ) := by
  refine mk_Mi (by decide +kernel) (Nat.le_of_ble_eq_true rfl) ?_
  intro Γ hl0 hD0 hC hR
  subst hl0
  subst hD0
  have hC : CX Γ cI cZ cX2_ownSeatsOf RX2 6 0 0 := hC
  show VV Γ (W_lw cI lw lw_told lw_parts lw_hangMasks lw_hangValues lw_ownSeats) [(0, .ref (lw 0)), (1, .int p0), (2, .int p1)] 0 []
  have B_5 : ∀ (n : Nat) (x1_1 : Int32) (x2_2 : Int32) (x3_3 : Int32) (x4_4 : Int32), wpL_X2_ownSeatsOf_5 lw_ownSeats  post n x1_1 x2_2 x3_3 x4_4 → VV Γ (W_lw cI lw lw_told lw_parts lw_hangMasks lw_hangValues lw_ownSeats) [(0, .ref (lw 0)), (1, .int x1_1), (2, .int x2_2), (3, .int x3_3), (4, .int x4_4)] 5 [] := by
    intro  n
    induction n with
    | zero => intro x1_1 x2_2 x3_3 x4_4 hm; rw [wpL_X2_ownSeatsOf_5] at hm; exact hm.elim
    | succ n ih =>
      intro x1_1 x2_2 x3_3 x4_4 hm
      rw [wpL_X2_ownSeatsOf_5] at hm
      refine x_iload hC 4 dX2_ownSeatsOf_5 rfl ?_
      refine x_iconst hC (4 : Int32) dX2_ownSeatsOf_7 (by decide) ?_
      refine x_icmp_ge hC 60 dX2_ownSeatsOf_8 (by decide) (fun c_5 => ?_) (fun c_5 => ?_)
      · replace hm := hm.1 c_5
        refine x_iload_n hC 3 dX2_ownSeatsOf_60 rfl ?_
        exact hR x3_3 () [(0, .ref (lw 0)), (1, .int x1_1), (2, .int x2_2), (3, .int x3_3), (4, .int x4_4)] 61 hm rfl dX2_ownSeatsOf_61
      · replace hm := hm.2 c_5
        refine x_iload_n hC 2 dX2_ownSeatsOf_11 rfl ?_
        refine x_iconst hC (4 : Int32) dX2_ownSeatsOf_12 (by decide) ?_
        refine x_imul hC dX2_ownSeatsOf_13 ?_
        refine x_iload hC 4 dX2_ownSeatsOf_14 rfl ?_
        refine x_iadd hC dX2_ownSeatsOf_16 ?_
        refine x_top (fun x5_6 ex5_6 => ?_)
        replace hm := hm x5_6 ex5_6
        refine x_istore hC [(0, .ref (lw 0)), (1, .int x1_1), (2, .int x2_2), (3, .int x3_3), (4, .int x4_4), (5, .int x5_6)] [1, 2, 3, 4, 5, 0] dX2_ownSeatsOf_17 (by decide) rfl ?_
        refine x_iload_n hC 1 dX2_ownSeatsOf_19 rfl ?_
        refine x_iload hC 4 dX2_ownSeatsOf_20 rfl ?_
        refine x_ishr hC dX2_ownSeatsOf_22 ?_
        refine x_iconst hC (1 : Int32) dX2_ownSeatsOf_23 (by decide) ?_
        refine x_iand hC dX2_ownSeatsOf_24 ?_
        refine x_iconst hC (1 : Int32) dX2_ownSeatsOf_25 (by decide) ?_
        refine x_icmp_ne hC 54 dX2_ownSeatsOf_26 (by decide) (fun c_7 => ?_) (fun c_7 => ?_)
        · replace hm := hm.1 c_7
          obtain ⟨x4_8, ex4_8⟩ : ∃ y : Int32, y = x4_4 + (1 : Int32) := ⟨_, rfl⟩
          replace hm := hm x4_8 ex4_8
          refine x_iinc hC 4 x4_8 [(0, .ref (lw 0)), (1, .int x1_1), (2, .int x2_2), (3, .int x3_3), (4, .int x4_8), (5, .int x5_6)] [1, 2, 3, 4, 0, 5] dX2_ownSeatsOf_54 rfl (by rw [ex4_8]; rfl) (by decide) rfl ?_
          refine x_goto hC 5 dX2_ownSeatsOf_57 (by decide) ?_
          refine x_lsub [0, 1, 2, 3, 4] rfl ?_
          exact ih x1_1 x2_2 x3_3 x4_8 hm
        · replace hm := hm.2 c_7
          refine x_iload hC 5 dX2_ownSeatsOf_29 rfl ?_
          refine x_if_lt hC 54 dX2_ownSeatsOf_31 (by decide) (fun c_9 => ?_) (fun c_9 => ?_)
          · replace hm := hm.1 c_9
            obtain ⟨x4_10, ex4_10⟩ : ∃ y : Int32, y = x4_4 + (1 : Int32) := ⟨_, rfl⟩
            replace hm := hm x4_10 ex4_10
            refine x_iinc hC 4 x4_10 [(0, .ref (lw 0)), (1, .int x1_1), (2, .int x2_2), (3, .int x3_3), (4, .int x4_10), (5, .int x5_6)] [1, 2, 3, 4, 0, 5] dX2_ownSeatsOf_54 rfl (by rw [ex4_10]; rfl) (by decide) rfl ?_
            refine x_goto hC 5 dX2_ownSeatsOf_57 (by decide) ?_
            refine x_lsub [0, 1, 2, 3, 4] rfl ?_
            exact ih x1_1 x2_2 x3_3 x4_10 hm
          · replace hm := hm.2 c_9
            refine x_iload hC 5 dX2_ownSeatsOf_34 rfl ?_
            refine x_aload_n hC 0 dX2_ownSeatsOf_36 rfl ?_
            refine x_get hC 0 inX2g 0 rfl rfl 4 (by decide) fl_X2_24 rfl dX2_ownSeatsOf_37 ?_
            refine x_alen hC 5 rfl rfl dX2_ownSeatsOf_40 ?_
            refine x_icmp_ge hC 54 dX2_ownSeatsOf_41 (by decide) (fun c_11 => ?_) (fun c_11 => ?_)
            · replace hm := hm.1 c_11
              obtain ⟨x4_12, ex4_12⟩ : ∃ y : Int32, y = x4_4 + (1 : Int32) := ⟨_, rfl⟩
              replace hm := hm x4_12 ex4_12
              refine x_iinc hC 4 x4_12 [(0, .ref (lw 0)), (1, .int x1_1), (2, .int x2_2), (3, .int x3_3), (4, .int x4_12), (5, .int x5_6)] [1, 2, 3, 4, 0, 5] dX2_ownSeatsOf_54 rfl (by rw [ex4_12]; rfl) (by decide) rfl ?_
              refine x_goto hC 5 dX2_ownSeatsOf_57 (by decide) ?_
              refine x_lsub [0, 1, 2, 3, 4] rfl ?_
              exact ih x1_1 x2_2 x3_3 x4_12 hm
            · replace hm := hm.2 c_11
              refine x_iload_n hC 3 dX2_ownSeatsOf_44 rfl ?_
              refine x_aload_n hC 0 dX2_ownSeatsOf_45 rfl ?_
              refine x_get hC 0 inX2g 0 rfl rfl 4 (by decide) fl_X2_24 rfl dX2_ownSeatsOf_46 ?_
              refine x_iload hC 5 dX2_ownSeatsOf_49 rfl ?_
              refine x_iald hC 5 rfl hm.1 dX2_ownSeatsOf_51 ?_
              replace hm := hm.2
              refine x_iadd hC dX2_ownSeatsOf_52 ?_
              refine x_top (fun x3_13 ex3_13 => ?_)
              replace hm := hm x3_13 ex3_13
              refine x_istore_n hC [(0, .ref (lw 0)), (1, .int x1_1), (2, .int x2_2), (3, .int x3_13), (4, .int x4_4), (5, .int x5_6)] [1, 2, 3, 0, 4, 5] dX2_ownSeatsOf_53 (by decide) rfl ?_
              obtain ⟨x4_14, ex4_14⟩ : ∃ y : Int32, y = x4_4 + (1 : Int32) := ⟨_, rfl⟩
              replace hm := hm x4_14 ex4_14
              refine x_iinc hC 4 x4_14 [(0, .ref (lw 0)), (1, .int x1_1), (2, .int x2_2), (3, .int x3_13), (4, .int x4_14), (5, .int x5_6)] [1, 2, 3, 4, 0, 5] dX2_ownSeatsOf_54 rfl (by rw [ex4_14]; rfl) (by decide) rfl ?_
              refine x_goto hC 5 dX2_ownSeatsOf_57 (by decide) ?_
              refine x_lsub [0, 1, 2, 3, 4] rfl ?_
              exact ih x1_1 x2_2 x3_13 x4_14 hm
  unfold wp_X2_ownSeatsOf at hm
  refine x_iconst hC (0 : Int32) dX2_ownSeatsOf_0 (by decide) ?_
  refine x_istore_n hC [(0, .ref (lw 0)), (1, .int p0), (2, .int p1), (3, .int ((0 : Int32)))] [1, 2, 3, 0] dX2_ownSeatsOf_1 (by decide) rfl ?_
  refine x_iconst hC (0 : Int32) dX2_ownSeatsOf_2 (by decide) ?_
  refine x_istore hC [(0, .ref (lw 0)), (1, .int p0), (2, .int p1), (3, .int ((0 : Int32))), (4, .int ((0 : Int32)))] [1, 2, 3, 4, 0] dX2_ownSeatsOf_3 (by decide) rfl ?_
  obtain ⟨n_15, hm⟩ := hm
  exact B_5  n_15 p0 p1 ((0 : Int32)) ((0 : Int32)) hm

def wp_X2_part (lw_parts : Nat → Int32) (p0 : Int32) (post : Int32 → Prop) : Prop := (p0 < 0 → post ((-9 : Int32)) ) ∧ (¬ p0 < 0 → (p0 < ((120 : Int32)) → vp_in p0 120 ∧ (post (lw_parts p0.toNatClampNeg) )) ∧ (¬ p0 < ((120 : Int32)) → post ((-9 : Int32)) ))
set_option maxHeartbeats 4000000 in
set_option maxRecDepth 100000 in
theorem c_X2_part (l : Launch) (D : va_G) (cI cZ : ClassId) (lw : Nat → Nat) (lw_told : Nat → Int32) (lw_parts : Nat → Int32) (lw_hangMasks : Nat → Int32) (lw_hangValues : Nat → Int32) (lw_ownSeats : Nat → Int32) (p0 : Int32) (post : Int32 → Prop) (hm : wp_X2_part lw_parts p0 post) : Mi l D cI cZ yX2_part cX2_part 2 .int 0 0 [.ref (lw 0), .int p0] (W_lw cI lw lw_told lw_parts lw_hangMasks lw_hangValues lw_ownSeats) (S := Unit) (fun _ => W_lw cI lw lw_told lw_parts lw_hangMasks lw_hangValues lw_ownSeats) (fun r _ => post r ) := by
  refine mk_Mi (by decide +kernel) (Nat.le_of_ble_eq_true rfl) ?_
  intro Γ hl0 hD0 hC hR
  subst hl0
  subst hD0
  have hC : CX Γ cI cZ cX2_part RX2 2 0 0 := hC
  show VV Γ (W_lw cI lw lw_told lw_parts lw_hangMasks lw_hangValues lw_ownSeats) [(0, .ref (lw 0)), (1, .int p0)] 0 []
  unfold wp_X2_part at hm
  refine x_iload_n hC 1 dX2_part_0 rfl ?_
  refine x_if_lt hC 13 dX2_part_1 (by decide) (fun c_1 => ?_) (fun c_1 => ?_)
  · replace hm := hm.1 c_1
    refine x_bipush hC (-9 : Int32) dX2_part_13 (by decide) ?_
    refine x_goto hC 24 dX2_part_15 (by decide) ?_
    exact hR ((-9 : Int32)) () [(0, .ref (lw 0)), (1, .int p0)] 24 hm rfl dX2_part_24
  · replace hm := hm.2 c_1
    refine x_iload_n hC 1 dX2_part_4 rfl ?_
    refine x_aload_n hC 0 dX2_part_5 rfl ?_
    refine x_get hC 0 inX2g 0 rfl rfl 1 (by decide) fl_X2_15 rfl dX2_part_6 ?_
    refine x_alen hC 2 rfl rfl dX2_part_9 ?_
    refine x_icmp_lt hC 18 dX2_part_10 (by decide) (fun c_2 => ?_) (fun c_2 => ?_)
    · replace hm := hm.1 c_2
      refine x_aload_n hC 0 dX2_part_18 rfl ?_
      refine x_get hC 0 inX2g 0 rfl rfl 1 (by decide) fl_X2_15 rfl dX2_part_19 ?_
      refine x_iload_n hC 1 dX2_part_22 rfl ?_
      refine x_iald hC 2 rfl hm.1 dX2_part_23 ?_
      replace hm := hm.2
      exact hR (lw_parts p0.toNatClampNeg) () [(0, .ref (lw 0)), (1, .int p0)] 24 hm rfl dX2_part_24
    · replace hm := hm.2 c_2
      refine x_bipush hC (-9 : Int32) dX2_part_13 (by decide) ?_
      refine x_goto hC 24 dX2_part_15 (by decide) ?_
      exact hR ((-9 : Int32)) () [(0, .ref (lw 0)), (1, .int p0)] 24 hm rfl dX2_part_24

def wpL_X2_toldInAll_4 (lw_told : Nat → Int32)  (post : Int32 → Prop) : Nat → Int32 → Int32 → Prop
  | 0, _, _ => False
  | n + 1, x1_1, x2_2 => (((5 : Int32)) ≤ x2_2 → post x1_1 ) ∧ (¬ ((5 : Int32)) ≤ x2_2 → vp_in x2_2 5 ∧ (∀ x1_4 : Int32, x1_4 = x1_1 + (lw_told x2_2.toNatClampNeg) → ∀ x2_5 : Int32, x2_5 = x2_2 + (1 : Int32) → (wpL_X2_toldInAll_4 lw_told  post n) x1_4 x2_5))
def wp_X2_toldInAll (lw_told : Nat → Int32)  (post : Int32 → Prop) : Prop := ∃ k4, wpL_X2_toldInAll_4 lw_told  post k4 ((0 : Int32)) ((0 : Int32))
set_option maxHeartbeats 4000000 in
set_option maxRecDepth 100000 in
theorem c_X2_toldInAll (l : Launch) (D : va_G) (cI cZ : ClassId) (lw : Nat → Nat) (lw_told : Nat → Int32) (lw_parts : Nat → Int32) (lw_hangMasks : Nat → Int32) (lw_hangValues : Nat → Int32) (lw_ownSeats : Nat → Int32)  (post : Int32 → Prop) (hm : wp_X2_toldInAll lw_told  post) : Mi l D cI cZ yX2_toldInAll cX2_toldInAll 3 .int 0 0 [.ref (lw 0)] (W_lw cI lw lw_told lw_parts lw_hangMasks lw_hangValues lw_ownSeats) (S := Unit) (fun _ => W_lw cI lw lw_told lw_parts lw_hangMasks lw_hangValues lw_ownSeats) (fun r _ => post r ) := by
  refine mk_Mi (by decide +kernel) (Nat.le_of_ble_eq_true rfl) ?_
  intro Γ hl0 hD0 hC hR
  subst hl0
  subst hD0
  have hC : CX Γ cI cZ cX2_toldInAll RX2 3 0 0 := hC
  show VV Γ (W_lw cI lw lw_told lw_parts lw_hangMasks lw_hangValues lw_ownSeats) [(0, .ref (lw 0))] 0 []
  have B_4 : ∀ (n : Nat) (x1_1 : Int32) (x2_2 : Int32), wpL_X2_toldInAll_4 lw_told  post n x1_1 x2_2 → VV Γ (W_lw cI lw lw_told lw_parts lw_hangMasks lw_hangValues lw_ownSeats) [(0, .ref (lw 0)), (1, .int x1_1), (2, .int x2_2)] 4 [] := by
    intro  n
    induction n with
    | zero => intro x1_1 x2_2 hm; rw [wpL_X2_toldInAll_4] at hm; exact hm.elim
    | succ n ih =>
      intro x1_1 x2_2 hm
      rw [wpL_X2_toldInAll_4] at hm
      refine x_iload_n hC 2 dX2_toldInAll_4 rfl ?_
      refine x_iconst hC (5 : Int32) dX2_toldInAll_5 (by decide) ?_
      refine x_icmp_ge hC 24 dX2_toldInAll_6 (by decide) (fun c_3 => ?_) (fun c_3 => ?_)
      · replace hm := hm.1 c_3
        refine x_iload_n hC 1 dX2_toldInAll_24 rfl ?_
        exact hR x1_1 () [(0, .ref (lw 0)), (1, .int x1_1), (2, .int x2_2)] 25 hm rfl dX2_toldInAll_25
      · replace hm := hm.2 c_3
        refine x_iload_n hC 1 dX2_toldInAll_9 rfl ?_
        refine x_aload_n hC 0 dX2_toldInAll_10 rfl ?_
        refine x_get hC 0 inX2g 0 rfl rfl 0 (by decide) fl_X2_9 rfl dX2_toldInAll_11 ?_
        refine x_iload_n hC 2 dX2_toldInAll_14 rfl ?_
        refine x_iald hC 1 rfl hm.1 dX2_toldInAll_15 ?_
        replace hm := hm.2
        refine x_iadd hC dX2_toldInAll_16 ?_
        refine x_top (fun x1_4 ex1_4 => ?_)
        replace hm := hm x1_4 ex1_4
        refine x_istore_n hC [(0, .ref (lw 0)), (1, .int x1_4), (2, .int x2_2)] [1, 0, 2] dX2_toldInAll_17 (by decide) rfl ?_
        obtain ⟨x2_5, ex2_5⟩ : ∃ y : Int32, y = x2_2 + (1 : Int32) := ⟨_, rfl⟩
        replace hm := hm x2_5 ex2_5
        refine x_iinc hC 2 x2_5 [(0, .ref (lw 0)), (1, .int x1_4), (2, .int x2_5)] [1, 2, 0] dX2_toldInAll_18 rfl (by rw [ex2_5]; rfl) (by decide) rfl ?_
        refine x_goto hC 4 dX2_toldInAll_21 (by decide) ?_
        exact ih x1_4 x2_5 hm
  unfold wp_X2_toldInAll at hm
  refine x_iconst hC (0 : Int32) dX2_toldInAll_0 (by decide) ?_
  refine x_istore_n hC [(0, .ref (lw 0)), (1, .int ((0 : Int32)))] [1, 0] dX2_toldInAll_1 (by decide) rfl ?_
  refine x_iconst hC (0 : Int32) dX2_toldInAll_2 (by decide) ?_
  refine x_istore_n hC [(0, .ref (lw 0)), (1, .int ((0 : Int32))), (2, .int ((0 : Int32)))] [1, 2, 0] dX2_toldInAll_3 (by decide) rfl ?_
  obtain ⟨n_6, hm⟩ := hm
  exact B_4  n_6 ((0 : Int32)) ((0 : Int32)) hm

def wpL_X2_withoutGoneForms_4 (lw_told : Nat → Int32)  (post : Int32 → Prop) : Nat → Int32 → Int32 → Int32 → Prop
  | 0, _, _, _ => False
  | n + 1, x1_1, x2_2, x3_3 => (((5 : Int32)) ≤ x3_3 → post x2_2 ) ∧ (¬ ((5 : Int32)) ≤ x3_3 → wp_X5_formOf  x1_1 x3_3 (fun (r_5 : Int32) => vp_in x3_3 5 ∧ ((r_5 ≤ (lw_told x3_3.toNatClampNeg) → ∀ x3_7 : Int32, x3_7 = x3_3 + (1 : Int32) → (wpL_X2_withoutGoneForms_4 lw_told  post n) x1_1 x2_2 x3_7) ∧ (¬ r_5 ≤ (lw_told x3_3.toNatClampNeg) → wp_X5_put  x2_2 x3_3 ((0 : Int32)) (fun (r_8 : Int32) => ∀ x3_9 : Int32, x3_9 = x3_3 + (1 : Int32) → (wpL_X2_withoutGoneForms_4 lw_told  post n) x1_1 r_8 x3_9)))))
def wp_X2_withoutGoneForms (lw_told : Nat → Int32) (p0 : Int32) (post : Int32 → Prop) : Prop := ∃ k4, wpL_X2_withoutGoneForms_4 lw_told  post k4 p0 p0 ((0 : Int32))
set_option maxHeartbeats 4000000 in
set_option maxRecDepth 100000 in
theorem c_X2_withoutGoneForms (l : Launch) (D : va_G) (cI cZ : ClassId) (lw : Nat → Nat) (lw_told : Nat → Int32) (lw_parts : Nat → Int32) (lw_hangMasks : Nat → Int32) (lw_hangValues : Nat → Int32) (lw_ownSeats : Nat → Int32) (p0 : Int32) (post : Int32 → Prop) (hm : wp_X2_withoutGoneForms lw_told p0 post) : Mi l D cI cZ yX2_withoutGoneForms cX2_withoutGoneForms 4 .int 1 23 [.ref (lw 0), .int p0] (W_lw cI lw lw_told lw_parts lw_hangMasks lw_hangValues lw_ownSeats) (S := Unit) (fun _ => W_lw cI lw lw_told lw_parts lw_hangMasks lw_hangValues lw_ownSeats) (fun r _ => post r ) := by
  refine mk_Mi (by decide +kernel) (Nat.le_of_ble_eq_true rfl) ?_
  intro Γ hl0 hD0 hC hR
  subst hl0
  subst hD0
  have hC : CX Γ cI cZ cX2_withoutGoneForms RX2 4 1 23 := hC
  show VV Γ (W_lw cI lw lw_told lw_parts lw_hangMasks lw_hangValues lw_ownSeats) [(0, .ref (lw 0)), (1, .int p0)] 0 []
  have B_4 : ∀ (n : Nat) (x1_1 : Int32) (x2_2 : Int32) (x3_3 : Int32), wpL_X2_withoutGoneForms_4 lw_told  post n x1_1 x2_2 x3_3 → VV Γ (W_lw cI lw lw_told lw_parts lw_hangMasks lw_hangValues lw_ownSeats) [(0, .ref (lw 0)), (1, .int x1_1), (2, .int x2_2), (3, .int x3_3)] 4 [] := by
    intro  n
    induction n with
    | zero => intro x1_1 x2_2 x3_3 hm; rw [wpL_X2_withoutGoneForms_4] at hm; exact hm.elim
    | succ n ih =>
      intro x1_1 x2_2 x3_3 hm
      rw [wpL_X2_withoutGoneForms_4] at hm
      refine x_iload_n hC 3 dX2_withoutGoneForms_4 rfl ?_
      refine x_iconst hC (5 : Int32) dX2_withoutGoneForms_5 (by decide) ?_
      refine x_icmp_ge hC 36 dX2_withoutGoneForms_6 (by decide) (fun c_4 => ?_) (fun c_4 => ?_)
      · replace hm := hm.1 c_4
        refine x_iload_n hC 2 dX2_withoutGoneForms_36 rfl ?_
        exact hR x2_2 () [(0, .ref (lw 0)), (1, .int x1_1), (2, .int x2_2), (3, .int x3_3)] 37 hm rfl dX2_withoutGoneForms_37
      · replace hm := hm.2 c_4
        refine x_iload_n hC 1 dX2_withoutGoneForms_9 rfl ?_
        refine x_iload_n hC 3 dX2_withoutGoneForms_10 rfl ?_
        refine x_callSi hC _ [] [0, 1, 2, 3, 4, 5] [0, 1, 2, 3, 4, 5] (W_lw cI lw lw_told lw_parts lw_hangMasks lw_hangValues lw_ownSeats) (fun _ => W_lw cI lw lw_told lw_parts lw_hangMasks lw_hangValues lw_ownSeats) ok_X5_formOf ml_X2_62 (c_X5_formOf (gl Γ) (gD Γ) cI cZ   x1_1 x3_3 _ hm) (by decide) (by decide) rfl (Nat.le_of_ble_eq_true rfl) rfl rfl rfl rfl (by decide) rfl (fun _ => rfl) rfl dX2_withoutGoneForms_11 ?_
        rintro r_5 _ hm
        refine x_aload_n hC 0 dX2_withoutGoneForms_14 rfl ?_
        refine x_get hC 0 inX2g 0 rfl rfl 0 (by decide) fl_X2_9 rfl dX2_withoutGoneForms_15 ?_
        refine x_iload_n hC 3 dX2_withoutGoneForms_18 rfl ?_
        refine x_iald hC 1 rfl hm.1 dX2_withoutGoneForms_19 ?_
        replace hm := hm.2
        refine x_icmp_le hC 30 dX2_withoutGoneForms_20 (by decide) (fun c_6 => ?_) (fun c_6 => ?_)
        · replace hm := hm.1 c_6
          obtain ⟨x3_7, ex3_7⟩ : ∃ y : Int32, y = x3_3 + (1 : Int32) := ⟨_, rfl⟩
          replace hm := hm x3_7 ex3_7
          refine x_iinc hC 3 x3_7 [(0, .ref (lw 0)), (1, .int x1_1), (2, .int x2_2), (3, .int x3_7)] [1, 2, 3, 0] dX2_withoutGoneForms_30 rfl (by rw [ex3_7]; rfl) (by decide) rfl ?_
          refine x_goto hC 4 dX2_withoutGoneForms_33 (by decide) ?_
          exact ih x1_1 x2_2 x3_7 hm
        · replace hm := hm.2 c_6
          refine x_iload_n hC 2 dX2_withoutGoneForms_23 rfl ?_
          refine x_iload_n hC 3 dX2_withoutGoneForms_24 rfl ?_
          refine x_iconst hC (0 : Int32) dX2_withoutGoneForms_25 (by decide) ?_
          refine x_callSi hC _ [] [0, 1, 2, 3, 4, 5] [0, 1, 2, 3, 4, 5] (W_lw cI lw lw_told lw_parts lw_hangMasks lw_hangValues lw_ownSeats) (fun _ => W_lw cI lw lw_told lw_parts lw_hangMasks lw_hangValues lw_ownSeats) ok_X5_put ml_X2_71 (c_X5_put (gl Γ) (gD Γ) cI cZ   x2_2 x3_3 ((0 : Int32)) _ hm) (by decide) (by decide) rfl (Nat.le_of_ble_eq_true rfl) rfl rfl rfl rfl (by decide) rfl (fun _ => rfl) rfl dX2_withoutGoneForms_26 ?_
          rintro r_8 _ hm
          refine x_istore_n hC [(0, .ref (lw 0)), (1, .int x1_1), (2, .int r_8), (3, .int x3_3)] [1, 2, 0, 3] dX2_withoutGoneForms_29 (by decide) rfl ?_
          obtain ⟨x3_9, ex3_9⟩ : ∃ y : Int32, y = x3_3 + (1 : Int32) := ⟨_, rfl⟩
          replace hm := hm x3_9 ex3_9
          refine x_iinc hC 3 x3_9 [(0, .ref (lw 0)), (1, .int x1_1), (2, .int r_8), (3, .int x3_9)] [1, 2, 3, 0] dX2_withoutGoneForms_30 rfl (by rw [ex3_9]; rfl) (by decide) rfl ?_
          refine x_goto hC 4 dX2_withoutGoneForms_33 (by decide) ?_
          exact ih x1_1 r_8 x3_9 hm
  unfold wp_X2_withoutGoneForms at hm
  refine x_iload_n hC 1 dX2_withoutGoneForms_0 rfl ?_
  refine x_istore_n hC [(0, .ref (lw 0)), (1, .int p0), (2, .int p0)] [1, 2, 0] dX2_withoutGoneForms_1 (by decide) rfl ?_
  refine x_iconst hC (0 : Int32) dX2_withoutGoneForms_2 (by decide) ?_
  refine x_istore_n hC [(0, .ref (lw 0)), (1, .int p0), (2, .int p0), (3, .int ((0 : Int32)))] [1, 2, 3, 0] dX2_withoutGoneForms_3 (by decide) rfl ?_
  obtain ⟨n_10, hm⟩ := hm
  exact B_4  n_10 p0 p0 ((0 : Int32)) hm
