def wp_X4_addVotes (sg_votes : Nat → Int32) (p0 : Int32) (p1 : Int32) (post : (Nat → Int32) → Prop) : Prop := (p0 < 0 → post sg_votes) ∧ (¬ p0 < 0 → (((3 : Int32)) ≤ p0 → post sg_votes) ∧ (¬ ((3 : Int32)) ≤ p0 → vp_in p0 3 ∧ (vp_in p0 3 ∧ ∀ sg_votes_3 : Nat → Int32, sg_votes_3 = upd sg_votes p0.toNatClampNeg ((sg_votes p0.toNatClampNeg) + p1) → post sg_votes_3)))
set_option maxHeartbeats 4000000 in
set_option maxRecDepth 100000 in
theorem c_X4_addVotes (l : Launch) (D : va_G) (cI cZ : ClassId) (sg : Nat → Nat) (lw : Nat → Nat) (sg_ownVotes : Nat → Int32) (sg_votes : Nat → Int32) (sg_rows : Nat → Int32) (sg_groups : Int32) (sg_bars : Int32) (sg_now : Int32) (sg_forced : Int32) (sg_barred : Int32) (sg_mayActs : Nat → Int32) (sg_mayEnds : Nat → Int32) (sg_mays : Int32) (lw_told : Nat → Int32) (lw_parts : Nat → Int32) (lw_hangMasks : Nat → Int32) (lw_hangValues : Nat → Int32) (lw_ownSeats : Nat → Int32) (p0 : Int32) (p1 : Int32) (post : (Nat → Int32) → Prop) (hm : wp_X4_addVotes sg_votes p0 p1 post) : Mv l D cI cZ yX4_addVotes cX4_addVotes 3 0 0 [.ref (sg 0), .int p0, .int p1] (W_sg cI sg (lw 0) sg_ownVotes sg_votes sg_rows sg_groups sg_bars sg_now sg_forced sg_barred sg_mayActs sg_mayEnds sg_mays ++ W_lw cI lw lw_told lw_parts lw_hangMasks lw_hangValues lw_ownSeats) (S := (Nat → Int32)) (fun u => W_sg cI sg (lw 0) sg_ownVotes u sg_rows sg_groups sg_bars sg_now sg_forced sg_barred sg_mayActs sg_mayEnds sg_mays ++ W_lw cI lw lw_told lw_parts lw_hangMasks lw_hangValues lw_ownSeats) (fun u => post u) := by
  refine mk_Mv (by decide +kernel) (Nat.le_of_ble_eq_true rfl) ?_
  intro Γ hl0 hD0 hC hR
  subst hl0
  subst hD0
  have hC : CX Γ cI cZ cX4_addVotes RX4 3 0 0 := hC
  show VV Γ (W_sg cI sg (lw 0) sg_ownVotes sg_votes sg_rows sg_groups sg_bars sg_now sg_forced sg_barred sg_mayActs sg_mayEnds sg_mays ++ W_lw cI lw lw_told lw_parts lw_hangMasks lw_hangValues lw_ownSeats) [(0, .ref (sg 0)), (1, .int p0), (2, .int p1)] 0 []
  unfold wp_X4_addVotes at hm
  refine x_iload_n hC 1 dX4_addVotes_0 rfl ?_
  refine x_if_lt hC 19 dX4_addVotes_1 (by decide) (fun c_1 => ?_) (fun c_1 => ?_)
  · replace hm := hm.1 c_1
    exact hR sg_votes [(0, .ref (sg 0)), (1, .int p0), (2, .int p1)] 19 hm dX4_addVotes_19
  · replace hm := hm.2 c_1
    refine x_iload_n hC 1 dX4_addVotes_4 rfl ?_
    refine x_iconst hC (3 : Int32) dX4_addVotes_5 (by decide) ?_
    refine x_icmp_ge hC 19 dX4_addVotes_6 (by decide) (fun c_2 => ?_) (fun c_2 => ?_)
    · replace hm := hm.1 c_2
      exact hR sg_votes [(0, .ref (sg 0)), (1, .int p0), (2, .int p1)] 19 hm dX4_addVotes_19
    · replace hm := hm.2 c_2
      refine x_aload_n hC 0 dX4_addVotes_9 rfl ?_
      refine x_get hC 2 inX4g 0 rfl rfl 2 (by decide) fl_X4_15 rfl dX4_addVotes_10 ?_
      refine x_iload_n hC 1 dX4_addVotes_13 rfl ?_
      refine x_dup2 hC dX4_addVotes_14 rfl rfl ?_
      refine x_iald hC 2 rfl hm.1 dX4_addVotes_15 ?_
      replace hm := hm.2
      refine x_iload_n hC 2 dX4_addVotes_16 rfl ?_
      refine x_iadd hC dX4_addVotes_17 ?_
      refine x_iastN hC 2 rfl hm.1 (fun sg_votes_3 => W_sg cI sg (lw 0) sg_ownVotes sg_votes_3 sg_rows sg_groups sg_bars sg_now sg_forced sg_barred sg_mayActs sg_mayEnds sg_mays ++ W_lw cI lw lw_told lw_parts lw_hangMasks lw_hangValues lw_ownSeats) (fun _ => rfl) dX4_addVotes_18 (fun sg_votes_3 esg_votes_3 => ?_)
      replace hm := hm.2 sg_votes_3 esg_votes_3
      exact hR sg_votes_3 [(0, .ref (sg 0)), (1, .int p0), (2, .int p1)] 19 hm dX4_addVotes_19

def wp_X4_after (sg_rows : Nat → Int32) (sg_now : Int32) (lw_parts : Nat → Int32) (p0 : Int32) (post : Int32 → Prop) : Prop := wp_X0_clauseOf  p0 (fun (r_1 : Int32) => wp_X7_isClause  r_1 (fun (r_2 : Int32) => (¬ r_2 = 0 → vp_in r_1 5 ∧ (∀ x3_4 : Int32, x3_4 = sg_rows r_1.toNatClampNeg → wp_X2_part lw_parts (x3_4 + ((3 : Int32))) (fun (r_5 : Int32) => wp_X2_part lw_parts (x3_4 + ((0 : Int32))) (fun (r_6 : Int32) => (¬ r_6 = ((2 : Int32)) → wp_X0_formOf  p0 (fun (r_8 : Int32) => wp_X5_put  sg_now r_5 r_8 (fun (r_9 : Int32) => post r_9 ))) ∧ (r_6 = ((2 : Int32)) → wp_X2_part lw_parts (x3_4 + ((4 : Int32))) (fun (r_10 : Int32) => wp_X5_make  sg_now r_5 r_10 (fun (r_11 : Int32) => post r_11 ))))))) ∧ (r_2 = 0 → post sg_now )))
set_option maxHeartbeats 4000000 in
set_option maxRecDepth 100000 in
theorem c_X4_after (l : Launch) (D : va_G) (cI cZ : ClassId) (sg : Nat → Nat) (lw : Nat → Nat) (sg_ownVotes : Nat → Int32) (sg_votes : Nat → Int32) (sg_rows : Nat → Int32) (sg_groups : Int32) (sg_bars : Int32) (sg_now : Int32) (sg_forced : Int32) (sg_barred : Int32) (sg_mayActs : Nat → Int32) (sg_mayEnds : Nat → Int32) (sg_mays : Int32) (lw_told : Nat → Int32) (lw_parts : Nat → Int32) (lw_hangMasks : Nat → Int32) (lw_hangValues : Nat → Int32) (lw_ownSeats : Nat → Int32) (p0 : Int32) (post : Int32 → Prop) (hm : wp_X4_after sg_rows sg_now lw_parts p0 post) : Mi l D cI cZ yX4_after cX4_after 5 .int 1 23 [.ref (sg 0), .int p0] (W_sg cI sg (lw 0) sg_ownVotes sg_votes sg_rows sg_groups sg_bars sg_now sg_forced sg_barred sg_mayActs sg_mayEnds sg_mays ++ W_lw cI lw lw_told lw_parts lw_hangMasks lw_hangValues lw_ownSeats) (S := Unit) (fun _ => W_sg cI sg (lw 0) sg_ownVotes sg_votes sg_rows sg_groups sg_bars sg_now sg_forced sg_barred sg_mayActs sg_mayEnds sg_mays ++ W_lw cI lw lw_told lw_parts lw_hangMasks lw_hangValues lw_ownSeats) (fun r _ => post r ) := by
  refine mk_Mi (by decide +kernel) (Nat.le_of_ble_eq_true rfl) ?_
  intro Γ hl0 hD0 hC hR
  subst hl0
  subst hD0
  have hC : CX Γ cI cZ cX4_after RX4 5 1 23 := hC
  show VV Γ (W_sg cI sg (lw 0) sg_ownVotes sg_votes sg_rows sg_groups sg_bars sg_now sg_forced sg_barred sg_mayActs sg_mayEnds sg_mays ++ W_lw cI lw lw_told lw_parts lw_hangMasks lw_hangValues lw_ownSeats) [(0, .ref (sg 0)), (1, .int p0)] 0 []
  unfold wp_X4_after at hm
  refine x_iload_n hC 1 dX4_after_0 rfl ?_
  refine x_callSi hC _ [] [0, 1, 2, 3, 4, 5, 6, 7, 8, 9, 10, 11] [0, 1, 2, 3, 4, 5, 6, 7, 8, 9, 10, 11] (W_sg cI sg (lw 0) sg_ownVotes sg_votes sg_rows sg_groups sg_bars sg_now sg_forced sg_barred sg_mayActs sg_mayEnds sg_mays ++ W_lw cI lw lw_told lw_parts lw_hangMasks lw_hangValues lw_ownSeats) (fun _ => W_sg cI sg (lw 0) sg_ownVotes sg_votes sg_rows sg_groups sg_bars sg_now sg_forced sg_barred sg_mayActs sg_mayEnds sg_mays ++ W_lw cI lw lw_told lw_parts lw_hangMasks lw_hangValues lw_ownSeats) ok_X0_clauseOf ml_X4_85 (c_X0_clauseOf (gl Γ) (gD Γ) cI cZ   p0 _ hm) (by decide) (by decide) rfl (Nat.le_of_ble_eq_true rfl) rfl rfl rfl rfl (by decide) rfl (fun _ => rfl) rfl dX4_after_1 ?_
  rintro r_1 _ hm
  refine x_istore_n hC [(0, .ref (sg 0)), (1, .int p0), (2, .int r_1)] [1, 2, 0] dX4_after_4 (by decide) rfl ?_
  refine x_iload_n hC 2 dX4_after_5 rfl ?_
  refine x_callNi hC _ [] [0, 1, 2, 3, 4, 5, 6, 7, 8, 9, 10, 11] [0, 1, 2, 3, 4, 5, 6, 7, 8, 9, 10, 11] (W_sg cI sg (lw 0) sg_ownVotes sg_votes sg_rows sg_groups sg_bars sg_now sg_forced sg_barred sg_mayActs sg_mayEnds sg_mays ++ W_lw cI lw lw_told lw_parts lw_hangMasks lw_hangValues lw_ownSeats) (fun _ => W_sg cI sg (lw 0) sg_ownVotes sg_votes sg_rows sg_groups sg_bars sg_now sg_forced sg_barred sg_mayActs sg_mayEnds sg_mays ++ W_lw cI lw lw_told lw_parts lw_hangMasks lw_hangValues lw_ownSeats) ok_X7_isClause RX7 (fun h => h.2.2.1) (c_X7_isClause (gl Γ) (gD Γ) cI cZ   r_1 _ hm) (by decide) (by decide) rfl (Nat.le_of_ble_eq_true rfl) rfl rfl rfl rfl (by decide) rfl (fun _ => rfl) rfl dX4_after_6 ?_
  rintro r_2 _ hm
  refine x_if_ne hC 17 dX4_after_9 (by decide) (fun c_3 => ?_) (fun c_3 => ?_)
  · replace hm := hm.1 c_3
    refine x_aload_n hC 0 dX4_after_17 rfl ?_
    refine x_get hC 2 inX4g 0 rfl rfl 3 (by decide) fl_X4_18 rfl dX4_after_18 ?_
    refine x_iload_n hC 2 dX4_after_21 rfl ?_
    refine x_iald hC 3 rfl hm.1 dX4_after_22 ?_
    replace hm := hm.2
    refine x_top (fun x3_4 ex3_4 => ?_)
    replace hm := hm x3_4 ex3_4
    refine x_istore_n hC [(0, .ref (sg 0)), (1, .int p0), (2, .int r_1), (3, .int x3_4)] [1, 2, 3, 0] dX4_after_23 (by decide) rfl ?_
    refine x_aload_n hC 0 dX4_after_24 rfl ?_
    refine x_get hC 2 inX4g 0 rfl rfl 0 (by decide) fl_X4_29 rfl dX4_after_25 ?_
    refine x_iload_n hC 3 dX4_after_28 rfl ?_
    refine x_iconst hC (3 : Int32) dX4_after_29 (by decide) ?_
    refine x_iadd hC dX4_after_30 ?_
    refine x_callVi hC _ [6, 7, 8, 9, 10, 11] [0, 1, 2, 3, 4, 5] [0, 1, 2, 3, 4, 5, 6, 7, 8, 9, 10, 11] (W_sg cI sg (lw 0) sg_ownVotes sg_votes sg_rows sg_groups sg_bars sg_now sg_forced sg_barred sg_mayActs sg_mayEnds sg_mays) (fun _ => W_sg cI sg (lw 0) sg_ownVotes sg_votes sg_rows sg_groups sg_bars sg_now sg_forced sg_barred sg_mayActs sg_mayEnds sg_mays ++ W_lw cI lw lw_told lw_parts lw_hangMasks lw_hangValues lw_ownSeats) ok_X2_part ml_X4_77 0 0 (c_X2_part (gl Γ) (gD Γ) cI cZ lw lw_told lw_parts lw_hangMasks lw_hangValues lw_ownSeats (x3_4 + ((3 : Int32))) _ hm) (by decide) (by decide) rfl (Nat.le_of_ble_eq_true rfl) rfl rfl rfl rfl (by decide) rfl (fun _ => rfl) rfl rfl rfl rfl dX4_after_31 ?_
    rintro r_5 _ hm
    refine x_istore hC [(0, .ref (sg 0)), (1, .int p0), (2, .int r_1), (3, .int x3_4), (4, .int r_5)] [1, 2, 3, 4, 0] dX4_after_34 (by decide) rfl ?_
    refine x_aload_n hC 0 dX4_after_36 rfl ?_
    refine x_get hC 2 inX4g 0 rfl rfl 0 (by decide) fl_X4_29 rfl dX4_after_37 ?_
    refine x_iload_n hC 3 dX4_after_40 rfl ?_
    refine x_iconst hC (0 : Int32) dX4_after_41 (by decide) ?_
    refine x_iadd hC dX4_after_42 ?_
    refine x_callVi hC _ [6, 7, 8, 9, 10, 11] [0, 1, 2, 3, 4, 5] [0, 1, 2, 3, 4, 5, 6, 7, 8, 9, 10, 11] (W_sg cI sg (lw 0) sg_ownVotes sg_votes sg_rows sg_groups sg_bars sg_now sg_forced sg_barred sg_mayActs sg_mayEnds sg_mays) (fun _ => W_sg cI sg (lw 0) sg_ownVotes sg_votes sg_rows sg_groups sg_bars sg_now sg_forced sg_barred sg_mayActs sg_mayEnds sg_mays ++ W_lw cI lw lw_told lw_parts lw_hangMasks lw_hangValues lw_ownSeats) ok_X2_part ml_X4_77 0 0 (c_X2_part (gl Γ) (gD Γ) cI cZ lw lw_told lw_parts lw_hangMasks lw_hangValues lw_ownSeats (x3_4 + ((0 : Int32))) _ hm) (by decide) (by decide) rfl (Nat.le_of_ble_eq_true rfl) rfl rfl rfl rfl (by decide) rfl (fun _ => rfl) rfl rfl rfl rfl dX4_after_43 ?_
    rintro r_6 _ hm
    refine x_iconst hC (2 : Int32) dX4_after_46 (by decide) ?_
    refine x_icmp_ne hC 70 dX4_after_47 (by decide) (fun c_7 => ?_) (fun c_7 => ?_)
    · replace hm := hm.1 c_7
      refine x_aload_n hC 0 dX4_after_70 rfl ?_
      refine x_get hC 2 inX4g 0 rfl rfl 6 (by decide) fl_X4_46 rfl dX4_after_71 ?_
      refine x_iload hC 4 dX4_after_74 rfl ?_
      refine x_iload_n hC 1 dX4_after_76 rfl ?_
      refine x_callSi hC _ [] [0, 1, 2, 3, 4, 5, 6, 7, 8, 9, 10, 11] [0, 1, 2, 3, 4, 5, 6, 7, 8, 9, 10, 11] (W_sg cI sg (lw 0) sg_ownVotes sg_votes sg_rows sg_groups sg_bars sg_now sg_forced sg_barred sg_mayActs sg_mayEnds sg_mays ++ W_lw cI lw lw_told lw_parts lw_hangMasks lw_hangValues lw_ownSeats) (fun _ => W_sg cI sg (lw 0) sg_ownVotes sg_votes sg_rows sg_groups sg_bars sg_now sg_forced sg_barred sg_mayActs sg_mayEnds sg_mays ++ W_lw cI lw lw_told lw_parts lw_hangMasks lw_hangValues lw_ownSeats) ok_X0_formOf ml_X4_92 (c_X0_formOf (gl Γ) (gD Γ) cI cZ   p0 _ hm) (by decide) (by decide) rfl (Nat.le_of_ble_eq_true rfl) rfl rfl rfl rfl (by decide) rfl (fun _ => rfl) rfl dX4_after_77 ?_
      rintro r_8 _ hm
      refine x_callSi hC _ [] [0, 1, 2, 3, 4, 5, 6, 7, 8, 9, 10, 11] [0, 1, 2, 3, 4, 5, 6, 7, 8, 9, 10, 11] (W_sg cI sg (lw 0) sg_ownVotes sg_votes sg_rows sg_groups sg_bars sg_now sg_forced sg_barred sg_mayActs sg_mayEnds sg_mays ++ W_lw cI lw lw_told lw_parts lw_hangMasks lw_hangValues lw_ownSeats) (fun _ => W_sg cI sg (lw 0) sg_ownVotes sg_votes sg_rows sg_groups sg_bars sg_now sg_forced sg_barred sg_mayActs sg_mayEnds sg_mays ++ W_lw cI lw lw_told lw_parts lw_hangMasks lw_hangValues lw_ownSeats) ok_X5_put ml_X4_111 (c_X5_put (gl Γ) (gD Γ) cI cZ   sg_now r_5 r_8 _ hm) (by decide) (by decide) rfl (Nat.le_of_ble_eq_true rfl) rfl rfl rfl rfl (by decide) rfl (fun _ => rfl) rfl dX4_after_80 ?_
      rintro r_9 _ hm
      exact hR r_9 () [(0, .ref (sg 0)), (1, .int p0), (2, .int r_1), (3, .int x3_4), (4, .int r_5)] 83 hm rfl dX4_after_83
    · replace hm := hm.2 c_7
      refine x_aload_n hC 0 dX4_after_50 rfl ?_
      refine x_get hC 2 inX4g 0 rfl rfl 6 (by decide) fl_X4_46 rfl dX4_after_51 ?_
      refine x_iload hC 4 dX4_after_54 rfl ?_
      refine x_aload_n hC 0 dX4_after_56 rfl ?_
      refine x_get hC 2 inX4g 0 rfl rfl 0 (by decide) fl_X4_29 rfl dX4_after_57 ?_
      refine x_iload_n hC 3 dX4_after_60 rfl ?_
      refine x_iconst hC (4 : Int32) dX4_after_61 (by decide) ?_
      refine x_iadd hC dX4_after_62 ?_
      refine x_callVi hC _ [6, 7, 8, 9, 10, 11] [0, 1, 2, 3, 4, 5] [0, 1, 2, 3, 4, 5, 6, 7, 8, 9, 10, 11] (W_sg cI sg (lw 0) sg_ownVotes sg_votes sg_rows sg_groups sg_bars sg_now sg_forced sg_barred sg_mayActs sg_mayEnds sg_mays) (fun _ => W_sg cI sg (lw 0) sg_ownVotes sg_votes sg_rows sg_groups sg_bars sg_now sg_forced sg_barred sg_mayActs sg_mayEnds sg_mays ++ W_lw cI lw lw_told lw_parts lw_hangMasks lw_hangValues lw_ownSeats) ok_X2_part ml_X4_77 0 0 (c_X2_part (gl Γ) (gD Γ) cI cZ lw lw_told lw_parts lw_hangMasks lw_hangValues lw_ownSeats (x3_4 + ((4 : Int32))) _ hm) (by decide) (by decide) rfl (Nat.le_of_ble_eq_true rfl) rfl rfl rfl rfl (by decide) rfl (fun _ => rfl) rfl rfl rfl rfl dX4_after_63 ?_
      rintro r_10 _ hm
      refine x_callSi hC _ [] [0, 1, 2, 3, 4, 5, 6, 7, 8, 9, 10, 11] [0, 1, 2, 3, 4, 5, 6, 7, 8, 9, 10, 11] (W_sg cI sg (lw 0) sg_ownVotes sg_votes sg_rows sg_groups sg_bars sg_now sg_forced sg_barred sg_mayActs sg_mayEnds sg_mays ++ W_lw cI lw lw_told lw_parts lw_hangMasks lw_hangValues lw_ownSeats) (fun _ => W_sg cI sg (lw 0) sg_ownVotes sg_votes sg_rows sg_groups sg_bars sg_now sg_forced sg_barred sg_mayActs sg_mayEnds sg_mays ++ W_lw cI lw lw_told lw_parts lw_hangMasks lw_hangValues lw_ownSeats) ok_X5_make ml_X4_107 (c_X5_make (gl Γ) (gD Γ) cI cZ   sg_now r_5 r_10 _ hm) (by decide) (by decide) rfl (Nat.le_of_ble_eq_true rfl) rfl rfl rfl rfl (by decide) rfl (fun _ => rfl) rfl dX4_after_66 ?_
      rintro r_11 _ hm
      exact hR r_11 () [(0, .ref (sg 0)), (1, .int p0), (2, .int r_1), (3, .int x3_4), (4, .int r_5)] 69 hm rfl dX4_after_69
  · replace hm := hm.2 c_3
    refine x_aload_n hC 0 dX4_after_12 rfl ?_
    refine x_get hC 2 inX4g 0 rfl rfl 6 (by decide) fl_X4_46 rfl dX4_after_13 ?_
    exact hR sg_now () [(0, .ref (sg 0)), (1, .int p0), (2, .int r_1)] 16 hm rfl dX4_after_16

def wpL_X4_choose_12 (lw_ownSeats : Nat → Int32)  (post : (Nat → Int32) → Int32 → Int32 → Prop) : Nat → (Nat → Int32) → Int32 → Int32 → Int32 → Int32 → Prop
  | 0, _, _, _, _, _ => False
  | n + 1, sg_ownVotes_1, sg_groups_2, sg_bars_3, x1_4, x3_5 => (((3 : Int32)) ≤ x3_5 → post sg_ownVotes_1 sg_groups_2 sg_bars_3) ∧ (¬ ((3 : Int32)) ≤ x3_5 → wp_X2_ownSeatsOf lw_ownSeats x1_4 x3_5 (fun (r_7 : Int32) => vp_in x3_5 3 ∧ ∀ sg_ownVotes_8 : Nat → Int32, sg_ownVotes_8 = upd sg_ownVotes_1 x3_5.toNatClampNeg r_7 → ∀ x3_9 : Int32, x3_9 = x3_5 + (1 : Int32) → (wpL_X4_choose_12 lw_ownSeats  post n) sg_ownVotes_8 sg_groups_2 sg_bars_3 x1_4 x3_9))
def wp_X4_choose (sg_ownVotes : Nat → Int32) (sg_groups : Int32) (sg_bars : Int32) (lw_ownSeats : Nat → Int32) (p0 : Int32) (p1 : Int32) (post : (Nat → Int32) → Int32 → Int32 → Prop) : Prop := ∃ k12, wpL_X4_choose_12 lw_ownSeats  post k12 sg_ownVotes p0 p1 p0 ((0 : Int32))
set_option maxHeartbeats 4000000 in
set_option maxRecDepth 100000 in
theorem c_X4_choose (l : Launch) (D : va_G) (cI cZ : ClassId) (sg : Nat → Nat) (lw : Nat → Nat) (sg_ownVotes : Nat → Int32) (sg_votes : Nat → Int32) (sg_rows : Nat → Int32) (sg_groups : Int32) (sg_bars : Int32) (sg_now : Int32) (sg_forced : Int32) (sg_barred : Int32) (sg_mayActs : Nat → Int32) (sg_mayEnds : Nat → Int32) (sg_mays : Int32) (lw_told : Nat → Int32) (lw_parts : Nat → Int32) (lw_hangMasks : Nat → Int32) (lw_hangValues : Nat → Int32) (lw_ownSeats : Nat → Int32) (p0 : Int32) (p1 : Int32) (post : (Nat → Int32) → Int32 → Int32 → Prop) (hm : wp_X4_choose sg_ownVotes sg_groups sg_bars lw_ownSeats p0 p1 post) : Mv l D cI cZ yX4_choose cX4_choose 4 1 25 [.ref (sg 0), .int p0, .int p1] (W_sg cI sg (lw 0) sg_ownVotes sg_votes sg_rows sg_groups sg_bars sg_now sg_forced sg_barred sg_mayActs sg_mayEnds sg_mays ++ W_lw cI lw lw_told lw_parts lw_hangMasks lw_hangValues lw_ownSeats) (S := (Nat → Int32) × Int32 × Int32) (fun u => W_sg cI sg (lw 0) (u.1) sg_votes sg_rows (u.2.1) (u.2.2) sg_now sg_forced sg_barred sg_mayActs sg_mayEnds sg_mays ++ W_lw cI lw lw_told lw_parts lw_hangMasks lw_hangValues lw_ownSeats) (fun u => post u.1 u.2.1 u.2.2) := by
  refine mk_Mv (by decide +kernel) (Nat.le_of_ble_eq_true rfl) ?_
  intro Γ hl0 hD0 hC hR
  subst hl0
  subst hD0
  have hC : CX Γ cI cZ cX4_choose RX4 4 1 25 := hC
  show VV Γ (W_sg cI sg (lw 0) sg_ownVotes sg_votes sg_rows sg_groups sg_bars sg_now sg_forced sg_barred sg_mayActs sg_mayEnds sg_mays ++ W_lw cI lw lw_told lw_parts lw_hangMasks lw_hangValues lw_ownSeats) [(0, .ref (sg 0)), (1, .int p0), (2, .int p1)] 0 []
  have B_12 : ∀ (n : Nat) (sg_ownVotes_1 : Nat → Int32) (sg_groups_2 : Int32) (sg_bars_3 : Int32) (x1_4 : Int32) (x3_5 : Int32), wpL_X4_choose_12 lw_ownSeats  post n sg_ownVotes_1 sg_groups_2 sg_bars_3 x1_4 x3_5 → VV Γ (W_sg cI sg (lw 0) sg_ownVotes_1 sg_votes sg_rows sg_groups_2 sg_bars_3 sg_now sg_forced sg_barred sg_mayActs sg_mayEnds sg_mays ++ W_lw cI lw lw_told lw_parts lw_hangMasks lw_hangValues lw_ownSeats) [(0, .ref (sg 0)), (1, .int x1_4), (3, .int x3_5)] 12 [] := by
    intro  n
    induction n with
    | zero => intro sg_ownVotes_1 sg_groups_2 sg_bars_3 x1_4 x3_5 hm; rw [wpL_X4_choose_12] at hm; exact hm.elim
    | succ n ih =>
      intro sg_ownVotes_1 sg_groups_2 sg_bars_3 x1_4 x3_5 hm
      rw [wpL_X4_choose_12] at hm
      refine x_iload_n hC 2 dX4_choose_12 rfl ?_
      refine x_iconst hC (3 : Int32) dX4_choose_13 (by decide) ?_
      refine x_icmp_ge hC 38 dX4_choose_14 (by decide) (fun c_6 => ?_) (fun c_6 => ?_)
      · replace hm := hm.1 c_6
        exact hR (sg_ownVotes_1, sg_groups_2, sg_bars_3) [(0, .ref (sg 0)), (1, .int x1_4), (3, .int x3_5)] 38 hm dX4_choose_38
      · replace hm := hm.2 c_6
        refine x_aload_n hC 0 dX4_choose_17 rfl ?_
        refine x_get hC 2 inX4g 0 rfl rfl 1 (by decide) fl_X4_9 rfl dX4_choose_18 ?_
        refine x_iload_n hC 2 dX4_choose_21 rfl ?_
        refine x_aload_n hC 0 dX4_choose_22 rfl ?_
        refine x_get hC 2 inX4g 0 rfl rfl 0 (by decide) fl_X4_29 rfl dX4_choose_23 ?_
        refine x_iload_n hC 1 dX4_choose_26 rfl ?_
        refine x_iload_n hC 2 dX4_choose_27 rfl ?_
        refine x_callVi hC _ [6, 7, 8, 9, 10, 11] [0, 1, 2, 3, 4, 5] [0, 1, 2, 3, 4, 5, 6, 7, 8, 9, 10, 11] (W_sg cI sg (lw 0) sg_ownVotes_1 sg_votes sg_rows sg_groups_2 sg_bars_3 sg_now sg_forced sg_barred sg_mayActs sg_mayEnds sg_mays) (fun _ => W_sg cI sg (lw 0) sg_ownVotes_1 sg_votes sg_rows sg_groups_2 sg_bars_3 sg_now sg_forced sg_barred sg_mayActs sg_mayEnds sg_mays ++ W_lw cI lw lw_told lw_parts lw_hangMasks lw_hangValues lw_ownSeats) ok_X2_ownSeatsOf ml_X4_40 0 0 (c_X2_ownSeatsOf (gl Γ) (gD Γ) cI cZ lw lw_told lw_parts lw_hangMasks lw_hangValues lw_ownSeats x1_4 x3_5 _ hm) (by decide) (by decide) rfl (Nat.le_of_ble_eq_true rfl) rfl rfl rfl rfl (by decide) rfl (fun _ => rfl) rfl rfl rfl rfl dX4_choose_28 ?_
        rintro r_7 _ hm
        refine x_iastN hC 1 rfl hm.1 (fun sg_ownVotes_8 => W_sg cI sg (lw 0) sg_ownVotes_8 sg_votes sg_rows sg_groups_2 sg_bars_3 sg_now sg_forced sg_barred sg_mayActs sg_mayEnds sg_mays ++ W_lw cI lw lw_told lw_parts lw_hangMasks lw_hangValues lw_ownSeats) (fun _ => rfl) dX4_choose_31 (fun sg_ownVotes_8 esg_ownVotes_8 => ?_)
        replace hm := hm.2 sg_ownVotes_8 esg_ownVotes_8
        obtain ⟨x3_9, ex3_9⟩ : ∃ y : Int32, y = x3_5 + (1 : Int32) := ⟨_, rfl⟩
        replace hm := hm x3_9 ex3_9
        refine x_iinc hC 2 x3_9 [(0, .ref (sg 0)), (1, .int x1_4), (3, .int x3_9)] [1, 2, 0] dX4_choose_32 rfl (by rw [ex3_9]; rfl) (by decide) rfl ?_
        refine x_goto hC 12 dX4_choose_35 (by decide) ?_
        exact ih sg_ownVotes_8 sg_groups_2 sg_bars_3 x1_4 x3_9 hm
  unfold wp_X4_choose at hm
  refine x_aload_n hC 0 dX4_choose_0 rfl ?_
  refine x_iload_n hC 1 dX4_choose_1 rfl ?_
  refine x_put hC 2 tyX4_ok nmX4 inX4g 0 rfl rfl 4 (by decide) fl_X4_33 rfl (ty := .int) (by decide +kernel) rfl rfl (Nat.le_of_ble_eq_true rfl) (W_sg cI sg (lw 0) sg_ownVotes sg_votes sg_rows p0 sg_bars sg_now sg_forced sg_barred sg_mayActs sg_mayEnds sg_mays ++ W_lw cI lw lw_told lw_parts lw_hangMasks lw_hangValues lw_ownSeats) rfl dX4_choose_2 ?_
  refine x_aload_n hC 0 dX4_choose_5 rfl ?_
  refine x_iload_n hC 2 dX4_choose_6 rfl ?_
  refine x_put hC 2 tyX4_ok nmX4 inX4g 0 rfl rfl 5 (by decide) fl_X4_37 rfl (ty := .int) (by decide +kernel) rfl rfl (Nat.le_of_ble_eq_true rfl) (W_sg cI sg (lw 0) sg_ownVotes sg_votes sg_rows p0 p1 sg_now sg_forced sg_barred sg_mayActs sg_mayEnds sg_mays ++ W_lw cI lw lw_told lw_parts lw_hangMasks lw_hangValues lw_ownSeats) rfl dX4_choose_7 ?_
  refine x_iconst hC (0 : Int32) dX4_choose_10 (by decide) ?_
  refine x_istore_n hC [(0, .ref (sg 0)), (1, .int p0), (2, .int p1), (3, .int ((0 : Int32)))] [1, 2, 3, 0] dX4_choose_11 (by decide) rfl ?_
  obtain ⟨n_10, hm⟩ := hm
  refine x_lsub [0, 1, 3] rfl ?_
  exact B_12  n_10 sg_ownVotes p0 p1 p0 ((0 : Int32)) hm

def wp_X4_gives (lw_told : Nat → Int32) (p0 : Int32) (p1 : Int32) (p2 : Int32) (post : Int32 → Prop) : Prop := (¬ p0 = 0 → (p0 = ((1 : Int32)) → (¬ p2 = 0 → post ((0 : Int32)) ) ∧ (p2 = 0 → post ((1 : Int32)) )) ∧ (¬ p0 = ((1 : Int32)) → (¬ p0 = ((2 : Int32)) → post ((0 : Int32)) ) ∧ (p0 = ((2 : Int32)) → (¬ p2 = 0 → post ((0 : Int32)) ) ∧ (p2 = 0 → post ((1 : Int32)) )))) ∧ (p0 = 0 → (p2 < ((1 : Int32)) → post ((0 : Int32)) ) ∧ (¬ p2 < ((1 : Int32)) → wp_X2_formsOf lw_told p1 (fun (r_7 : Int32) => (r_7 < p2 → post ((0 : Int32)) ) ∧ (¬ r_7 < p2 → post ((1 : Int32)) ))))
set_option maxHeartbeats 4000000 in
set_option maxRecDepth 100000 in
theorem c_X4_gives (l : Launch) (D : va_G) (cI cZ : ClassId) (sg : Nat → Nat) (lw : Nat → Nat) (sg_ownVotes : Nat → Int32) (sg_votes : Nat → Int32) (sg_rows : Nat → Int32) (sg_groups : Int32) (sg_bars : Int32) (sg_now : Int32) (sg_forced : Int32) (sg_barred : Int32) (sg_mayActs : Nat → Int32) (sg_mayEnds : Nat → Int32) (sg_mays : Int32) (lw_told : Nat → Int32) (lw_parts : Nat → Int32) (lw_hangMasks : Nat → Int32) (lw_hangValues : Nat → Int32) (lw_ownSeats : Nat → Int32) (p0 : Int32) (p1 : Int32) (p2 : Int32) (post : Int32 → Prop) (hm : wp_X4_gives lw_told p0 p1 p2 post) : Mi l D cI cZ yX4_gives cX4_gives 4 .boolean 1 21 [.ref (sg 0), .int p0, .int p1, .int p2] (W_sg cI sg (lw 0) sg_ownVotes sg_votes sg_rows sg_groups sg_bars sg_now sg_forced sg_barred sg_mayActs sg_mayEnds sg_mays ++ W_lw cI lw lw_told lw_parts lw_hangMasks lw_hangValues lw_ownSeats) (S := Unit) (fun _ => W_sg cI sg (lw 0) sg_ownVotes sg_votes sg_rows sg_groups sg_bars sg_now sg_forced sg_barred sg_mayActs sg_mayEnds sg_mays ++ W_lw cI lw lw_told lw_parts lw_hangMasks lw_hangValues lw_ownSeats) (fun r _ => post r ) := by
  refine mk_Mi (by decide +kernel) (Nat.le_of_ble_eq_true rfl) ?_
  intro Γ hl0 hD0 hC hR
  subst hl0
  subst hD0
  have hC : CX Γ cI cZ cX4_gives RX4 4 1 21 := hC
  show VV Γ (W_sg cI sg (lw 0) sg_ownVotes sg_votes sg_rows sg_groups sg_bars sg_now sg_forced sg_barred sg_mayActs sg_mayEnds sg_mays ++ W_lw cI lw lw_told lw_parts lw_hangMasks lw_hangValues lw_ownSeats) [(0, .ref (sg 0)), (1, .int p0), (2, .int p1), (3, .int p2)] 0 []
  unfold wp_X4_gives at hm
  refine x_iload_n hC 1 dX4_gives_0 rfl ?_
  refine x_if_ne hC 27 dX4_gives_1 (by decide) (fun c_1 => ?_) (fun c_1 => ?_)
  · replace hm := hm.1 c_1
    refine x_iload_n hC 1 dX4_gives_27 rfl ?_
    refine x_iconst hC (1 : Int32) dX4_gives_28 (by decide) ?_
    refine x_icmp_eq hC 37 dX4_gives_29 (by decide) (fun c_2 => ?_) (fun c_2 => ?_)
    · replace hm := hm.1 c_2
      refine x_iload_n hC 3 dX4_gives_37 rfl ?_
      refine x_if_ne hC 45 dX4_gives_38 (by decide) (fun c_3 => ?_) (fun c_3 => ?_)
      · replace hm := hm.1 c_3
        refine x_iconst hC (0 : Int32) dX4_gives_45 (by decide) ?_
        exact hR ((0 : Int32)) () [(0, .ref (sg 0)), (1, .int p0), (2, .int p1), (3, .int p2)] 46 hm rfl dX4_gives_46
      · replace hm := hm.2 c_3
        refine x_iconst hC (1 : Int32) dX4_gives_41 (by decide) ?_
        refine x_goto hC 46 dX4_gives_42 (by decide) ?_
        exact hR ((1 : Int32)) () [(0, .ref (sg 0)), (1, .int p0), (2, .int p1), (3, .int p2)] 46 hm rfl dX4_gives_46
    · replace hm := hm.2 c_2
      refine x_iload_n hC 1 dX4_gives_32 rfl ?_
      refine x_iconst hC (2 : Int32) dX4_gives_33 (by decide) ?_
      refine x_icmp_ne hC 45 dX4_gives_34 (by decide) (fun c_4 => ?_) (fun c_4 => ?_)
      · replace hm := hm.1 c_4
        refine x_iconst hC (0 : Int32) dX4_gives_45 (by decide) ?_
        exact hR ((0 : Int32)) () [(0, .ref (sg 0)), (1, .int p0), (2, .int p1), (3, .int p2)] 46 hm rfl dX4_gives_46
      · replace hm := hm.2 c_4
        refine x_iload_n hC 3 dX4_gives_37 rfl ?_
        refine x_if_ne hC 45 dX4_gives_38 (by decide) (fun c_5 => ?_) (fun c_5 => ?_)
        · replace hm := hm.1 c_5
          refine x_iconst hC (0 : Int32) dX4_gives_45 (by decide) ?_
          exact hR ((0 : Int32)) () [(0, .ref (sg 0)), (1, .int p0), (2, .int p1), (3, .int p2)] 46 hm rfl dX4_gives_46
        · replace hm := hm.2 c_5
          refine x_iconst hC (1 : Int32) dX4_gives_41 (by decide) ?_
          refine x_goto hC 46 dX4_gives_42 (by decide) ?_
          exact hR ((1 : Int32)) () [(0, .ref (sg 0)), (1, .int p0), (2, .int p1), (3, .int p2)] 46 hm rfl dX4_gives_46
  · replace hm := hm.2 c_1
    refine x_iload_n hC 3 dX4_gives_4 rfl ?_
    refine x_iconst hC (1 : Int32) dX4_gives_5 (by decide) ?_
    refine x_icmp_lt hC 25 dX4_gives_6 (by decide) (fun c_6 => ?_) (fun c_6 => ?_)
    · replace hm := hm.1 c_6
      refine x_iconst hC (0 : Int32) dX4_gives_25 (by decide) ?_
      exact hR ((0 : Int32)) () [(0, .ref (sg 0)), (1, .int p0), (2, .int p1), (3, .int p2)] 26 hm rfl dX4_gives_26
    · replace hm := hm.2 c_6
      refine x_iload_n hC 3 dX4_gives_9 rfl ?_
      refine x_aload_n hC 0 dX4_gives_10 rfl ?_
      refine x_get hC 2 inX4g 0 rfl rfl 0 (by decide) fl_X4_29 rfl dX4_gives_11 ?_
      refine x_iload_n hC 2 dX4_gives_14 rfl ?_
      refine x_callVi hC _ [6, 7, 8, 9, 10, 11] [0, 1, 2, 3, 4, 5] [0, 1, 2, 3, 4, 5, 6, 7, 8, 9, 10, 11] (W_sg cI sg (lw 0) sg_ownVotes sg_votes sg_rows sg_groups sg_bars sg_now sg_forced sg_barred sg_mayActs sg_mayEnds sg_mays) (fun _ => W_sg cI sg (lw 0) sg_ownVotes sg_votes sg_rows sg_groups sg_bars sg_now sg_forced sg_barred sg_mayActs sg_mayEnds sg_mays ++ W_lw cI lw lw_told lw_parts lw_hangMasks lw_hangValues lw_ownSeats) ok_X2_formsOf ml_X4_104 0 0 (c_X2_formsOf (gl Γ) (gD Γ) cI cZ lw lw_told lw_parts lw_hangMasks lw_hangValues lw_ownSeats p1 _ hm) (by decide) (by decide) rfl (Nat.le_of_ble_eq_true rfl) rfl rfl rfl rfl (by decide) rfl (fun _ => rfl) rfl rfl rfl rfl dX4_gives_15 ?_
      rintro r_7 _ hm
      refine x_icmp_gt hC 25 dX4_gives_18 (by decide) (fun c_8 => ?_) (fun c_8 => ?_)
      · replace hm := hm.1 c_8
        refine x_iconst hC (0 : Int32) dX4_gives_25 (by decide) ?_
        exact hR ((0 : Int32)) () [(0, .ref (sg 0)), (1, .int p0), (2, .int p1), (3, .int p2)] 26 hm rfl dX4_gives_26
      · replace hm := hm.2 c_8
        refine x_iconst hC (1 : Int32) dX4_gives_21 (by decide) ?_
        refine x_goto hC 26 dX4_gives_22 (by decide) ?_
        exact hR ((1 : Int32)) () [(0, .ref (sg 0)), (1, .int p0), (2, .int p1), (3, .int p2)] 26 hm rfl dX4_gives_26

def wp_X4_heed (sg_votes : Nat → Int32) (sg_groups : Int32) (sg_barred : Int32) (lw_parts : Nat → Int32) (p0 : Int32) (post : (Nat → Int32) → Int32 → Prop) : Prop := wp_X2_part lw_parts (p0 + ((0 : Int32))) (fun (r_1 : Int32) => (¬ r_1 = ((3 : Int32)) → (¬ r_1 = ((4 : Int32)) → post sg_votes sg_barred) ∧ (r_1 = ((4 : Int32)) → wp_X2_part lw_parts (p0 + ((2 : Int32))) (fun (r_4 : Int32) => (¬ ((sg_groups >>> (r_4 &&& 31)) &&& ((1 : Int32))) = ((1 : Int32)) → post sg_votes sg_barred) ∧ (((sg_groups >>> (r_4 &&& 31)) &&& ((1 : Int32))) = ((1 : Int32)) → wp_X2_part lw_parts (p0 + ((1 : Int32))) (fun (r_6 : Int32) => wp_X2_part lw_parts (p0 + ((3 : Int32))) (fun (r_7 : Int32) => wp_X4_addVotes sg_votes r_6 r_7 (fun (sg_votes_8 : Nat → Int32) => post sg_votes_8 sg_barred))))))) ∧ (r_1 = ((3 : Int32)) → wp_X2_part lw_parts (p0 + ((1 : Int32))) (fun (r_9 : Int32) => ∀ v_10 : Int32, v_10 = sg_barred ||| (((1 : Int32)) <<< (r_9 &&& 31)) → post sg_votes v_10)))
set_option maxHeartbeats 4000000 in
set_option maxRecDepth 100000 in
theorem c_X4_heed (l : Launch) (D : va_G) (cI cZ : ClassId) (sg : Nat → Nat) (lw : Nat → Nat) (sg_ownVotes : Nat → Int32) (sg_votes : Nat → Int32) (sg_rows : Nat → Int32) (sg_groups : Int32) (sg_bars : Int32) (sg_now : Int32) (sg_forced : Int32) (sg_barred : Int32) (sg_mayActs : Nat → Int32) (sg_mayEnds : Nat → Int32) (sg_mays : Int32) (lw_told : Nat → Int32) (lw_parts : Nat → Int32) (lw_hangMasks : Nat → Int32) (lw_hangValues : Nat → Int32) (lw_ownSeats : Nat → Int32) (p0 : Int32) (post : (Nat → Int32) → Int32 → Prop) (hm : wp_X4_heed sg_votes sg_groups sg_barred lw_parts p0 post) : Mv l D cI cZ yX4_heed cX4_heed 3 1 22 [.ref (sg 0), .int p0] (W_sg cI sg (lw 0) sg_ownVotes sg_votes sg_rows sg_groups sg_bars sg_now sg_forced sg_barred sg_mayActs sg_mayEnds sg_mays ++ W_lw cI lw lw_told lw_parts lw_hangMasks lw_hangValues lw_ownSeats) (S := (Nat → Int32) × Int32) (fun u => W_sg cI sg (lw 0) sg_ownVotes (u.1) sg_rows sg_groups sg_bars sg_now sg_forced (u.2) sg_mayActs sg_mayEnds sg_mays ++ W_lw cI lw lw_told lw_parts lw_hangMasks lw_hangValues lw_ownSeats) (fun u => post u.1 u.2) := by
  refine mk_Mv (by decide +kernel) (Nat.le_of_ble_eq_true rfl) ?_
  intro Γ hl0 hD0 hC hR
  subst hl0
  subst hD0
  have hC : CX Γ cI cZ cX4_heed RX4 3 1 22 := hC
  show VV Γ (W_sg cI sg (lw 0) sg_ownVotes sg_votes sg_rows sg_groups sg_bars sg_now sg_forced sg_barred sg_mayActs sg_mayEnds sg_mays ++ W_lw cI lw lw_told lw_parts lw_hangMasks lw_hangValues lw_ownSeats) [(0, .ref (sg 0)), (1, .int p0)] 0 []
  unfold wp_X4_heed at hm
  refine x_aload_n hC 0 dX4_heed_0 rfl ?_
  refine x_get hC 2 inX4g 0 rfl rfl 0 (by decide) fl_X4_29 rfl dX4_heed_1 ?_
  refine x_iload_n hC 1 dX4_heed_4 rfl ?_
  refine x_iconst hC (0 : Int32) dX4_heed_5 (by decide) ?_
  refine x_iadd hC dX4_heed_6 ?_
  refine x_callVi hC _ [6, 7, 8, 9, 10, 11] [0, 1, 2, 3, 4, 5] [0, 1, 2, 3, 4, 5, 6, 7, 8, 9, 10, 11] (W_sg cI sg (lw 0) sg_ownVotes sg_votes sg_rows sg_groups sg_bars sg_now sg_forced sg_barred sg_mayActs sg_mayEnds sg_mays) (fun _ => W_sg cI sg (lw 0) sg_ownVotes sg_votes sg_rows sg_groups sg_bars sg_now sg_forced sg_barred sg_mayActs sg_mayEnds sg_mays ++ W_lw cI lw lw_told lw_parts lw_hangMasks lw_hangValues lw_ownSeats) ok_X2_part ml_X4_77 0 0 (c_X2_part (gl Γ) (gD Γ) cI cZ lw lw_told lw_parts lw_hangMasks lw_hangValues lw_ownSeats (p0 + ((0 : Int32))) _ hm) (by decide) (by decide) rfl (Nat.le_of_ble_eq_true rfl) rfl rfl rfl rfl (by decide) rfl (fun _ => rfl) rfl rfl rfl rfl dX4_heed_7 ?_
  rintro r_1 _ hm
  refine x_istore_n hC [(0, .ref (sg 0)), (1, .int p0), (2, .int r_1)] [1, 2, 0] dX4_heed_10 (by decide) rfl ?_
  refine x_iload_n hC 2 dX4_heed_11 rfl ?_
  refine x_iconst hC (3 : Int32) dX4_heed_12 (by decide) ?_
  refine x_icmp_ne hC 40 dX4_heed_13 (by decide) (fun c_2 => ?_) (fun c_2 => ?_)
  · replace hm := hm.1 c_2
    refine x_iload_n hC 2 dX4_heed_40 rfl ?_
    refine x_iconst hC (4 : Int32) dX4_heed_41 (by decide) ?_
    refine x_icmp_ne hC 90 dX4_heed_42 (by decide) (fun c_3 => ?_) (fun c_3 => ?_)
    · replace hm := hm.1 c_3
      exact hR (sg_votes, sg_barred) [(0, .ref (sg 0)), (1, .int p0), (2, .int r_1)] 90 hm dX4_heed_90
    · replace hm := hm.2 c_3
      refine x_aload_n hC 0 dX4_heed_45 rfl ?_
      refine x_get hC 2 inX4g 0 rfl rfl 4 (by decide) fl_X4_33 rfl dX4_heed_46 ?_
      refine x_aload_n hC 0 dX4_heed_49 rfl ?_
      refine x_get hC 2 inX4g 0 rfl rfl 0 (by decide) fl_X4_29 rfl dX4_heed_50 ?_
      refine x_iload_n hC 1 dX4_heed_53 rfl ?_
      refine x_iconst hC (2 : Int32) dX4_heed_54 (by decide) ?_
      refine x_iadd hC dX4_heed_55 ?_
      refine x_callVi hC _ [6, 7, 8, 9, 10, 11] [0, 1, 2, 3, 4, 5] [0, 1, 2, 3, 4, 5, 6, 7, 8, 9, 10, 11] (W_sg cI sg (lw 0) sg_ownVotes sg_votes sg_rows sg_groups sg_bars sg_now sg_forced sg_barred sg_mayActs sg_mayEnds sg_mays) (fun _ => W_sg cI sg (lw 0) sg_ownVotes sg_votes sg_rows sg_groups sg_bars sg_now sg_forced sg_barred sg_mayActs sg_mayEnds sg_mays ++ W_lw cI lw lw_told lw_parts lw_hangMasks lw_hangValues lw_ownSeats) ok_X2_part ml_X4_77 0 0 (c_X2_part (gl Γ) (gD Γ) cI cZ lw lw_told lw_parts lw_hangMasks lw_hangValues lw_ownSeats (p0 + ((2 : Int32))) _ hm) (by decide) (by decide) rfl (Nat.le_of_ble_eq_true rfl) rfl rfl rfl rfl (by decide) rfl (fun _ => rfl) rfl rfl rfl rfl dX4_heed_56 ?_
      rintro r_4 _ hm
      refine x_ishr hC dX4_heed_59 ?_
      refine x_iconst hC (1 : Int32) dX4_heed_60 (by decide) ?_
      refine x_iand hC dX4_heed_61 ?_
      refine x_iconst hC (1 : Int32) dX4_heed_62 (by decide) ?_
      refine x_icmp_ne hC 90 dX4_heed_63 (by decide) (fun c_5 => ?_) (fun c_5 => ?_)
      · replace hm := hm.1 c_5
        exact hR (sg_votes, sg_barred) [(0, .ref (sg 0)), (1, .int p0), (2, .int r_1)] 90 hm dX4_heed_90
      · replace hm := hm.2 c_5
        refine x_aload_n hC 0 dX4_heed_66 rfl ?_
        refine x_aload_n hC 0 dX4_heed_67 rfl ?_
        refine x_get hC 2 inX4g 0 rfl rfl 0 (by decide) fl_X4_29 rfl dX4_heed_68 ?_
        refine x_iload_n hC 1 dX4_heed_71 rfl ?_
        refine x_iconst hC (1 : Int32) dX4_heed_72 (by decide) ?_
        refine x_iadd hC dX4_heed_73 ?_
        refine x_callVi hC _ [6, 7, 8, 9, 10, 11] [0, 1, 2, 3, 4, 5] [0, 1, 2, 3, 4, 5, 6, 7, 8, 9, 10, 11] (W_sg cI sg (lw 0) sg_ownVotes sg_votes sg_rows sg_groups sg_bars sg_now sg_forced sg_barred sg_mayActs sg_mayEnds sg_mays) (fun _ => W_sg cI sg (lw 0) sg_ownVotes sg_votes sg_rows sg_groups sg_bars sg_now sg_forced sg_barred sg_mayActs sg_mayEnds sg_mays ++ W_lw cI lw lw_told lw_parts lw_hangMasks lw_hangValues lw_ownSeats) ok_X2_part ml_X4_77 0 0 (c_X2_part (gl Γ) (gD Γ) cI cZ lw lw_told lw_parts lw_hangMasks lw_hangValues lw_ownSeats (p0 + ((1 : Int32))) _ hm) (by decide) (by decide) rfl (Nat.le_of_ble_eq_true rfl) rfl rfl rfl rfl (by decide) rfl (fun _ => rfl) rfl rfl rfl rfl dX4_heed_74 ?_
        rintro r_6 _ hm
        refine x_aload_n hC 0 dX4_heed_77 rfl ?_
        refine x_get hC 2 inX4g 0 rfl rfl 0 (by decide) fl_X4_29 rfl dX4_heed_78 ?_
        refine x_iload_n hC 1 dX4_heed_81 rfl ?_
        refine x_iconst hC (3 : Int32) dX4_heed_82 (by decide) ?_
        refine x_iadd hC dX4_heed_83 ?_
        refine x_callVi hC _ [6, 7, 8, 9, 10, 11] [0, 1, 2, 3, 4, 5] [0, 1, 2, 3, 4, 5, 6, 7, 8, 9, 10, 11] (W_sg cI sg (lw 0) sg_ownVotes sg_votes sg_rows sg_groups sg_bars sg_now sg_forced sg_barred sg_mayActs sg_mayEnds sg_mays) (fun _ => W_sg cI sg (lw 0) sg_ownVotes sg_votes sg_rows sg_groups sg_bars sg_now sg_forced sg_barred sg_mayActs sg_mayEnds sg_mays ++ W_lw cI lw lw_told lw_parts lw_hangMasks lw_hangValues lw_ownSeats) ok_X2_part ml_X4_77 0 0 (c_X2_part (gl Γ) (gD Γ) cI cZ lw lw_told lw_parts lw_hangMasks lw_hangValues lw_ownSeats (p0 + ((3 : Int32))) _ hm) (by decide) (by decide) rfl (Nat.le_of_ble_eq_true rfl) rfl rfl rfl rfl (by decide) rfl (fun _ => rfl) rfl rfl rfl rfl dX4_heed_84 ?_
        rintro r_7 _ hm
        refine x_callVv hC _ [0, 1, 2, 3, 4, 5, 6, 7, 8, 9, 10, 11] [] [0, 1, 2, 3, 4, 5, 6, 7, 8, 9, 10, 11] (([] : va_W)) (fun u => W_sg cI sg (lw 0) sg_ownVotes u sg_rows sg_groups sg_bars sg_now sg_forced sg_barred sg_mayActs sg_mayEnds sg_mays ++ W_lw cI lw lw_told lw_parts lw_hangMasks lw_hangValues lw_ownSeats) ok_X4_addVotes ml_X4_81 0 2 (c_X4_addVotes (gl Γ) (gD Γ) cI cZ sg lw sg_ownVotes sg_votes sg_rows sg_groups sg_bars sg_now sg_forced sg_barred sg_mayActs sg_mayEnds sg_mays lw_told lw_parts lw_hangMasks lw_hangValues lw_ownSeats r_6 r_7 _ hm) (by decide) (by decide) rfl (Nat.le_of_ble_eq_true rfl) rfl rfl rfl rfl (by decide) rfl (fun _ => rfl) rfl rfl rfl rfl dX4_heed_87 ?_
        rintro sg_votes_8 hm
        exact hR (sg_votes_8, sg_barred) [(0, .ref (sg 0)), (1, .int p0), (2, .int r_1)] 90 hm dX4_heed_90
  · replace hm := hm.2 c_2
    refine x_aload_n hC 0 dX4_heed_16 rfl ?_
    refine x_dup hC dX4_heed_17 rfl ?_
    refine x_get hC 2 inX4g 0 rfl rfl 8 (by decide) fl_X4_52 rfl dX4_heed_18 ?_
    refine x_iconst hC (1 : Int32) dX4_heed_21 (by decide) ?_
    refine x_aload_n hC 0 dX4_heed_22 rfl ?_
    refine x_get hC 2 inX4g 0 rfl rfl 0 (by decide) fl_X4_29 rfl dX4_heed_23 ?_
    refine x_iload_n hC 1 dX4_heed_26 rfl ?_
    refine x_iconst hC (1 : Int32) dX4_heed_27 (by decide) ?_
    refine x_iadd hC dX4_heed_28 ?_
    refine x_callVi hC _ [6, 7, 8, 9, 10, 11] [0, 1, 2, 3, 4, 5] [0, 1, 2, 3, 4, 5, 6, 7, 8, 9, 10, 11] (W_sg cI sg (lw 0) sg_ownVotes sg_votes sg_rows sg_groups sg_bars sg_now sg_forced sg_barred sg_mayActs sg_mayEnds sg_mays) (fun _ => W_sg cI sg (lw 0) sg_ownVotes sg_votes sg_rows sg_groups sg_bars sg_now sg_forced sg_barred sg_mayActs sg_mayEnds sg_mays ++ W_lw cI lw lw_told lw_parts lw_hangMasks lw_hangValues lw_ownSeats) ok_X2_part ml_X4_77 0 0 (c_X2_part (gl Γ) (gD Γ) cI cZ lw lw_told lw_parts lw_hangMasks lw_hangValues lw_ownSeats (p0 + ((1 : Int32))) _ hm) (by decide) (by decide) rfl (Nat.le_of_ble_eq_true rfl) rfl rfl rfl rfl (by decide) rfl (fun _ => rfl) rfl rfl rfl rfl dX4_heed_29 ?_
    rintro r_9 _ hm
    refine x_ishl hC dX4_heed_32 ?_
    refine x_ior hC dX4_heed_33 ?_
    refine x_top (fun v_10 ev_10 => ?_)
    replace hm := hm v_10 ev_10
    refine x_put hC 2 tyX4_ok nmX4 inX4g 0 rfl rfl 8 (by decide) fl_X4_52 rfl (ty := .int) (by decide +kernel) rfl rfl (Nat.le_of_ble_eq_true rfl) (W_sg cI sg (lw 0) sg_ownVotes sg_votes sg_rows sg_groups sg_bars sg_now sg_forced v_10 sg_mayActs sg_mayEnds sg_mays ++ W_lw cI lw lw_told lw_parts lw_hangMasks lw_hangValues lw_ownSeats) rfl dX4_heed_34 ?_
    refine x_goto hC 90 dX4_heed_37 (by decide) ?_
    exact hR (sg_votes, v_10) [(0, .ref (sg 0)), (1, .int p0), (2, .int r_1)] 90 hm dX4_heed_90

def wp_X4_howManyMay (sg_mays : Int32)  (post : Int32 → Prop) : Prop := post sg_mays 
set_option maxHeartbeats 4000000 in
set_option maxRecDepth 100000 in
theorem c_X4_howManyMay (l : Launch) (D : va_G) (cI cZ : ClassId) (sg : Nat → Nat) (lw : Nat → Nat) (sg_ownVotes : Nat → Int32) (sg_votes : Nat → Int32) (sg_rows : Nat → Int32) (sg_groups : Int32) (sg_bars : Int32) (sg_now : Int32) (sg_forced : Int32) (sg_barred : Int32) (sg_mayActs : Nat → Int32) (sg_mayEnds : Nat → Int32) (sg_mays : Int32) (lw_told : Nat → Int32) (lw_parts : Nat → Int32) (lw_hangMasks : Nat → Int32) (lw_hangValues : Nat → Int32) (lw_ownSeats : Nat → Int32)  (post : Int32 → Prop) (hm : wp_X4_howManyMay sg_mays  post) : Mi l D cI cZ yX4_howManyMay cX4_howManyMay 1 .int 0 0 [.ref (sg 0)] (W_sg cI sg (lw 0) sg_ownVotes sg_votes sg_rows sg_groups sg_bars sg_now sg_forced sg_barred sg_mayActs sg_mayEnds sg_mays ++ W_lw cI lw lw_told lw_parts lw_hangMasks lw_hangValues lw_ownSeats) (S := Unit) (fun _ => W_sg cI sg (lw 0) sg_ownVotes sg_votes sg_rows sg_groups sg_bars sg_now sg_forced sg_barred sg_mayActs sg_mayEnds sg_mays ++ W_lw cI lw lw_told lw_parts lw_hangMasks lw_hangValues lw_ownSeats) (fun r _ => post r ) := by
  refine mk_Mi (by decide +kernel) (Nat.le_of_ble_eq_true rfl) ?_
  intro Γ hl0 hD0 hC hR
  subst hl0
  subst hD0
  have hC : CX Γ cI cZ cX4_howManyMay RX4 1 0 0 := hC
  show VV Γ (W_sg cI sg (lw 0) sg_ownVotes sg_votes sg_rows sg_groups sg_bars sg_now sg_forced sg_barred sg_mayActs sg_mayEnds sg_mays ++ W_lw cI lw lw_told lw_parts lw_hangMasks lw_hangValues lw_ownSeats) [(0, .ref (sg 0))] 0 []
  unfold wp_X4_howManyMay at hm
  refine x_aload_n hC 0 dX4_howManyMay_0 rfl ?_
  refine x_get hC 2 inX4g 0 rfl rfl 11 (by decide) fl_X4_117 rfl dX4_howManyMay_1 ?_
  exact hR sg_mays () [(0, .ref (sg 0))] 4 hm rfl dX4_howManyMay_4

def wpL_X4_look_34 (sg_ownVotes : Nat → Int32) (sg_groups : Int32) (sg_bars : Int32) (lw_parts : Nat → Int32) (lw_hangMasks : Nat → Int32) (lw_hangValues : Nat → Int32)  (post : (Nat → Int32) → (Nat → Int32) → Int32 → Int32 → Int32 → Prop) : Nat → (Nat → Int32) → (Nat → Int32) → Int32 → Int32 → Int32 → Int32 → Int32 → Prop
  | 0, _, _, _, _, _, _, _ => False
  | n + 1, sg_votes_2, sg_rows_3, sg_now_4, sg_forced_5, sg_barred_6, x1_7, x2_8 => (((5 : Int32)) ≤ x2_8 → post sg_votes_2 sg_rows_3 sg_now_4 sg_forced_5 sg_barred_6) ∧ (¬ ((5 : Int32)) ≤ x2_8 → wp_X5_formOf  x1_7 x2_8 (fun (r_10 : Int32) => wp_X2_rowOf  x2_8 r_10 (fun (r_11 : Int32) => vp_in x2_8 5 ∧ ∀ sg_rows_12 : Nat → Int32, sg_rows_12 = upd sg_rows_3 x2_8.toNatClampNeg r_11 → wp_X2_inForce lw_hangMasks lw_hangValues x1_7 x2_8 (fun (r_13 : Int32) => (r_13 = 0 → ∀ x2_15 : Int32, x2_15 = x2_8 + (1 : Int32) → (wpL_X4_look_34 sg_ownVotes sg_groups sg_bars lw_parts lw_hangMasks lw_hangValues  post n) sg_votes_2 sg_rows_12 sg_now_4 sg_forced_5 sg_barred_6 x1_7 x2_15) ∧ (¬ r_13 = 0 → ∀ v_16 : Int32, v_16 = sg_forced_5 ||| (((1 : Int32)) <<< (x2_8 &&& 31)) → vp_in x2_8 5 ∧ (wp_X4_heed sg_votes_2 sg_groups sg_barred_6 lw_parts (sg_rows_12 x2_8.toNatClampNeg) (fun (sg_votes_17 : Nat → Int32) (sg_barred_18 : Int32) => ∀ x2_19 : Int32, x2_19 = x2_8 + (1 : Int32) → (wpL_X4_look_34 sg_ownVotes sg_groups sg_bars lw_parts lw_hangMasks lw_hangValues  post n) sg_votes_17 sg_rows_12 sg_now_4 v_16 sg_barred_18 x1_7 x2_19)))))))
def wp_X4_look (sg_ownVotes : Nat → Int32) (sg_votes : Nat → Int32) (sg_rows : Nat → Int32) (sg_groups : Int32) (sg_bars : Int32) (sg_now : Int32) (sg_forced : Int32) (sg_barred : Int32) (lw_parts : Nat → Int32) (lw_hangMasks : Nat → Int32) (lw_hangValues : Nat → Int32) (p0 : Int32) (post : (Nat → Int32) → (Nat → Int32) → Int32 → Int32 → Int32 → Prop) : Prop := ∀ sg_votes_1 : Nat → Int32, sg_votes_1 = va_cpy sg_ownVotes sg_votes 0 0 3 → ∃ k34, wpL_X4_look_34 sg_ownVotes sg_groups sg_bars lw_parts lw_hangMasks lw_hangValues  post k34 sg_votes_1 sg_rows p0 ((0 : Int32)) sg_bars p0 ((0 : Int32))
set_option maxHeartbeats 4000000 in
set_option maxRecDepth 100000 in
theorem c_X4_look (l : Launch) (D : va_G) (cI cZ : ClassId) (sg : Nat → Nat) (lw : Nat → Nat) (sg_ownVotes : Nat → Int32) (sg_votes : Nat → Int32) (sg_rows : Nat → Int32) (sg_groups : Int32) (sg_bars : Int32) (sg_now : Int32) (sg_forced : Int32) (sg_barred : Int32) (sg_mayActs : Nat → Int32) (sg_mayEnds : Nat → Int32) (sg_mays : Int32) (lw_told : Nat → Int32) (lw_parts : Nat → Int32) (lw_hangMasks : Nat → Int32) (lw_hangValues : Nat → Int32) (lw_ownSeats : Nat → Int32) (p0 : Int32) (post : (Nat → Int32) → (Nat → Int32) → Int32 → Int32 → Int32 → Prop) (hm : wp_X4_look sg_ownVotes sg_votes sg_rows sg_groups sg_bars sg_now sg_forced sg_barred lw_parts lw_hangMasks lw_hangValues p0 post) : Mv l D cI cZ yX4_look cX4_look 3 2 45 [.ref (sg 0), .int p0] (W_sg cI sg (lw 0) sg_ownVotes sg_votes sg_rows sg_groups sg_bars sg_now sg_forced sg_barred sg_mayActs sg_mayEnds sg_mays ++ W_lw cI lw lw_told lw_parts lw_hangMasks lw_hangValues lw_ownSeats) (S := (Nat → Int32) × (Nat → Int32) × Int32 × Int32 × Int32) (fun u => W_sg cI sg (lw 0) sg_ownVotes (u.1) (u.2.1) sg_groups sg_bars (u.2.2.1) (u.2.2.2.1) (u.2.2.2.2) sg_mayActs sg_mayEnds sg_mays ++ W_lw cI lw lw_told lw_parts lw_hangMasks lw_hangValues lw_ownSeats) (fun u => post u.1 u.2.1 u.2.2.1 u.2.2.2.1 u.2.2.2.2) := by
  refine mk_Mv (by decide +kernel) (Nat.le_of_ble_eq_true rfl) ?_
  intro Γ hl0 hD0 hC hR
  subst hl0
  subst hD0
  have hC : CX Γ cI cZ cX4_look RX4 3 2 45 := hC
  show VV Γ (W_sg cI sg (lw 0) sg_ownVotes sg_votes sg_rows sg_groups sg_bars sg_now sg_forced sg_barred sg_mayActs sg_mayEnds sg_mays ++ W_lw cI lw lw_told lw_parts lw_hangMasks lw_hangValues lw_ownSeats) [(0, .ref (sg 0)), (1, .int p0)] 0 []
  have B_34 : ∀ (n : Nat) (sg_votes_2 : Nat → Int32) (sg_rows_3 : Nat → Int32) (sg_now_4 : Int32) (sg_forced_5 : Int32) (sg_barred_6 : Int32) (x1_7 : Int32) (x2_8 : Int32), wpL_X4_look_34 sg_ownVotes sg_groups sg_bars lw_parts lw_hangMasks lw_hangValues  post n sg_votes_2 sg_rows_3 sg_now_4 sg_forced_5 sg_barred_6 x1_7 x2_8 → VV Γ (W_sg cI sg (lw 0) sg_ownVotes sg_votes_2 sg_rows_3 sg_groups sg_bars sg_now_4 sg_forced_5 sg_barred_6 sg_mayActs sg_mayEnds sg_mays ++ W_lw cI lw lw_told lw_parts lw_hangMasks lw_hangValues lw_ownSeats) [(0, .ref (sg 0)), (1, .int x1_7), (2, .int x2_8)] 34 [] := by
    intro  n
    induction n with
    | zero => intro sg_votes_2 sg_rows_3 sg_now_4 sg_forced_5 sg_barred_6 x1_7 x2_8 hm; rw [wpL_X4_look_34] at hm; exact hm.elim
    | succ n ih =>
      intro sg_votes_2 sg_rows_3 sg_now_4 sg_forced_5 sg_barred_6 x1_7 x2_8 hm
      rw [wpL_X4_look_34] at hm
      refine x_iload_n hC 2 dX4_look_34 rfl ?_
      refine x_iconst hC (5 : Int32) dX4_look_35 (by decide) ?_
      refine x_icmp_ge hC 94 dX4_look_36 (by decide) (fun c_9 => ?_) (fun c_9 => ?_)
      · replace hm := hm.1 c_9
        exact hR (sg_votes_2, sg_rows_3, sg_now_4, sg_forced_5, sg_barred_6) [(0, .ref (sg 0)), (1, .int x1_7), (2, .int x2_8)] 94 hm dX4_look_94
      · replace hm := hm.2 c_9
        refine x_aload_n hC 0 dX4_look_39 rfl ?_
        refine x_get hC 2 inX4g 0 rfl rfl 3 (by decide) fl_X4_18 rfl dX4_look_40 ?_
        refine x_iload_n hC 2 dX4_look_43 rfl ?_
        refine x_iload_n hC 2 dX4_look_44 rfl ?_
        refine x_iload_n hC 1 dX4_look_45 rfl ?_
        refine x_iload_n hC 2 dX4_look_46 rfl ?_
        refine x_callSi hC _ [] [0, 1, 2, 3, 4, 5, 6, 7, 8, 9, 10, 11] [0, 1, 2, 3, 4, 5, 6, 7, 8, 9, 10, 11] (W_sg cI sg (lw 0) sg_ownVotes sg_votes_2 sg_rows_3 sg_groups sg_bars sg_now_4 sg_forced_5 sg_barred_6 sg_mayActs sg_mayEnds sg_mays ++ W_lw cI lw lw_told lw_parts lw_hangMasks lw_hangValues lw_ownSeats) (fun _ => W_sg cI sg (lw 0) sg_ownVotes sg_votes_2 sg_rows_3 sg_groups sg_bars sg_now_4 sg_forced_5 sg_barred_6 sg_mayActs sg_mayEnds sg_mays ++ W_lw cI lw lw_told lw_parts lw_hangMasks lw_hangValues lw_ownSeats) ok_X5_formOf ml_X4_61 (c_X5_formOf (gl Γ) (gD Γ) cI cZ   x1_7 x2_8 _ hm) (by decide) (by decide) rfl (Nat.le_of_ble_eq_true rfl) rfl rfl rfl rfl (by decide) rfl (fun _ => rfl) rfl dX4_look_47 ?_
        rintro r_10 _ hm
        refine x_callSi hC _ [] [0, 1, 2, 3, 4, 5, 6, 7, 8, 9, 10, 11] [0, 1, 2, 3, 4, 5, 6, 7, 8, 9, 10, 11] (W_sg cI sg (lw 0) sg_ownVotes sg_votes_2 sg_rows_3 sg_groups sg_bars sg_now_4 sg_forced_5 sg_barred_6 sg_mayActs sg_mayEnds sg_mays ++ W_lw cI lw lw_told lw_parts lw_hangMasks lw_hangValues lw_ownSeats) (fun _ => W_sg cI sg (lw 0) sg_ownVotes sg_votes_2 sg_rows_3 sg_groups sg_bars sg_now_4 sg_forced_5 sg_barred_6 sg_mayActs sg_mayEnds sg_mays ++ W_lw cI lw lw_told lw_parts lw_hangMasks lw_hangValues lw_ownSeats) ok_X2_rowOf ml_X4_66 (c_X2_rowOf (gl Γ) (gD Γ) cI cZ   x2_8 r_10 _ hm) (by decide) (by decide) rfl (Nat.le_of_ble_eq_true rfl) rfl rfl rfl rfl (by decide) rfl (fun _ => rfl) rfl dX4_look_50 ?_
        rintro r_11 _ hm
        refine x_iastN hC 3 rfl hm.1 (fun sg_rows_12 => W_sg cI sg (lw 0) sg_ownVotes sg_votes_2 sg_rows_12 sg_groups sg_bars sg_now_4 sg_forced_5 sg_barred_6 sg_mayActs sg_mayEnds sg_mays ++ W_lw cI lw lw_told lw_parts lw_hangMasks lw_hangValues lw_ownSeats) (fun _ => rfl) dX4_look_53 (fun sg_rows_12 esg_rows_12 => ?_)
        replace hm := hm.2 sg_rows_12 esg_rows_12
        refine x_aload_n hC 0 dX4_look_54 rfl ?_
        refine x_get hC 2 inX4g 0 rfl rfl 0 (by decide) fl_X4_29 rfl dX4_look_55 ?_
        refine x_iload_n hC 1 dX4_look_58 rfl ?_
        refine x_iload_n hC 2 dX4_look_59 rfl ?_
        refine x_callVi hC _ [6, 7, 8, 9, 10, 11] [0, 1, 2, 3, 4, 5] [0, 1, 2, 3, 4, 5, 6, 7, 8, 9, 10, 11] (W_sg cI sg (lw 0) sg_ownVotes sg_votes_2 sg_rows_12 sg_groups sg_bars sg_now_4 sg_forced_5 sg_barred_6 sg_mayActs sg_mayEnds sg_mays) (fun _ => W_sg cI sg (lw 0) sg_ownVotes sg_votes_2 sg_rows_12 sg_groups sg_bars sg_now_4 sg_forced_5 sg_barred_6 sg_mayActs sg_mayEnds sg_mays ++ W_lw cI lw lw_told lw_parts lw_hangMasks lw_hangValues lw_ownSeats) ok_X2_inForce ml_X4_69 0 0 (c_X2_inForce (gl Γ) (gD Γ) cI cZ lw lw_told lw_parts lw_hangMasks lw_hangValues lw_ownSeats x1_7 x2_8 _ hm) (by decide) (by decide) rfl (Nat.le_of_ble_eq_true rfl) rfl rfl rfl rfl (by decide) rfl (fun _ => rfl) rfl rfl rfl rfl dX4_look_60 ?_
        rintro r_13 _ hm
        refine x_if_eq hC 88 dX4_look_63 (by decide) (fun c_14 => ?_) (fun c_14 => ?_)
        · replace hm := hm.1 c_14
          obtain ⟨x2_15, ex2_15⟩ : ∃ y : Int32, y = x2_8 + (1 : Int32) := ⟨_, rfl⟩
          replace hm := hm x2_15 ex2_15
          refine x_iinc hC 2 x2_15 [(0, .ref (sg 0)), (1, .int x1_7), (2, .int x2_15)] [1, 2, 0] dX4_look_88 rfl (by rw [ex2_15]; rfl) (by decide) rfl ?_
          refine x_goto hC 34 dX4_look_91 (by decide) ?_
          exact ih sg_votes_2 sg_rows_12 sg_now_4 sg_forced_5 sg_barred_6 x1_7 x2_15 hm
        · replace hm := hm.2 c_14
          refine x_aload_n hC 0 dX4_look_66 rfl ?_
          refine x_dup hC dX4_look_67 rfl ?_
          refine x_get hC 2 inX4g 0 rfl rfl 7 (by decide) fl_X4_49 rfl dX4_look_68 ?_
          refine x_iconst hC (1 : Int32) dX4_look_71 (by decide) ?_
          refine x_iload_n hC 2 dX4_look_72 rfl ?_
          refine x_ishl hC dX4_look_73 ?_
          refine x_ior hC dX4_look_74 ?_
          refine x_top (fun v_16 ev_16 => ?_)
          replace hm := hm v_16 ev_16
          refine x_put hC 2 tyX4_ok nmX4 inX4g 0 rfl rfl 7 (by decide) fl_X4_49 rfl (ty := .int) (by decide +kernel) rfl rfl (Nat.le_of_ble_eq_true rfl) (W_sg cI sg (lw 0) sg_ownVotes sg_votes_2 sg_rows_12 sg_groups sg_bars sg_now_4 v_16 sg_barred_6 sg_mayActs sg_mayEnds sg_mays ++ W_lw cI lw lw_told lw_parts lw_hangMasks lw_hangValues lw_ownSeats) rfl dX4_look_75 ?_
          refine x_aload_n hC 0 dX4_look_78 rfl ?_
          refine x_aload_n hC 0 dX4_look_79 rfl ?_
          refine x_get hC 2 inX4g 0 rfl rfl 3 (by decide) fl_X4_18 rfl dX4_look_80 ?_
          refine x_iload_n hC 2 dX4_look_83 rfl ?_
          refine x_iald hC 3 rfl hm.1 dX4_look_84 ?_
          replace hm := hm.2
          refine x_callVv hC _ [0, 1, 2, 3, 4, 5, 6, 7, 8, 9, 10, 11] [] [0, 1, 2, 3, 4, 5, 6, 7, 8, 9, 10, 11] (([] : va_W)) (fun u => W_sg cI sg (lw 0) sg_ownVotes (u.1) sg_rows_12 sg_groups sg_bars sg_now_4 v_16 (u.2) sg_mayActs sg_mayEnds sg_mays ++ W_lw cI lw lw_told lw_parts lw_hangMasks lw_hangValues lw_ownSeats) ok_X4_heed ml_X4_73 0 2 (c_X4_heed (gl Γ) (gD Γ) cI cZ sg lw sg_ownVotes sg_votes_2 sg_rows_12 sg_groups sg_bars sg_now_4 v_16 sg_barred_6 sg_mayActs sg_mayEnds sg_mays lw_told lw_parts lw_hangMasks lw_hangValues lw_ownSeats (sg_rows_12 x2_8.toNatClampNeg) _ hm) (by decide) (by decide) rfl (Nat.le_of_ble_eq_true rfl) rfl rfl rfl rfl (by decide) rfl (fun _ => rfl) rfl rfl rfl rfl dX4_look_85 ?_
          rintro ⟨sg_votes_17, sg_barred_18⟩ hm
          obtain ⟨x2_19, ex2_19⟩ : ∃ y : Int32, y = x2_8 + (1 : Int32) := ⟨_, rfl⟩
          replace hm := hm x2_19 ex2_19
          refine x_iinc hC 2 x2_19 [(0, .ref (sg 0)), (1, .int x1_7), (2, .int x2_19)] [1, 2, 0] dX4_look_88 rfl (by rw [ex2_19]; rfl) (by decide) rfl ?_
          refine x_goto hC 34 dX4_look_91 (by decide) ?_
          exact ih sg_votes_17 sg_rows_12 sg_now_4 v_16 sg_barred_18 x1_7 x2_19 hm
  unfold wp_X4_look at hm
  refine x_aload_n hC 0 dX4_look_0 rfl ?_
  refine x_iload_n hC 1 dX4_look_1 rfl ?_
  refine x_put hC 2 tyX4_ok nmX4 inX4g 0 rfl rfl 6 (by decide) fl_X4_46 rfl (ty := .int) (by decide +kernel) rfl rfl (Nat.le_of_ble_eq_true rfl) (W_sg cI sg (lw 0) sg_ownVotes sg_votes sg_rows sg_groups sg_bars p0 sg_forced sg_barred sg_mayActs sg_mayEnds sg_mays ++ W_lw cI lw lw_told lw_parts lw_hangMasks lw_hangValues lw_ownSeats) rfl dX4_look_2 ?_
  refine x_aload_n hC 0 dX4_look_5 rfl ?_
  refine x_iconst hC (0 : Int32) dX4_look_6 (by decide) ?_
  refine x_put hC 2 tyX4_ok nmX4 inX4g 0 rfl rfl 7 (by decide) fl_X4_49 rfl (ty := .int) (by decide +kernel) rfl rfl (Nat.le_of_ble_eq_true rfl) (W_sg cI sg (lw 0) sg_ownVotes sg_votes sg_rows sg_groups sg_bars p0 ((0 : Int32)) sg_barred sg_mayActs sg_mayEnds sg_mays ++ W_lw cI lw lw_told lw_parts lw_hangMasks lw_hangValues lw_ownSeats) rfl dX4_look_7 ?_
  refine x_aload_n hC 0 dX4_look_10 rfl ?_
  refine x_aload_n hC 0 dX4_look_11 rfl ?_
  refine x_get hC 2 inX4g 0 rfl rfl 5 (by decide) fl_X4_37 rfl dX4_look_12 ?_
  refine x_put hC 2 tyX4_ok nmX4 inX4g 0 rfl rfl 8 (by decide) fl_X4_52 rfl (ty := .int) (by decide +kernel) rfl rfl (Nat.le_of_ble_eq_true rfl) (W_sg cI sg (lw 0) sg_ownVotes sg_votes sg_rows sg_groups sg_bars p0 ((0 : Int32)) sg_bars sg_mayActs sg_mayEnds sg_mays ++ W_lw cI lw lw_told lw_parts lw_hangMasks lw_hangValues lw_ownSeats) rfl dX4_look_15 ?_
  refine x_aload_n hC 0 dX4_look_18 rfl ?_
  refine x_get hC 2 inX4g 0 rfl rfl 1 (by decide) fl_X4_9 rfl dX4_look_19 ?_
  refine x_iconst hC (0 : Int32) dX4_look_22 (by decide) ?_
  refine x_aload_n hC 0 dX4_look_23 rfl ?_
  refine x_get hC 2 inX4g 0 rfl rfl 2 (by decide) fl_X4_15 rfl dX4_look_24 ?_
  refine x_iconst hC (0 : Int32) dX4_look_27 (by decide) ?_
  refine x_iconst hC (3 : Int32) dX4_look_28 (by decide) ?_
  refine x_copy hC 1 2 rfl rfl (fun sg_votes_1 => W_sg cI sg (lw 0) sg_ownVotes sg_votes_1 sg_rows sg_groups sg_bars p0 ((0 : Int32)) sg_bars sg_mayActs sg_mayEnds sg_mays ++ W_lw cI lw lw_told lw_parts lw_hangMasks lw_hangValues lw_ownSeats) (fun _ => rfl) dX4_look_29 (fun sg_votes_1 esg_votes_1 => ?_)
  replace hm := hm sg_votes_1 esg_votes_1
  refine x_iconst hC (0 : Int32) dX4_look_32 (by decide) ?_
  refine x_istore_n hC [(0, .ref (sg 0)), (1, .int p0), (2, .int ((0 : Int32)))] [1, 2, 0] dX4_look_33 (by decide) rfl ?_
  obtain ⟨n_20, hm⟩ := hm
  exact B_34  n_20 sg_votes_1 sg_rows p0 ((0 : Int32)) sg_bars p0 ((0 : Int32)) hm

def wp_X4_votesIn (sg_votes : Nat → Int32) (p0 : Int32) (post : Int32 → Prop) : Prop := (p0 < 0 → post ((0 : Int32)) ) ∧ (¬ p0 < 0 → (p0 < ((3 : Int32)) → vp_in p0 3 ∧ (post (sg_votes p0.toNatClampNeg) )) ∧ (¬ p0 < ((3 : Int32)) → post ((0 : Int32)) ))
set_option maxHeartbeats 4000000 in
set_option maxRecDepth 100000 in
theorem c_X4_votesIn (l : Launch) (D : va_G) (cI cZ : ClassId) (sg : Nat → Nat) (lw : Nat → Nat) (sg_ownVotes : Nat → Int32) (sg_votes : Nat → Int32) (sg_rows : Nat → Int32) (sg_groups : Int32) (sg_bars : Int32) (sg_now : Int32) (sg_forced : Int32) (sg_barred : Int32) (sg_mayActs : Nat → Int32) (sg_mayEnds : Nat → Int32) (sg_mays : Int32) (lw_told : Nat → Int32) (lw_parts : Nat → Int32) (lw_hangMasks : Nat → Int32) (lw_hangValues : Nat → Int32) (lw_ownSeats : Nat → Int32) (p0 : Int32) (post : Int32 → Prop) (hm : wp_X4_votesIn sg_votes p0 post) : Mi l D cI cZ yX4_votesIn cX4_votesIn 2 .int 0 0 [.ref (sg 0), .int p0] (W_sg cI sg (lw 0) sg_ownVotes sg_votes sg_rows sg_groups sg_bars sg_now sg_forced sg_barred sg_mayActs sg_mayEnds sg_mays ++ W_lw cI lw lw_told lw_parts lw_hangMasks lw_hangValues lw_ownSeats) (S := Unit) (fun _ => W_sg cI sg (lw 0) sg_ownVotes sg_votes sg_rows sg_groups sg_bars sg_now sg_forced sg_barred sg_mayActs sg_mayEnds sg_mays ++ W_lw cI lw lw_told lw_parts lw_hangMasks lw_hangValues lw_ownSeats) (fun r _ => post r ) := by
  refine mk_Mi (by decide +kernel) (Nat.le_of_ble_eq_true rfl) ?_
  intro Γ hl0 hD0 hC hR
  subst hl0
  subst hD0
  have hC : CX Γ cI cZ cX4_votesIn RX4 2 0 0 := hC
  show VV Γ (W_sg cI sg (lw 0) sg_ownVotes sg_votes sg_rows sg_groups sg_bars sg_now sg_forced sg_barred sg_mayActs sg_mayEnds sg_mays ++ W_lw cI lw lw_told lw_parts lw_hangMasks lw_hangValues lw_ownSeats) [(0, .ref (sg 0)), (1, .int p0)] 0 []
  unfold wp_X4_votesIn at hm
  refine x_iload_n hC 1 dX4_votesIn_0 rfl ?_
  refine x_if_lt hC 9 dX4_votesIn_1 (by decide) (fun c_1 => ?_) (fun c_1 => ?_)
  · replace hm := hm.1 c_1
    refine x_iconst hC (0 : Int32) dX4_votesIn_9 (by decide) ?_
    refine x_goto hC 19 dX4_votesIn_10 (by decide) ?_
    exact hR ((0 : Int32)) () [(0, .ref (sg 0)), (1, .int p0)] 19 hm rfl dX4_votesIn_19
  · replace hm := hm.2 c_1
    refine x_iload_n hC 1 dX4_votesIn_4 rfl ?_
    refine x_iconst hC (3 : Int32) dX4_votesIn_5 (by decide) ?_
    refine x_icmp_lt hC 13 dX4_votesIn_6 (by decide) (fun c_2 => ?_) (fun c_2 => ?_)
    · replace hm := hm.1 c_2
      refine x_aload_n hC 0 dX4_votesIn_13 rfl ?_
      refine x_get hC 2 inX4g 0 rfl rfl 2 (by decide) fl_X4_15 rfl dX4_votesIn_14 ?_
      refine x_iload_n hC 1 dX4_votesIn_17 rfl ?_
      refine x_iald hC 2 rfl hm.1 dX4_votesIn_18 ?_
      replace hm := hm.2
      exact hR (sg_votes p0.toNatClampNeg) () [(0, .ref (sg 0)), (1, .int p0)] 19 hm rfl dX4_votesIn_19
    · replace hm := hm.2 c_2
      refine x_iconst hC (0 : Int32) dX4_votesIn_9 (by decide) ?_
      refine x_goto hC 19 dX4_votesIn_10 (by decide) ?_
      exact hR ((0 : Int32)) () [(0, .ref (sg 0)), (1, .int p0)] 19 hm rfl dX4_votesIn_19

def wpJ_X4_whyNot_125 (sg_votes : Nat → Int32) (sg_rows : Nat → Int32) (sg_now : Int32) (sg_forced : Int32) (sg_barred : Int32) (lw_told : Nat → Int32) (lw_parts : Nat → Int32)  (post : Int32 → Prop) (x1_16 : Int32) : Prop := wp_X4_after sg_rows sg_now lw_parts x1_16 (fun (r_17 : Int32) => (¬ r_17 = sg_now → post ((0 : Int32)) ) ∧ (r_17 = sg_now → post ((5 : Int32)) ))
def wp_X4_whyNot (sg_votes : Nat → Int32) (sg_rows : Nat → Int32) (sg_now : Int32) (sg_forced : Int32) (sg_barred : Int32) (lw_told : Nat → Int32) (lw_parts : Nat → Int32) (p0 : Int32) (post : Int32 → Prop) : Prop := wp_X0_clauseOf  p0 (fun (r_1 : Int32) => wp_X7_isClause  r_1 (fun (r_2 : Int32) => (¬ r_2 = 0 → vp_in r_1 5 ∧ (∀ x3_4 : Int32, x3_4 = sg_rows r_1.toNatClampNeg → wp_X2_part lw_parts (x3_4 + ((0 : Int32))) (fun (r_5 : Int32) => wp_X2_part lw_parts (x3_4 + ((3 : Int32))) (fun (r_6 : Int32) => wp_X0_formOf  p0 (fun (r_7 : Int32) => wp_X4_gives lw_told r_5 r_6 r_7 (fun (r_8 : Int32) => (¬ r_8 = 0 → (¬ ((sg_forced >>> (r_1 &&& 31)) &&& ((1 : Int32))) = 0 → wp_X2_part lw_parts (x3_4 + ((1 : Int32))) (fun (r_11 : Int32) => wp_X4_votesIn sg_votes r_11 (fun (r_12 : Int32) => wp_X2_part lw_parts (x3_4 + ((2 : Int32))) (fun (r_13 : Int32) => (r_13 ≤ r_12 → (r_5 = ((2 : Int32)) → wpJ_X4_whyNot_125 sg_votes sg_rows sg_now sg_forced sg_barred lw_told lw_parts  post p0) ∧ (¬ r_5 = ((2 : Int32)) → (¬ ((sg_barred >>> (r_6 &&& 31)) &&& ((1 : Int32))) = ((1 : Int32)) → wpJ_X4_whyNot_125 sg_votes sg_rows sg_now sg_forced sg_barred lw_told lw_parts  post p0) ∧ (((sg_barred >>> (r_6 &&& 31)) &&& ((1 : Int32))) = ((1 : Int32)) → post ((4 : Int32)) ))) ∧ (¬ r_13 ≤ r_12 → post ((3 : Int32)) ))))) ∧ (((sg_forced >>> (r_1 &&& 31)) &&& ((1 : Int32))) = 0 → post ((2 : Int32)) )) ∧ (r_8 = 0 → post ((1 : Int32)) ))))))) ∧ (r_2 = 0 → post ((1 : Int32)) )))
set_option maxHeartbeats 4000000 in
set_option maxRecDepth 100000 in
theorem c_X4_whyNot (l : Launch) (D : va_G) (cI cZ : ClassId) (sg : Nat → Nat) (lw : Nat → Nat) (sg_ownVotes : Nat → Int32) (sg_votes : Nat → Int32) (sg_rows : Nat → Int32) (sg_groups : Int32) (sg_bars : Int32) (sg_now : Int32) (sg_forced : Int32) (sg_barred : Int32) (sg_mayActs : Nat → Int32) (sg_mayEnds : Nat → Int32) (sg_mays : Int32) (lw_told : Nat → Int32) (lw_parts : Nat → Int32) (lw_hangMasks : Nat → Int32) (lw_hangValues : Nat → Int32) (lw_ownSeats : Nat → Int32) (p0 : Int32) (post : Int32 → Prop) (hm : wp_X4_whyNot sg_votes sg_rows sg_now sg_forced sg_barred lw_told lw_parts p0 post) : Mi l D cI cZ yX4_whyNot cX4_whyNot 6 .int 2 47 [.ref (sg 0), .int p0] (W_sg cI sg (lw 0) sg_ownVotes sg_votes sg_rows sg_groups sg_bars sg_now sg_forced sg_barred sg_mayActs sg_mayEnds sg_mays ++ W_lw cI lw lw_told lw_parts lw_hangMasks lw_hangValues lw_ownSeats) (S := Unit) (fun _ => W_sg cI sg (lw 0) sg_ownVotes sg_votes sg_rows sg_groups sg_bars sg_now sg_forced sg_barred sg_mayActs sg_mayEnds sg_mays ++ W_lw cI lw lw_told lw_parts lw_hangMasks lw_hangValues lw_ownSeats) (fun r _ => post r ) := by
  refine mk_Mi (by decide +kernel) (Nat.le_of_ble_eq_true rfl) ?_
  intro Γ hl0 hD0 hC hR
  subst hl0
  subst hD0
  have hC : CX Γ cI cZ cX4_whyNot RX4 6 2 47 := hC
  show VV Γ (W_sg cI sg (lw 0) sg_ownVotes sg_votes sg_rows sg_groups sg_bars sg_now sg_forced sg_barred sg_mayActs sg_mayEnds sg_mays ++ W_lw cI lw lw_told lw_parts lw_hangMasks lw_hangValues lw_ownSeats) [(0, .ref (sg 0)), (1, .int p0)] 0 []
  have B_125 : ∀ (x1_16 : Int32), wpJ_X4_whyNot_125 sg_votes sg_rows sg_now sg_forced sg_barred lw_told lw_parts  post x1_16 → VV Γ (W_sg cI sg (lw 0) sg_ownVotes sg_votes sg_rows sg_groups sg_bars sg_now sg_forced sg_barred sg_mayActs sg_mayEnds sg_mays ++ W_lw cI lw lw_told lw_parts lw_hangMasks lw_hangValues lw_ownSeats) [(0, .ref (sg 0)), (1, .int x1_16)] 125 [] := by
    intro  x1_16 hm
    unfold wpJ_X4_whyNot_125 at hm
    refine x_aload_n hC 0 dX4_whyNot_125 rfl ?_
    refine x_iload_n hC 1 dX4_whyNot_126 rfl ?_
    refine x_callVi hC _ [0, 1, 2, 3, 4, 5, 6, 7, 8, 9, 10, 11] [] [0, 1, 2, 3, 4, 5, 6, 7, 8, 9, 10, 11] (([] : va_W)) (fun _ => W_sg cI sg (lw 0) sg_ownVotes sg_votes sg_rows sg_groups sg_bars sg_now sg_forced sg_barred sg_mayActs sg_mayEnds sg_mays ++ W_lw cI lw lw_told lw_parts lw_hangMasks lw_hangValues lw_ownSeats) ok_X4_after ml_X4_101 0 2 (c_X4_after (gl Γ) (gD Γ) cI cZ sg lw sg_ownVotes sg_votes sg_rows sg_groups sg_bars sg_now sg_forced sg_barred sg_mayActs sg_mayEnds sg_mays lw_told lw_parts lw_hangMasks lw_hangValues lw_ownSeats x1_16 _ hm) (by decide) (by decide) rfl (Nat.le_of_ble_eq_true rfl) rfl rfl rfl rfl (by decide) rfl (fun _ => rfl) rfl rfl rfl rfl dX4_whyNot_127 ?_
    rintro r_17 _ hm
    refine x_aload_n hC 0 dX4_whyNot_130 rfl ?_
    refine x_get hC 2 inX4g 0 rfl rfl 6 (by decide) fl_X4_46 rfl dX4_whyNot_131 ?_
    refine x_icmp_ne hC 141 dX4_whyNot_134 (by decide) (fun c_18 => ?_) (fun c_18 => ?_)
    · replace hm := hm.1 c_18
      refine x_iconst hC (0 : Int32) dX4_whyNot_141 (by decide) ?_
      exact hR ((0 : Int32)) () [(0, .ref (sg 0)), (1, .int x1_16)] 142 hm rfl dX4_whyNot_142
    · replace hm := hm.2 c_18
      refine x_iconst hC (5 : Int32) dX4_whyNot_137 (by decide) ?_
      refine x_goto hC 142 dX4_whyNot_138 (by decide) ?_
      exact hR ((5 : Int32)) () [(0, .ref (sg 0)), (1, .int x1_16)] 142 hm rfl dX4_whyNot_142
  unfold wp_X4_whyNot at hm
  refine x_iload_n hC 1 dX4_whyNot_0 rfl ?_
  refine x_callSi hC _ [] [0, 1, 2, 3, 4, 5, 6, 7, 8, 9, 10, 11] [0, 1, 2, 3, 4, 5, 6, 7, 8, 9, 10, 11] (W_sg cI sg (lw 0) sg_ownVotes sg_votes sg_rows sg_groups sg_bars sg_now sg_forced sg_barred sg_mayActs sg_mayEnds sg_mays ++ W_lw cI lw lw_told lw_parts lw_hangMasks lw_hangValues lw_ownSeats) (fun _ => W_sg cI sg (lw 0) sg_ownVotes sg_votes sg_rows sg_groups sg_bars sg_now sg_forced sg_barred sg_mayActs sg_mayEnds sg_mays ++ W_lw cI lw lw_told lw_parts lw_hangMasks lw_hangValues lw_ownSeats) ok_X0_clauseOf ml_X4_85 (c_X0_clauseOf (gl Γ) (gD Γ) cI cZ   p0 _ hm) (by decide) (by decide) rfl (Nat.le_of_ble_eq_true rfl) rfl rfl rfl rfl (by decide) rfl (fun _ => rfl) rfl dX4_whyNot_1 ?_
  rintro r_1 _ hm
  refine x_istore_n hC [(0, .ref (sg 0)), (1, .int p0), (2, .int r_1)] [1, 2, 0] dX4_whyNot_4 (by decide) rfl ?_
  refine x_iload_n hC 2 dX4_whyNot_5 rfl ?_
  refine x_callNi hC _ [] [0, 1, 2, 3, 4, 5, 6, 7, 8, 9, 10, 11] [0, 1, 2, 3, 4, 5, 6, 7, 8, 9, 10, 11] (W_sg cI sg (lw 0) sg_ownVotes sg_votes sg_rows sg_groups sg_bars sg_now sg_forced sg_barred sg_mayActs sg_mayEnds sg_mays ++ W_lw cI lw lw_told lw_parts lw_hangMasks lw_hangValues lw_ownSeats) (fun _ => W_sg cI sg (lw 0) sg_ownVotes sg_votes sg_rows sg_groups sg_bars sg_now sg_forced sg_barred sg_mayActs sg_mayEnds sg_mays ++ W_lw cI lw lw_told lw_parts lw_hangMasks lw_hangValues lw_ownSeats) ok_X7_isClause RX7 (fun h => h.2.2.1) (c_X7_isClause (gl Γ) (gD Γ) cI cZ   r_1 _ hm) (by decide) (by decide) rfl (Nat.le_of_ble_eq_true rfl) rfl rfl rfl rfl (by decide) rfl (fun _ => rfl) rfl dX4_whyNot_6 ?_
  rintro r_2 _ hm
  refine x_if_ne hC 14 dX4_whyNot_9 (by decide) (fun c_3 => ?_) (fun c_3 => ?_)
  · replace hm := hm.1 c_3
    refine x_aload_n hC 0 dX4_whyNot_14 rfl ?_
    refine x_get hC 2 inX4g 0 rfl rfl 3 (by decide) fl_X4_18 rfl dX4_whyNot_15 ?_
    refine x_iload_n hC 2 dX4_whyNot_18 rfl ?_
    refine x_iald hC 3 rfl hm.1 dX4_whyNot_19 ?_
    replace hm := hm.2
    refine x_top (fun x3_4 ex3_4 => ?_)
    replace hm := hm x3_4 ex3_4
    refine x_istore_n hC [(0, .ref (sg 0)), (1, .int p0), (2, .int r_1), (3, .int x3_4)] [1, 2, 3, 0] dX4_whyNot_20 (by decide) rfl ?_
    refine x_aload_n hC 0 dX4_whyNot_21 rfl ?_
    refine x_get hC 2 inX4g 0 rfl rfl 0 (by decide) fl_X4_29 rfl dX4_whyNot_22 ?_
    refine x_iload_n hC 3 dX4_whyNot_25 rfl ?_
    refine x_iconst hC (0 : Int32) dX4_whyNot_26 (by decide) ?_
    refine x_iadd hC dX4_whyNot_27 ?_
    refine x_callVi hC _ [6, 7, 8, 9, 10, 11] [0, 1, 2, 3, 4, 5] [0, 1, 2, 3, 4, 5, 6, 7, 8, 9, 10, 11] (W_sg cI sg (lw 0) sg_ownVotes sg_votes sg_rows sg_groups sg_bars sg_now sg_forced sg_barred sg_mayActs sg_mayEnds sg_mays) (fun _ => W_sg cI sg (lw 0) sg_ownVotes sg_votes sg_rows sg_groups sg_bars sg_now sg_forced sg_barred sg_mayActs sg_mayEnds sg_mays ++ W_lw cI lw lw_told lw_parts lw_hangMasks lw_hangValues lw_ownSeats) ok_X2_part ml_X4_77 0 0 (c_X2_part (gl Γ) (gD Γ) cI cZ lw lw_told lw_parts lw_hangMasks lw_hangValues lw_ownSeats (x3_4 + ((0 : Int32))) _ hm) (by decide) (by decide) rfl (Nat.le_of_ble_eq_true rfl) rfl rfl rfl rfl (by decide) rfl (fun _ => rfl) rfl rfl rfl rfl dX4_whyNot_28 ?_
    rintro r_5 _ hm
    refine x_istore hC [(0, .ref (sg 0)), (1, .int p0), (2, .int r_1), (3, .int x3_4), (4, .int r_5)] [1, 2, 3, 4, 0] dX4_whyNot_31 (by decide) rfl ?_
    refine x_aload_n hC 0 dX4_whyNot_33 rfl ?_
    refine x_get hC 2 inX4g 0 rfl rfl 0 (by decide) fl_X4_29 rfl dX4_whyNot_34 ?_
    refine x_iload_n hC 3 dX4_whyNot_37 rfl ?_
    refine x_iconst hC (3 : Int32) dX4_whyNot_38 (by decide) ?_
    refine x_iadd hC dX4_whyNot_39 ?_
    refine x_callVi hC _ [6, 7, 8, 9, 10, 11] [0, 1, 2, 3, 4, 5] [0, 1, 2, 3, 4, 5, 6, 7, 8, 9, 10, 11] (W_sg cI sg (lw 0) sg_ownVotes sg_votes sg_rows sg_groups sg_bars sg_now sg_forced sg_barred sg_mayActs sg_mayEnds sg_mays) (fun _ => W_sg cI sg (lw 0) sg_ownVotes sg_votes sg_rows sg_groups sg_bars sg_now sg_forced sg_barred sg_mayActs sg_mayEnds sg_mays ++ W_lw cI lw lw_told lw_parts lw_hangMasks lw_hangValues lw_ownSeats) ok_X2_part ml_X4_77 0 0 (c_X2_part (gl Γ) (gD Γ) cI cZ lw lw_told lw_parts lw_hangMasks lw_hangValues lw_ownSeats (x3_4 + ((3 : Int32))) _ hm) (by decide) (by decide) rfl (Nat.le_of_ble_eq_true rfl) rfl rfl rfl rfl (by decide) rfl (fun _ => rfl) rfl rfl rfl rfl dX4_whyNot_40 ?_
    rintro r_6 _ hm
    refine x_istore hC [(0, .ref (sg 0)), (1, .int p0), (2, .int r_1), (3, .int x3_4), (4, .int r_5), (5, .int r_6)] [1, 2, 3, 4, 5, 0] dX4_whyNot_43 (by decide) rfl ?_
    refine x_aload_n hC 0 dX4_whyNot_45 rfl ?_
    refine x_iload hC 4 dX4_whyNot_46 rfl ?_
    refine x_iload hC 5 dX4_whyNot_48 rfl ?_
    refine x_iload_n hC 1 dX4_whyNot_50 rfl ?_
    refine x_callSi hC _ [] [0, 1, 2, 3, 4, 5, 6, 7, 8, 9, 10, 11] [0, 1, 2, 3, 4, 5, 6, 7, 8, 9, 10, 11] (W_sg cI sg (lw 0) sg_ownVotes sg_votes sg_rows sg_groups sg_bars sg_now sg_forced sg_barred sg_mayActs sg_mayEnds sg_mays ++ W_lw cI lw lw_told lw_parts lw_hangMasks lw_hangValues lw_ownSeats) (fun _ => W_sg cI sg (lw 0) sg_ownVotes sg_votes sg_rows sg_groups sg_bars sg_now sg_forced sg_barred sg_mayActs sg_mayEnds sg_mays ++ W_lw cI lw lw_told lw_parts lw_hangMasks lw_hangValues lw_ownSeats) ok_X0_formOf ml_X4_92 (c_X0_formOf (gl Γ) (gD Γ) cI cZ   p0 _ hm) (by decide) (by decide) rfl (Nat.le_of_ble_eq_true rfl) rfl rfl rfl rfl (by decide) rfl (fun _ => rfl) rfl dX4_whyNot_51 ?_
    rintro r_7 _ hm
    refine x_callVi hC _ [0, 1, 2, 3, 4, 5, 6, 7, 8, 9, 10, 11] [] [0, 1, 2, 3, 4, 5, 6, 7, 8, 9, 10, 11] (([] : va_W)) (fun _ => W_sg cI sg (lw 0) sg_ownVotes sg_votes sg_rows sg_groups sg_bars sg_now sg_forced sg_barred sg_mayActs sg_mayEnds sg_mays ++ W_lw cI lw lw_told lw_parts lw_hangMasks lw_hangValues lw_ownSeats) ok_X4_gives ml_X4_94 0 2 (c_X4_gives (gl Γ) (gD Γ) cI cZ sg lw sg_ownVotes sg_votes sg_rows sg_groups sg_bars sg_now sg_forced sg_barred sg_mayActs sg_mayEnds sg_mays lw_told lw_parts lw_hangMasks lw_hangValues lw_ownSeats r_5 r_6 r_7 _ hm) (by decide) (by decide) rfl (Nat.le_of_ble_eq_true rfl) rfl rfl rfl rfl (by decide) rfl (fun _ => rfl) rfl rfl rfl rfl dX4_whyNot_54 ?_
    rintro r_8 _ hm
    refine x_if_ne hC 62 dX4_whyNot_57 (by decide) (fun c_9 => ?_) (fun c_9 => ?_)
    · replace hm := hm.1 c_9
      refine x_aload_n hC 0 dX4_whyNot_62 rfl ?_
      refine x_get hC 2 inX4g 0 rfl rfl 7 (by decide) fl_X4_49 rfl dX4_whyNot_63 ?_
      refine x_iload_n hC 2 dX4_whyNot_66 rfl ?_
      refine x_ishr hC dX4_whyNot_67 ?_
      refine x_iconst hC (1 : Int32) dX4_whyNot_68 (by decide) ?_
      refine x_iand hC dX4_whyNot_69 ?_
      refine x_if_ne hC 75 dX4_whyNot_70 (by decide) (fun c_10 => ?_) (fun c_10 => ?_)
      · replace hm := hm.1 c_10
        refine x_aload_n hC 0 dX4_whyNot_75 rfl ?_
        refine x_aload_n hC 0 dX4_whyNot_76 rfl ?_
        refine x_get hC 2 inX4g 0 rfl rfl 0 (by decide) fl_X4_29 rfl dX4_whyNot_77 ?_
        refine x_iload_n hC 3 dX4_whyNot_80 rfl ?_
        refine x_iconst hC (1 : Int32) dX4_whyNot_81 (by decide) ?_
        refine x_iadd hC dX4_whyNot_82 ?_
        refine x_callVi hC _ [6, 7, 8, 9, 10, 11] [0, 1, 2, 3, 4, 5] [0, 1, 2, 3, 4, 5, 6, 7, 8, 9, 10, 11] (W_sg cI sg (lw 0) sg_ownVotes sg_votes sg_rows sg_groups sg_bars sg_now sg_forced sg_barred sg_mayActs sg_mayEnds sg_mays) (fun _ => W_sg cI sg (lw 0) sg_ownVotes sg_votes sg_rows sg_groups sg_bars sg_now sg_forced sg_barred sg_mayActs sg_mayEnds sg_mays ++ W_lw cI lw lw_told lw_parts lw_hangMasks lw_hangValues lw_ownSeats) ok_X2_part ml_X4_77 0 0 (c_X2_part (gl Γ) (gD Γ) cI cZ lw lw_told lw_parts lw_hangMasks lw_hangValues lw_ownSeats (x3_4 + ((1 : Int32))) _ hm) (by decide) (by decide) rfl (Nat.le_of_ble_eq_true rfl) rfl rfl rfl rfl (by decide) rfl (fun _ => rfl) rfl rfl rfl rfl dX4_whyNot_83 ?_
        rintro r_11 _ hm
        refine x_callVi hC _ [0, 1, 2, 3, 4, 5, 6, 7, 8, 9, 10, 11] [] [0, 1, 2, 3, 4, 5, 6, 7, 8, 9, 10, 11] (([] : va_W)) (fun _ => W_sg cI sg (lw 0) sg_ownVotes sg_votes sg_rows sg_groups sg_bars sg_now sg_forced sg_barred sg_mayActs sg_mayEnds sg_mays ++ W_lw cI lw lw_told lw_parts lw_hangMasks lw_hangValues lw_ownSeats) ok_X4_votesIn ml_X4_98 0 2 (c_X4_votesIn (gl Γ) (gD Γ) cI cZ sg lw sg_ownVotes sg_votes sg_rows sg_groups sg_bars sg_now sg_forced sg_barred sg_mayActs sg_mayEnds sg_mays lw_told lw_parts lw_hangMasks lw_hangValues lw_ownSeats r_11 _ hm) (by decide) (by decide) rfl (Nat.le_of_ble_eq_true rfl) rfl rfl rfl rfl (by decide) rfl (fun _ => rfl) rfl rfl rfl rfl dX4_whyNot_86 ?_
        rintro r_12 _ hm
        refine x_aload_n hC 0 dX4_whyNot_89 rfl ?_
        refine x_get hC 2 inX4g 0 rfl rfl 0 (by decide) fl_X4_29 rfl dX4_whyNot_90 ?_
        refine x_iload_n hC 3 dX4_whyNot_93 rfl ?_
        refine x_iconst hC (2 : Int32) dX4_whyNot_94 (by decide) ?_
        refine x_iadd hC dX4_whyNot_95 ?_
        refine x_callVi hC _ [6, 7, 8, 9, 10, 11] [0, 1, 2, 3, 4, 5] [0, 1, 2, 3, 4, 5, 6, 7, 8, 9, 10, 11] (W_sg cI sg (lw 0) sg_ownVotes sg_votes sg_rows sg_groups sg_bars sg_now sg_forced sg_barred sg_mayActs sg_mayEnds sg_mays) (fun _ => W_sg cI sg (lw 0) sg_ownVotes sg_votes sg_rows sg_groups sg_bars sg_now sg_forced sg_barred sg_mayActs sg_mayEnds sg_mays ++ W_lw cI lw lw_told lw_parts lw_hangMasks lw_hangValues lw_ownSeats) ok_X2_part ml_X4_77 0 0 (c_X2_part (gl Γ) (gD Γ) cI cZ lw lw_told lw_parts lw_hangMasks lw_hangValues lw_ownSeats (x3_4 + ((2 : Int32))) _ hm) (by decide) (by decide) rfl (Nat.le_of_ble_eq_true rfl) rfl rfl rfl rfl (by decide) rfl (fun _ => rfl) rfl rfl rfl rfl dX4_whyNot_96 ?_
        rintro r_13 _ hm
        refine x_icmp_ge hC 104 dX4_whyNot_99 (by decide) (fun c_14 => ?_) (fun c_14 => ?_)
        · replace hm := hm.1 c_14
          refine x_iload hC 4 dX4_whyNot_104 rfl ?_
          refine x_iconst hC (2 : Int32) dX4_whyNot_106 (by decide) ?_
          refine x_icmp_eq hC 125 dX4_whyNot_107 (by decide) (fun c_15 => ?_) (fun c_15 => ?_)
          · replace hm := hm.1 c_15
            refine x_lsub [0, 1] rfl ?_
            exact B_125   p0 hm
          · replace hm := hm.2 c_15
            refine x_aload_n hC 0 dX4_whyNot_110 rfl ?_
            refine x_get hC 2 inX4g 0 rfl rfl 8 (by decide) fl_X4_52 rfl dX4_whyNot_111 ?_
            refine x_iload hC 5 dX4_whyNot_114 rfl ?_
            refine x_ishr hC dX4_whyNot_116 ?_
            refine x_iconst hC (1 : Int32) dX4_whyNot_117 (by decide) ?_
            refine x_iand hC dX4_whyNot_118 ?_
            refine x_iconst hC (1 : Int32) dX4_whyNot_119 (by decide) ?_
            refine x_icmp_ne hC 125 dX4_whyNot_120 (by decide) (fun c_19 => ?_) (fun c_19 => ?_)
            · replace hm := hm.1 c_19
              refine x_lsub [0, 1] rfl ?_
              exact B_125   p0 hm
            · replace hm := hm.2 c_19
              refine x_iconst hC (4 : Int32) dX4_whyNot_123 (by decide) ?_
              exact hR ((4 : Int32)) () [(0, .ref (sg 0)), (1, .int p0), (2, .int r_1), (3, .int x3_4), (4, .int r_5), (5, .int r_6)] 124 hm rfl dX4_whyNot_124
        · replace hm := hm.2 c_14
          refine x_iconst hC (3 : Int32) dX4_whyNot_102 (by decide) ?_
          exact hR ((3 : Int32)) () [(0, .ref (sg 0)), (1, .int p0), (2, .int r_1), (3, .int x3_4), (4, .int r_5), (5, .int r_6)] 103 hm rfl dX4_whyNot_103
      · replace hm := hm.2 c_10
        refine x_iconst hC (2 : Int32) dX4_whyNot_73 (by decide) ?_
        exact hR ((2 : Int32)) () [(0, .ref (sg 0)), (1, .int p0), (2, .int r_1), (3, .int x3_4), (4, .int r_5), (5, .int r_6)] 74 hm rfl dX4_whyNot_74
    · replace hm := hm.2 c_9
      refine x_iconst hC (1 : Int32) dX4_whyNot_60 (by decide) ?_
      exact hR ((1 : Int32)) () [(0, .ref (sg 0)), (1, .int p0), (2, .int r_1), (3, .int x3_4), (4, .int r_5), (5, .int r_6)] 61 hm rfl dX4_whyNot_61
  · replace hm := hm.2 c_3
    refine x_iconst hC (1 : Int32) dX4_whyNot_12 (by decide) ?_
    exact hR ((1 : Int32)) () [(0, .ref (sg 0)), (1, .int p0), (2, .int r_1)] 13 hm rfl dX4_whyNot_13

def wpJ_X4_list_43 (sg_ownVotes : Nat → Int32) (sg_groups : Int32) (sg_bars : Int32) (lw_told : Nat → Int32) (lw_parts : Nat → Int32) (lw_hangMasks : Nat → Int32) (lw_hangValues : Nat → Int32) (K_12 : (Nat → Int32) → (Nat → Int32) → Int32 → Int32 → Int32 → (Nat → Int32) → (Nat → Int32) → Int32 → Int32 → Prop) (post : (Nat → Int32) → (Nat → Int32) → Int32 → Int32 → Int32 → (Nat → Int32) → (Nat → Int32) → Int32 → Prop) (sg_votes_19 : Nat → Int32) (sg_rows_20 : Nat → Int32) (sg_now_21 : Int32) (sg_forced_22 : Int32) (sg_barred_23 : Int32) (sg_mayActs_24 : Nat → Int32) (sg_mayEnds_25 : Nat → Int32) (sg_mays_26 : Int32) (x2_27 : Int32) (x3_28 : Int32) (s0_29 : Int32) : Prop := (s0_29 = 0 → ∀ x2_31 : Int32, x2_31 = x2_27 + (1 : Int32) → K_12 sg_votes_19 sg_rows_20 sg_now_21 sg_forced_22 sg_barred_23 sg_mayActs_24 sg_mayEnds_25 sg_mays_26 x2_31) ∧ (¬ s0_29 = 0 → wp_X4_whyNot sg_votes_19 sg_rows_20 sg_now_21 sg_forced_22 sg_barred_23 lw_told lw_parts x3_28 (fun (r_32 : Int32) => (¬ r_32 = 0 → ∀ x2_34 : Int32, x2_34 = x2_27 + (1 : Int32) → K_12 sg_votes_19 sg_rows_20 sg_now_21 sg_forced_22 sg_barred_23 sg_mayActs_24 sg_mayEnds_25 sg_mays_26 x2_34) ∧ (r_32 = 0 → (((20 : Int32)) ≤ sg_mays_26 → ∀ x2_36 : Int32, x2_36 = x2_27 + (1 : Int32) → K_12 sg_votes_19 sg_rows_20 sg_now_21 sg_forced_22 sg_barred_23 sg_mayActs_24 sg_mayEnds_25 sg_mays_26 x2_36) ∧ (¬ ((20 : Int32)) ≤ sg_mays_26 → vp_in sg_mays_26 20 ∧ ∀ sg_mayActs_37 : Nat → Int32, sg_mayActs_37 = upd sg_mayActs_24 sg_mays_26.toNatClampNeg x3_28 → wp_X4_after sg_rows_20 sg_now_21 lw_parts x3_28 (fun (r_38 : Int32) => vp_in sg_mays_26 20 ∧ ∀ sg_mayEnds_39 : Nat → Int32, sg_mayEnds_39 = upd sg_mayEnds_25 sg_mays_26.toNatClampNeg r_38 → ∀ v_40 : Int32, v_40 = sg_mays_26 + ((1 : Int32)) → ∀ x2_41 : Int32, x2_41 = x2_27 + (1 : Int32) → K_12 sg_votes_19 sg_rows_20 sg_now_21 sg_forced_22 sg_barred_23 sg_mayActs_37 sg_mayEnds_39 v_40 x2_41)))))
def wpL_X4_list_12 (sg_ownVotes : Nat → Int32) (sg_groups : Int32) (sg_bars : Int32) (lw_told : Nat → Int32) (lw_parts : Nat → Int32) (lw_hangMasks : Nat → Int32) (lw_hangValues : Nat → Int32)  (post : (Nat → Int32) → (Nat → Int32) → Int32 → Int32 → Int32 → (Nat → Int32) → (Nat → Int32) → Int32 → Prop) : Nat → (Nat → Int32) → (Nat → Int32) → Int32 → Int32 → Int32 → (Nat → Int32) → (Nat → Int32) → Int32 → Int32 → Prop
  | 0, _, _, _, _, _, _, _, _, _ => False
  | n + 1, sg_votes_6, sg_rows_7, sg_now_8, sg_forced_9, sg_barred_10, sg_mayActs_11, sg_mayEnds_12, sg_mays_13, x2_14 => (((20 : Int32)) ≤ x2_14 → post sg_votes_6 sg_rows_7 sg_now_8 sg_forced_9 sg_barred_10 sg_mayActs_11 sg_mayEnds_12 sg_mays_13) ∧ (¬ ((20 : Int32)) ≤ x2_14 → wp_X0_nth  x2_14 (fun (r_16 : Int32) => wp_X0_clauseOf  r_16 (fun (r_17 : Int32) => (¬ ((sg_forced_9 >>> (r_17 &&& 31)) &&& ((1 : Int32))) = ((1 : Int32)) → wpJ_X4_list_43 sg_ownVotes sg_groups sg_bars lw_told lw_parts lw_hangMasks lw_hangValues (fun y0 y1 y2 y3 y4 y5 y6 y7 y8 => wpL_X4_list_12 sg_ownVotes sg_groups sg_bars lw_told lw_parts lw_hangMasks lw_hangValues  post n y0 y1 y2 y3 y4 y5 y6 y7 y8) post sg_votes_6 sg_rows_7 sg_now_8 sg_forced_9 sg_barred_10 sg_mayActs_11 sg_mayEnds_12 sg_mays_13 x2_14 r_16 ((0 : Int32))) ∧ (((sg_forced_9 >>> (r_17 &&& 31)) &&& ((1 : Int32))) = ((1 : Int32)) → wpJ_X4_list_43 sg_ownVotes sg_groups sg_bars lw_told lw_parts lw_hangMasks lw_hangValues (fun y0 y1 y2 y3 y4 y5 y6 y7 y8 => wpL_X4_list_12 sg_ownVotes sg_groups sg_bars lw_told lw_parts lw_hangMasks lw_hangValues  post n y0 y1 y2 y3 y4 y5 y6 y7 y8) post sg_votes_6 sg_rows_7 sg_now_8 sg_forced_9 sg_barred_10 sg_mayActs_11 sg_mayEnds_12 sg_mays_13 x2_14 r_16 ((1 : Int32))))))
def wp_X4_list (sg_ownVotes : Nat → Int32) (sg_votes : Nat → Int32) (sg_rows : Nat → Int32) (sg_groups : Int32) (sg_bars : Int32) (sg_now : Int32) (sg_forced : Int32) (sg_barred : Int32) (sg_mayActs : Nat → Int32) (sg_mayEnds : Nat → Int32) (sg_mays : Int32) (lw_told : Nat → Int32) (lw_parts : Nat → Int32) (lw_hangMasks : Nat → Int32) (lw_hangValues : Nat → Int32) (p0 : Int32) (post : (Nat → Int32) → (Nat → Int32) → Int32 → Int32 → Int32 → (Nat → Int32) → (Nat → Int32) → Int32 → Prop) : Prop := wp_X4_look sg_ownVotes sg_votes sg_rows sg_groups sg_bars sg_now sg_forced sg_barred lw_parts lw_hangMasks lw_hangValues p0 (fun (sg_votes_1 : Nat → Int32) (sg_rows_2 : Nat → Int32) (sg_now_3 : Int32) (sg_forced_4 : Int32) (sg_barred_5 : Int32) => ∃ k12, wpL_X4_list_12 sg_ownVotes sg_groups sg_bars lw_told lw_parts lw_hangMasks lw_hangValues  post k12 sg_votes_1 sg_rows_2 sg_now_3 sg_forced_4 sg_barred_5 sg_mayActs sg_mayEnds ((0 : Int32)) ((0 : Int32)))
set_option maxHeartbeats 4000000 in
set_option maxRecDepth 100000 in
theorem c_X4_list (l : Launch) (D : va_G) (cI cZ : ClassId) (sg : Nat → Nat) (lw : Nat → Nat) (sg_ownVotes : Nat → Int32) (sg_votes : Nat → Int32) (sg_rows : Nat → Int32) (sg_groups : Int32) (sg_bars : Int32) (sg_now : Int32) (sg_forced : Int32) (sg_barred : Int32) (sg_mayActs : Nat → Int32) (sg_mayEnds : Nat → Int32) (sg_mays : Int32) (lw_told : Nat → Int32) (lw_parts : Nat → Int32) (lw_hangMasks : Nat → Int32) (lw_hangValues : Nat → Int32) (lw_ownSeats : Nat → Int32) (p0 : Int32) (post : (Nat → Int32) → (Nat → Int32) → Int32 → Int32 → Int32 → (Nat → Int32) → (Nat → Int32) → Int32 → Prop) (hm : wp_X4_list sg_ownVotes sg_votes sg_rows sg_groups sg_bars sg_now sg_forced sg_barred sg_mayActs sg_mayEnds sg_mays lw_told lw_parts lw_hangMasks lw_hangValues p0 post) : Mv l D cI cZ yX4_list cX4_list 5 3 72 [.ref (sg 0), .int p0] (W_sg cI sg (lw 0) sg_ownVotes sg_votes sg_rows sg_groups sg_bars sg_now sg_forced sg_barred sg_mayActs sg_mayEnds sg_mays ++ W_lw cI lw lw_told lw_parts lw_hangMasks lw_hangValues lw_ownSeats) (S := (Nat → Int32) × (Nat → Int32) × Int32 × Int32 × Int32 × (Nat → Int32) × (Nat → Int32) × Int32) (fun u => W_sg cI sg (lw 0) sg_ownVotes (u.1) (u.2.1) sg_groups sg_bars (u.2.2.1) (u.2.2.2.1) (u.2.2.2.2.1) (u.2.2.2.2.2.1) (u.2.2.2.2.2.2.1) (u.2.2.2.2.2.2.2) ++ W_lw cI lw lw_told lw_parts lw_hangMasks lw_hangValues lw_ownSeats) (fun u => post u.1 u.2.1 u.2.2.1 u.2.2.2.1 u.2.2.2.2.1 u.2.2.2.2.2.1 u.2.2.2.2.2.2.1 u.2.2.2.2.2.2.2) := by
  refine mk_Mv (by decide +kernel) (Nat.le_of_ble_eq_true rfl) ?_
  intro Γ hl0 hD0 hC hR
  subst hl0
  subst hD0
  have hC : CX Γ cI cZ cX4_list RX4 5 3 72 := hC
  show VV Γ (W_sg cI sg (lw 0) sg_ownVotes sg_votes sg_rows sg_groups sg_bars sg_now sg_forced sg_barred sg_mayActs sg_mayEnds sg_mays ++ W_lw cI lw lw_told lw_parts lw_hangMasks lw_hangValues lw_ownSeats) [(0, .ref (sg 0)), (1, .int p0)] 0 []
  have B_43 : ∀ (K_12 : (Nat → Int32) → (Nat → Int32) → Int32 → Int32 → Int32 → (Nat → Int32) → (Nat → Int32) → Int32 → Int32 → Prop) (hK_12 : ∀ (sg_votes_6 : Nat → Int32) (sg_rows_7 : Nat → Int32) (sg_now_8 : Int32) (sg_forced_9 : Int32) (sg_barred_10 : Int32) (sg_mayActs_11 : Nat → Int32) (sg_mayEnds_12 : Nat → Int32) (sg_mays_13 : Int32) (x2_14 : Int32), K_12 sg_votes_6 sg_rows_7 sg_now_8 sg_forced_9 sg_barred_10 sg_mayActs_11 sg_mayEnds_12 sg_mays_13 x2_14 → VV Γ (W_sg cI sg (lw 0) sg_ownVotes sg_votes_6 sg_rows_7 sg_groups sg_bars sg_now_8 sg_forced_9 sg_barred_10 sg_mayActs_11 sg_mayEnds_12 sg_mays_13 ++ W_lw cI lw lw_told lw_parts lw_hangMasks lw_hangValues lw_ownSeats) [(0, .ref (sg 0)), (2, .int x2_14)] 12 []) (sg_votes_19 : Nat → Int32) (sg_rows_20 : Nat → Int32) (sg_now_21 : Int32) (sg_forced_22 : Int32) (sg_barred_23 : Int32) (sg_mayActs_24 : Nat → Int32) (sg_mayEnds_25 : Nat → Int32) (sg_mays_26 : Int32) (x2_27 : Int32) (x3_28 : Int32) (s0_29 : Int32), wpJ_X4_list_43 sg_ownVotes sg_groups sg_bars lw_told lw_parts lw_hangMasks lw_hangValues K_12 post sg_votes_19 sg_rows_20 sg_now_21 sg_forced_22 sg_barred_23 sg_mayActs_24 sg_mayEnds_25 sg_mays_26 x2_27 x3_28 s0_29 → VV Γ (W_sg cI sg (lw 0) sg_ownVotes sg_votes_19 sg_rows_20 sg_groups sg_bars sg_now_21 sg_forced_22 sg_barred_23 sg_mayActs_24 sg_mayEnds_25 sg_mays_26 ++ W_lw cI lw lw_told lw_parts lw_hangMasks lw_hangValues lw_ownSeats) [(0, .ref (sg 0)), (2, .int x2_27), (3, .int x3_28)] 43 [.int s0_29] := by
    intro K_12 hK_12 sg_votes_19 sg_rows_20 sg_now_21 sg_forced_22 sg_barred_23 sg_mayActs_24 sg_mayEnds_25 sg_mays_26 x2_27 x3_28 s0_29 hm
    unfold wpJ_X4_list_43 at hm
    refine x_istore hC [(0, .ref (sg 0)), (2, .int x2_27), (3, .int x3_28), (4, .int s0_29)] [1, 2, 3, 0] dX4_list_43 (by decide) rfl ?_
    refine x_iload hC 3 dX4_list_45 rfl ?_
    refine x_if_eq hC 101 dX4_list_47 (by decide) (fun c_30 => ?_) (fun c_30 => ?_)
    · replace hm := hm.1 c_30
      obtain ⟨x2_31, ex2_31⟩ : ∃ y : Int32, y = x2_27 + (1 : Int32) := ⟨_, rfl⟩
      replace hm := hm x2_31 ex2_31
      refine x_iinc hC 1 x2_31 [(0, .ref (sg 0)), (2, .int x2_31), (3, .int x3_28), (4, .int s0_29)] [1, 0, 2, 3] dX4_list_101 rfl (by rw [ex2_31]; rfl) (by decide) rfl ?_
      refine x_goto hC 12 dX4_list_104 (by decide) ?_
      refine x_lsub [0, 1] rfl ?_
      exact hK_12 sg_votes_19 sg_rows_20 sg_now_21 sg_forced_22 sg_barred_23 sg_mayActs_24 sg_mayEnds_25 sg_mays_26 x2_31 hm
    · replace hm := hm.2 c_30
      refine x_aload_n hC 0 dX4_list_50 rfl ?_
      refine x_iload_n hC 2 dX4_list_51 rfl ?_
      refine x_callVi hC _ [0, 1, 2, 3, 4, 5, 6, 7, 8, 9, 10, 11] [] [0, 1, 2, 3, 4, 5, 6, 7, 8, 9, 10, 11] (([] : va_W)) (fun _ => W_sg cI sg (lw 0) sg_ownVotes sg_votes_19 sg_rows_20 sg_groups sg_bars sg_now_21 sg_forced_22 sg_barred_23 sg_mayActs_24 sg_mayEnds_25 sg_mays_26 ++ W_lw cI lw lw_told lw_parts lw_hangMasks lw_hangValues lw_ownSeats) ok_X4_whyNot ml_X4_123 0 2 (c_X4_whyNot (gl Γ) (gD Γ) cI cZ sg lw sg_ownVotes sg_votes_19 sg_rows_20 sg_groups sg_bars sg_now_21 sg_forced_22 sg_barred_23 sg_mayActs_24 sg_mayEnds_25 sg_mays_26 lw_told lw_parts lw_hangMasks lw_hangValues lw_ownSeats x3_28 _ hm) (by decide) (by decide) rfl (Nat.le_of_ble_eq_true rfl) rfl rfl rfl rfl (by decide) rfl (fun _ => rfl) rfl rfl rfl rfl dX4_list_52 ?_
      rintro r_32 _ hm
      refine x_if_ne hC 101 dX4_list_55 (by decide) (fun c_33 => ?_) (fun c_33 => ?_)
      · replace hm := hm.1 c_33
        obtain ⟨x2_34, ex2_34⟩ : ∃ y : Int32, y = x2_27 + (1 : Int32) := ⟨_, rfl⟩
        replace hm := hm x2_34 ex2_34
        refine x_iinc hC 1 x2_34 [(0, .ref (sg 0)), (2, .int x2_34), (3, .int x3_28), (4, .int s0_29)] [1, 0, 2, 3] dX4_list_101 rfl (by rw [ex2_34]; rfl) (by decide) rfl ?_
        refine x_goto hC 12 dX4_list_104 (by decide) ?_
        refine x_lsub [0, 1] rfl ?_
        exact hK_12 sg_votes_19 sg_rows_20 sg_now_21 sg_forced_22 sg_barred_23 sg_mayActs_24 sg_mayEnds_25 sg_mays_26 x2_34 hm
      · replace hm := hm.2 c_33
        refine x_aload_n hC 0 dX4_list_58 rfl ?_
        refine x_get hC 2 inX4g 0 rfl rfl 11 (by decide) fl_X4_117 rfl dX4_list_59 ?_
        refine x_bipush hC (20 : Int32) dX4_list_62 (by decide) ?_
        refine x_icmp_ge hC 101 dX4_list_64 (by decide) (fun c_35 => ?_) (fun c_35 => ?_)
        · replace hm := hm.1 c_35
          obtain ⟨x2_36, ex2_36⟩ : ∃ y : Int32, y = x2_27 + (1 : Int32) := ⟨_, rfl⟩
          replace hm := hm x2_36 ex2_36
          refine x_iinc hC 1 x2_36 [(0, .ref (sg 0)), (2, .int x2_36), (3, .int x3_28), (4, .int s0_29)] [1, 0, 2, 3] dX4_list_101 rfl (by rw [ex2_36]; rfl) (by decide) rfl ?_
          refine x_goto hC 12 dX4_list_104 (by decide) ?_
          refine x_lsub [0, 1] rfl ?_
          exact hK_12 sg_votes_19 sg_rows_20 sg_now_21 sg_forced_22 sg_barred_23 sg_mayActs_24 sg_mayEnds_25 sg_mays_26 x2_36 hm
        · replace hm := hm.2 c_35
          refine x_aload_n hC 0 dX4_list_67 rfl ?_
          refine x_get hC 2 inX4g 0 rfl rfl 9 (by decide) fl_X4_23 rfl dX4_list_68 ?_
          refine x_aload_n hC 0 dX4_list_71 rfl ?_
          refine x_get hC 2 inX4g 0 rfl rfl 11 (by decide) fl_X4_117 rfl dX4_list_72 ?_
          refine x_iload_n hC 2 dX4_list_75 rfl ?_
          refine x_iastN hC 4 rfl hm.1 (fun sg_mayActs_37 => W_sg cI sg (lw 0) sg_ownVotes sg_votes_19 sg_rows_20 sg_groups sg_bars sg_now_21 sg_forced_22 sg_barred_23 sg_mayActs_37 sg_mayEnds_25 sg_mays_26 ++ W_lw cI lw lw_told lw_parts lw_hangMasks lw_hangValues lw_ownSeats) (fun _ => rfl) dX4_list_76 (fun sg_mayActs_37 esg_mayActs_37 => ?_)
          replace hm := hm.2 sg_mayActs_37 esg_mayActs_37
          refine x_aload_n hC 0 dX4_list_77 rfl ?_
          refine x_get hC 2 inX4g 0 rfl rfl 10 (by decide) fl_X4_26 rfl dX4_list_78 ?_
          refine x_aload_n hC 0 dX4_list_81 rfl ?_
          refine x_get hC 2 inX4g 0 rfl rfl 11 (by decide) fl_X4_117 rfl dX4_list_82 ?_
          refine x_aload_n hC 0 dX4_list_85 rfl ?_
          refine x_iload_n hC 2 dX4_list_86 rfl ?_
          refine x_callVi hC _ [0, 1, 2, 3, 4, 5, 6, 7, 8, 9, 10, 11] [] [0, 1, 2, 3, 4, 5, 6, 7, 8, 9, 10, 11] (([] : va_W)) (fun _ => W_sg cI sg (lw 0) sg_ownVotes sg_votes_19 sg_rows_20 sg_groups sg_bars sg_now_21 sg_forced_22 sg_barred_23 sg_mayActs_37 sg_mayEnds_25 sg_mays_26 ++ W_lw cI lw lw_told lw_parts lw_hangMasks lw_hangValues lw_ownSeats) ok_X4_after ml_X4_101 0 2 (c_X4_after (gl Γ) (gD Γ) cI cZ sg lw sg_ownVotes sg_votes_19 sg_rows_20 sg_groups sg_bars sg_now_21 sg_forced_22 sg_barred_23 sg_mayActs_37 sg_mayEnds_25 sg_mays_26 lw_told lw_parts lw_hangMasks lw_hangValues lw_ownSeats x3_28 _ hm) (by decide) (by decide) rfl (Nat.le_of_ble_eq_true rfl) rfl rfl rfl rfl (by decide) rfl (fun _ => rfl) rfl rfl rfl rfl dX4_list_87 ?_
          rintro r_38 _ hm
          refine x_iastN hC 5 rfl hm.1 (fun sg_mayEnds_39 => W_sg cI sg (lw 0) sg_ownVotes sg_votes_19 sg_rows_20 sg_groups sg_bars sg_now_21 sg_forced_22 sg_barred_23 sg_mayActs_37 sg_mayEnds_39 sg_mays_26 ++ W_lw cI lw lw_told lw_parts lw_hangMasks lw_hangValues lw_ownSeats) (fun _ => rfl) dX4_list_90 (fun sg_mayEnds_39 esg_mayEnds_39 => ?_)
          replace hm := hm.2 sg_mayEnds_39 esg_mayEnds_39
          refine x_aload_n hC 0 dX4_list_91 rfl ?_
          refine x_dup hC dX4_list_92 rfl ?_
          refine x_get hC 2 inX4g 0 rfl rfl 11 (by decide) fl_X4_117 rfl dX4_list_93 ?_
          refine x_iconst hC (1 : Int32) dX4_list_96 (by decide) ?_
          refine x_iadd hC dX4_list_97 ?_
          refine x_top (fun v_40 ev_40 => ?_)
          replace hm := hm v_40 ev_40
          refine x_put hC 2 tyX4_ok nmX4 inX4g 0 rfl rfl 11 (by decide) fl_X4_117 rfl (ty := .int) (by decide +kernel) rfl rfl (Nat.le_of_ble_eq_true rfl) (W_sg cI sg (lw 0) sg_ownVotes sg_votes_19 sg_rows_20 sg_groups sg_bars sg_now_21 sg_forced_22 sg_barred_23 sg_mayActs_37 sg_mayEnds_39 v_40 ++ W_lw cI lw lw_told lw_parts lw_hangMasks lw_hangValues lw_ownSeats) rfl dX4_list_98 ?_
          obtain ⟨x2_41, ex2_41⟩ : ∃ y : Int32, y = x2_27 + (1 : Int32) := ⟨_, rfl⟩
          replace hm := hm x2_41 ex2_41
          refine x_iinc hC 1 x2_41 [(0, .ref (sg 0)), (2, .int x2_41), (3, .int x3_28), (4, .int s0_29)] [1, 0, 2, 3] dX4_list_101 rfl (by rw [ex2_41]; rfl) (by decide) rfl ?_
          refine x_goto hC 12 dX4_list_104 (by decide) ?_
          refine x_lsub [0, 1] rfl ?_
          exact hK_12 sg_votes_19 sg_rows_20 sg_now_21 sg_forced_22 sg_barred_23 sg_mayActs_37 sg_mayEnds_39 v_40 x2_41 hm
  have B_12 : ∀ (n : Nat) (sg_votes_6 : Nat → Int32) (sg_rows_7 : Nat → Int32) (sg_now_8 : Int32) (sg_forced_9 : Int32) (sg_barred_10 : Int32) (sg_mayActs_11 : Nat → Int32) (sg_mayEnds_12 : Nat → Int32) (sg_mays_13 : Int32) (x2_14 : Int32), wpL_X4_list_12 sg_ownVotes sg_groups sg_bars lw_told lw_parts lw_hangMasks lw_hangValues  post n sg_votes_6 sg_rows_7 sg_now_8 sg_forced_9 sg_barred_10 sg_mayActs_11 sg_mayEnds_12 sg_mays_13 x2_14 → VV Γ (W_sg cI sg (lw 0) sg_ownVotes sg_votes_6 sg_rows_7 sg_groups sg_bars sg_now_8 sg_forced_9 sg_barred_10 sg_mayActs_11 sg_mayEnds_12 sg_mays_13 ++ W_lw cI lw lw_told lw_parts lw_hangMasks lw_hangValues lw_ownSeats) [(0, .ref (sg 0)), (2, .int x2_14)] 12 [] := by
    intro  n
    induction n with
    | zero => intro sg_votes_6 sg_rows_7 sg_now_8 sg_forced_9 sg_barred_10 sg_mayActs_11 sg_mayEnds_12 sg_mays_13 x2_14 hm; rw [wpL_X4_list_12] at hm; exact hm.elim
    | succ n ih =>
      intro sg_votes_6 sg_rows_7 sg_now_8 sg_forced_9 sg_barred_10 sg_mayActs_11 sg_mayEnds_12 sg_mays_13 x2_14 hm
      rw [wpL_X4_list_12] at hm
      refine x_iload_n hC 1 dX4_list_12 rfl ?_
      refine x_bipush hC (20 : Int32) dX4_list_13 (by decide) ?_
      refine x_icmp_ge hC 107 dX4_list_15 (by decide) (fun c_15 => ?_) (fun c_15 => ?_)
      · replace hm := hm.1 c_15
        exact hR (sg_votes_6, sg_rows_7, sg_now_8, sg_forced_9, sg_barred_10, sg_mayActs_11, sg_mayEnds_12, sg_mays_13) [(0, .ref (sg 0)), (2, .int x2_14)] 107 hm dX4_list_107
      · replace hm := hm.2 c_15
        refine x_iload_n hC 1 dX4_list_18 rfl ?_
        refine x_callSi hC _ [] [0, 1, 2, 3, 4, 5, 6, 7, 8, 9, 10, 11] [0, 1, 2, 3, 4, 5, 6, 7, 8, 9, 10, 11] (W_sg cI sg (lw 0) sg_ownVotes sg_votes_6 sg_rows_7 sg_groups sg_bars sg_now_8 sg_forced_9 sg_barred_10 sg_mayActs_11 sg_mayEnds_12 sg_mays_13 ++ W_lw cI lw lw_told lw_parts lw_hangMasks lw_hangValues lw_ownSeats) (fun _ => W_sg cI sg (lw 0) sg_ownVotes sg_votes_6 sg_rows_7 sg_groups sg_bars sg_now_8 sg_forced_9 sg_barred_10 sg_mayActs_11 sg_mayEnds_12 sg_mays_13 ++ W_lw cI lw lw_told lw_parts lw_hangMasks lw_hangValues lw_ownSeats) ok_X0_nth ml_X4_120 (c_X0_nth (gl Γ) (gD Γ) cI cZ   x2_14 _ hm) (by decide) (by decide) rfl (Nat.le_of_ble_eq_true rfl) rfl rfl rfl rfl (by decide) rfl (fun _ => rfl) rfl dX4_list_19 ?_
        rintro r_16 _ hm
        refine x_istore_n hC [(0, .ref (sg 0)), (2, .int x2_14), (3, .int r_16)] [1, 2, 0] dX4_list_22 (by decide) rfl ?_
        refine x_aload_n hC 0 dX4_list_23 rfl ?_
        refine x_get hC 2 inX4g 0 rfl rfl 7 (by decide) fl_X4_49 rfl dX4_list_24 ?_
        refine x_iload_n hC 2 dX4_list_27 rfl ?_
        refine x_callSi hC _ [] [0, 1, 2, 3, 4, 5, 6, 7, 8, 9, 10, 11] [0, 1, 2, 3, 4, 5, 6, 7, 8, 9, 10, 11] (W_sg cI sg (lw 0) sg_ownVotes sg_votes_6 sg_rows_7 sg_groups sg_bars sg_now_8 sg_forced_9 sg_barred_10 sg_mayActs_11 sg_mayEnds_12 sg_mays_13 ++ W_lw cI lw lw_told lw_parts lw_hangMasks lw_hangValues lw_ownSeats) (fun _ => W_sg cI sg (lw 0) sg_ownVotes sg_votes_6 sg_rows_7 sg_groups sg_bars sg_now_8 sg_forced_9 sg_barred_10 sg_mayActs_11 sg_mayEnds_12 sg_mays_13 ++ W_lw cI lw lw_told lw_parts lw_hangMasks lw_hangValues lw_ownSeats) ok_X0_clauseOf ml_X4_85 (c_X0_clauseOf (gl Γ) (gD Γ) cI cZ   r_16 _ hm) (by decide) (by decide) rfl (Nat.le_of_ble_eq_true rfl) rfl rfl rfl rfl (by decide) rfl (fun _ => rfl) rfl dX4_list_28 ?_
        rintro r_17 _ hm
        refine x_ishr hC dX4_list_31 ?_
        refine x_iconst hC (1 : Int32) dX4_list_32 (by decide) ?_
        refine x_iand hC dX4_list_33 ?_
        refine x_iconst hC (1 : Int32) dX4_list_34 (by decide) ?_
        refine x_icmp_ne hC 42 dX4_list_35 (by decide) (fun c_18 => ?_) (fun c_18 => ?_)
        · replace hm := hm.1 c_18
          refine x_iconst hC (0 : Int32) dX4_list_42 (by decide) ?_
          exact B_43 (fun y0 y1 y2 y3 y4 y5 y6 y7 y8 => wpL_X4_list_12 sg_ownVotes sg_groups sg_bars lw_told lw_parts lw_hangMasks lw_hangValues  post n y0 y1 y2 y3 y4 y5 y6 y7 y8) ih  sg_votes_6 sg_rows_7 sg_now_8 sg_forced_9 sg_barred_10 sg_mayActs_11 sg_mayEnds_12 sg_mays_13 x2_14 r_16 ((0 : Int32)) hm
        · replace hm := hm.2 c_18
          refine x_iconst hC (1 : Int32) dX4_list_38 (by decide) ?_
          refine x_goto hC 43 dX4_list_39 (by decide) ?_
          exact B_43 (fun y0 y1 y2 y3 y4 y5 y6 y7 y8 => wpL_X4_list_12 sg_ownVotes sg_groups sg_bars lw_told lw_parts lw_hangMasks lw_hangValues  post n y0 y1 y2 y3 y4 y5 y6 y7 y8) ih  sg_votes_6 sg_rows_7 sg_now_8 sg_forced_9 sg_barred_10 sg_mayActs_11 sg_mayEnds_12 sg_mays_13 x2_14 r_16 ((1 : Int32)) hm
  unfold wp_X4_list at hm
  refine x_aload_n hC 0 dX4_list_0 rfl ?_
  refine x_iload_n hC 1 dX4_list_1 rfl ?_
  refine x_callVv hC _ [0, 1, 2, 3, 4, 5, 6, 7, 8, 9, 10, 11] [] [0, 1, 2, 3, 4, 5, 6, 7, 8, 9, 10, 11] (([] : va_W)) (fun u => W_sg cI sg (lw 0) sg_ownVotes (u.1) (u.2.1) sg_groups sg_bars (u.2.2.1) (u.2.2.2.1) (u.2.2.2.2) sg_mayActs sg_mayEnds sg_mays ++ W_lw cI lw lw_told lw_parts lw_hangMasks lw_hangValues lw_ownSeats) ok_X4_look ml_X4_114 0 2 (c_X4_look (gl Γ) (gD Γ) cI cZ sg lw sg_ownVotes sg_votes sg_rows sg_groups sg_bars sg_now sg_forced sg_barred sg_mayActs sg_mayEnds sg_mays lw_told lw_parts lw_hangMasks lw_hangValues lw_ownSeats p0 _ hm) (by decide) (by decide) rfl (Nat.le_of_ble_eq_true rfl) rfl rfl rfl rfl (by decide) rfl (fun _ => rfl) rfl rfl rfl rfl dX4_list_2 ?_
  rintro ⟨sg_votes_1, sg_rows_2, sg_now_3, sg_forced_4, sg_barred_5⟩ hm
  refine x_aload_n hC 0 dX4_list_5 rfl ?_
  refine x_iconst hC (0 : Int32) dX4_list_6 (by decide) ?_
  refine x_put hC 2 tyX4_ok nmX4 inX4g 0 rfl rfl 11 (by decide) fl_X4_117 rfl (ty := .int) (by decide +kernel) rfl rfl (Nat.le_of_ble_eq_true rfl) (W_sg cI sg (lw 0) sg_ownVotes sg_votes_1 sg_rows_2 sg_groups sg_bars sg_now_3 sg_forced_4 sg_barred_5 sg_mayActs sg_mayEnds ((0 : Int32)) ++ W_lw cI lw lw_told lw_parts lw_hangMasks lw_hangValues lw_ownSeats) rfl dX4_list_7 ?_
  refine x_iconst hC (0 : Int32) dX4_list_10 (by decide) ?_
  refine x_istore_n hC [(0, .ref (sg 0)), (1, .int p0), (2, .int ((0 : Int32)))] [1, 2, 0] dX4_list_11 (by decide) rfl ?_
  obtain ⟨n_42, hm⟩ := hm
  refine x_lsub [0, 2] rfl ?_
  exact B_12  n_42 sg_votes_1 sg_rows_2 sg_now_3 sg_forced_4 sg_barred_5 sg_mayActs sg_mayEnds ((0 : Int32)) ((0 : Int32)) hm

def wp_X4_mayComeTo (sg_now : Int32) (sg_mayEnds : Nat → Int32) (sg_mays : Int32) (p0 : Int32) (post : Int32 → Prop) : Prop := (p0 < 0 → post sg_now ) ∧ (¬ p0 < 0 → (sg_mays ≤ p0 → post sg_now ) ∧ (¬ sg_mays ≤ p0 → (p0 < ((20 : Int32)) → vp_in p0 20 ∧ (post (sg_mayEnds p0.toNatClampNeg) )) ∧ (¬ p0 < ((20 : Int32)) → post sg_now )))
set_option maxHeartbeats 4000000 in
set_option maxRecDepth 100000 in
theorem c_X4_mayComeTo (l : Launch) (D : va_G) (cI cZ : ClassId) (sg : Nat → Nat) (lw : Nat → Nat) (sg_ownVotes : Nat → Int32) (sg_votes : Nat → Int32) (sg_rows : Nat → Int32) (sg_groups : Int32) (sg_bars : Int32) (sg_now : Int32) (sg_forced : Int32) (sg_barred : Int32) (sg_mayActs : Nat → Int32) (sg_mayEnds : Nat → Int32) (sg_mays : Int32) (lw_told : Nat → Int32) (lw_parts : Nat → Int32) (lw_hangMasks : Nat → Int32) (lw_hangValues : Nat → Int32) (lw_ownSeats : Nat → Int32) (p0 : Int32) (post : Int32 → Prop) (hm : wp_X4_mayComeTo sg_now sg_mayEnds sg_mays p0 post) : Mi l D cI cZ yX4_mayComeTo cX4_mayComeTo 2 .int 0 0 [.ref (sg 0), .int p0] (W_sg cI sg (lw 0) sg_ownVotes sg_votes sg_rows sg_groups sg_bars sg_now sg_forced sg_barred sg_mayActs sg_mayEnds sg_mays ++ W_lw cI lw lw_told lw_parts lw_hangMasks lw_hangValues lw_ownSeats) (S := Unit) (fun _ => W_sg cI sg (lw 0) sg_ownVotes sg_votes sg_rows sg_groups sg_bars sg_now sg_forced sg_barred sg_mayActs sg_mayEnds sg_mays ++ W_lw cI lw lw_told lw_parts lw_hangMasks lw_hangValues lw_ownSeats) (fun r _ => post r ) := by
  refine mk_Mi (by decide +kernel) (Nat.le_of_ble_eq_true rfl) ?_
  intro Γ hl0 hD0 hC hR
  subst hl0
  subst hD0
  have hC : CX Γ cI cZ cX4_mayComeTo RX4 2 0 0 := hC
  show VV Γ (W_sg cI sg (lw 0) sg_ownVotes sg_votes sg_rows sg_groups sg_bars sg_now sg_forced sg_barred sg_mayActs sg_mayEnds sg_mays ++ W_lw cI lw lw_told lw_parts lw_hangMasks lw_hangValues lw_ownSeats) [(0, .ref (sg 0)), (1, .int p0)] 0 []
  unfold wp_X4_mayComeTo at hm
  refine x_iload_n hC 1 dX4_mayComeTo_0 rfl ?_
  refine x_if_lt hC 18 dX4_mayComeTo_1 (by decide) (fun c_1 => ?_) (fun c_1 => ?_)
  · replace hm := hm.1 c_1
    refine x_aload_n hC 0 dX4_mayComeTo_18 rfl ?_
    refine x_get hC 2 inX4g 0 rfl rfl 6 (by decide) fl_X4_46 rfl dX4_mayComeTo_19 ?_
    refine x_goto hC 31 dX4_mayComeTo_22 (by decide) ?_
    exact hR sg_now () [(0, .ref (sg 0)), (1, .int p0)] 31 hm rfl dX4_mayComeTo_31
  · replace hm := hm.2 c_1
    refine x_iload_n hC 1 dX4_mayComeTo_4 rfl ?_
    refine x_aload_n hC 0 dX4_mayComeTo_5 rfl ?_
    refine x_get hC 2 inX4g 0 rfl rfl 11 (by decide) fl_X4_117 rfl dX4_mayComeTo_6 ?_
    refine x_icmp_ge hC 18 dX4_mayComeTo_9 (by decide) (fun c_2 => ?_) (fun c_2 => ?_)
    · replace hm := hm.1 c_2
      refine x_aload_n hC 0 dX4_mayComeTo_18 rfl ?_
      refine x_get hC 2 inX4g 0 rfl rfl 6 (by decide) fl_X4_46 rfl dX4_mayComeTo_19 ?_
      refine x_goto hC 31 dX4_mayComeTo_22 (by decide) ?_
      exact hR sg_now () [(0, .ref (sg 0)), (1, .int p0)] 31 hm rfl dX4_mayComeTo_31
    · replace hm := hm.2 c_2
      refine x_iload_n hC 1 dX4_mayComeTo_12 rfl ?_
      refine x_bipush hC (20 : Int32) dX4_mayComeTo_13 (by decide) ?_
      refine x_icmp_lt hC 25 dX4_mayComeTo_15 (by decide) (fun c_3 => ?_) (fun c_3 => ?_)
      · replace hm := hm.1 c_3
        refine x_aload_n hC 0 dX4_mayComeTo_25 rfl ?_
        refine x_get hC 2 inX4g 0 rfl rfl 10 (by decide) fl_X4_26 rfl dX4_mayComeTo_26 ?_
        refine x_iload_n hC 1 dX4_mayComeTo_29 rfl ?_
        refine x_iald hC 5 rfl hm.1 dX4_mayComeTo_30 ?_
        replace hm := hm.2
        exact hR (sg_mayEnds p0.toNatClampNeg) () [(0, .ref (sg 0)), (1, .int p0)] 31 hm rfl dX4_mayComeTo_31
      · replace hm := hm.2 c_3
        refine x_aload_n hC 0 dX4_mayComeTo_18 rfl ?_
        refine x_get hC 2 inX4g 0 rfl rfl 6 (by decide) fl_X4_46 rfl dX4_mayComeTo_19 ?_
        refine x_goto hC 31 dX4_mayComeTo_22 (by decide) ?_
        exact hR sg_now () [(0, .ref (sg 0)), (1, .int p0)] 31 hm rfl dX4_mayComeTo_31

def wp_X4_mayDo (sg_mayActs : Nat → Int32) (sg_mays : Int32) (p0 : Int32) (post : Int32 → Prop) : Prop := (p0 < 0 → post ((-9 : Int32)) ) ∧ (¬ p0 < 0 → (sg_mays ≤ p0 → post ((-9 : Int32)) ) ∧ (¬ sg_mays ≤ p0 → (p0 < ((20 : Int32)) → vp_in p0 20 ∧ (post (sg_mayActs p0.toNatClampNeg) )) ∧ (¬ p0 < ((20 : Int32)) → post ((-9 : Int32)) )))
set_option maxHeartbeats 4000000 in
set_option maxRecDepth 100000 in
theorem c_X4_mayDo (l : Launch) (D : va_G) (cI cZ : ClassId) (sg : Nat → Nat) (lw : Nat → Nat) (sg_ownVotes : Nat → Int32) (sg_votes : Nat → Int32) (sg_rows : Nat → Int32) (sg_groups : Int32) (sg_bars : Int32) (sg_now : Int32) (sg_forced : Int32) (sg_barred : Int32) (sg_mayActs : Nat → Int32) (sg_mayEnds : Nat → Int32) (sg_mays : Int32) (lw_told : Nat → Int32) (lw_parts : Nat → Int32) (lw_hangMasks : Nat → Int32) (lw_hangValues : Nat → Int32) (lw_ownSeats : Nat → Int32) (p0 : Int32) (post : Int32 → Prop) (hm : wp_X4_mayDo sg_mayActs sg_mays p0 post) : Mi l D cI cZ yX4_mayDo cX4_mayDo 2 .int 0 0 [.ref (sg 0), .int p0] (W_sg cI sg (lw 0) sg_ownVotes sg_votes sg_rows sg_groups sg_bars sg_now sg_forced sg_barred sg_mayActs sg_mayEnds sg_mays ++ W_lw cI lw lw_told lw_parts lw_hangMasks lw_hangValues lw_ownSeats) (S := Unit) (fun _ => W_sg cI sg (lw 0) sg_ownVotes sg_votes sg_rows sg_groups sg_bars sg_now sg_forced sg_barred sg_mayActs sg_mayEnds sg_mays ++ W_lw cI lw lw_told lw_parts lw_hangMasks lw_hangValues lw_ownSeats) (fun r _ => post r ) := by
  refine mk_Mi (by decide +kernel) (Nat.le_of_ble_eq_true rfl) ?_
  intro Γ hl0 hD0 hC hR
  subst hl0
  subst hD0
  have hC : CX Γ cI cZ cX4_mayDo RX4 2 0 0 := hC
  show VV Γ (W_sg cI sg (lw 0) sg_ownVotes sg_votes sg_rows sg_groups sg_bars sg_now sg_forced sg_barred sg_mayActs sg_mayEnds sg_mays ++ W_lw cI lw lw_told lw_parts lw_hangMasks lw_hangValues lw_ownSeats) [(0, .ref (sg 0)), (1, .int p0)] 0 []
  unfold wp_X4_mayDo at hm
  refine x_iload_n hC 1 dX4_mayDo_0 rfl ?_
  refine x_if_lt hC 18 dX4_mayDo_1 (by decide) (fun c_1 => ?_) (fun c_1 => ?_)
  · replace hm := hm.1 c_1
    refine x_bipush hC (-9 : Int32) dX4_mayDo_18 (by decide) ?_
    refine x_goto hC 29 dX4_mayDo_20 (by decide) ?_
    exact hR ((-9 : Int32)) () [(0, .ref (sg 0)), (1, .int p0)] 29 hm rfl dX4_mayDo_29
  · replace hm := hm.2 c_1
    refine x_iload_n hC 1 dX4_mayDo_4 rfl ?_
    refine x_aload_n hC 0 dX4_mayDo_5 rfl ?_
    refine x_get hC 2 inX4g 0 rfl rfl 11 (by decide) fl_X4_117 rfl dX4_mayDo_6 ?_
    refine x_icmp_ge hC 18 dX4_mayDo_9 (by decide) (fun c_2 => ?_) (fun c_2 => ?_)
    · replace hm := hm.1 c_2
      refine x_bipush hC (-9 : Int32) dX4_mayDo_18 (by decide) ?_
      refine x_goto hC 29 dX4_mayDo_20 (by decide) ?_
      exact hR ((-9 : Int32)) () [(0, .ref (sg 0)), (1, .int p0)] 29 hm rfl dX4_mayDo_29
    · replace hm := hm.2 c_2
      refine x_iload_n hC 1 dX4_mayDo_12 rfl ?_
      refine x_bipush hC (20 : Int32) dX4_mayDo_13 (by decide) ?_
      refine x_icmp_lt hC 23 dX4_mayDo_15 (by decide) (fun c_3 => ?_) (fun c_3 => ?_)
      · replace hm := hm.1 c_3
        refine x_aload_n hC 0 dX4_mayDo_23 rfl ?_
        refine x_get hC 2 inX4g 0 rfl rfl 9 (by decide) fl_X4_23 rfl dX4_mayDo_24 ?_
        refine x_iload_n hC 1 dX4_mayDo_27 rfl ?_
        refine x_iald hC 4 rfl hm.1 dX4_mayDo_28 ?_
        replace hm := hm.2
        exact hR (sg_mayActs p0.toNatClampNeg) () [(0, .ref (sg 0)), (1, .int p0)] 29 hm rfl dX4_mayDo_29
      · replace hm := hm.2 c_3
        refine x_bipush hC (-9 : Int32) dX4_mayDo_18 (by decide) ?_
        refine x_goto hC 29 dX4_mayDo_20 (by decide) ?_
        exact hR ((-9 : Int32)) () [(0, .ref (sg 0)), (1, .int p0)] 29 hm rfl dX4_mayDo_29
