def wp_X8_in  (p0 : Int64) (p1 : Int64) (p2 : Int64) (post : Int32 → Prop) : Prop := ((lg_cmp p0 p1) < 0 → post ((0 : Int32)) ) ∧ (¬ (lg_cmp p0 p1) < 0 → (0 < (lg_cmp p0 p2) → post ((0 : Int32)) ) ∧ (¬ 0 < (lg_cmp p0 p2) → post ((1 : Int32)) ))
set_option maxHeartbeats 4000000 in
set_option maxRecDepth 100000 in
theorem c_X8_in (l : Launch) (D : va_G) (cI cZ : ClassId)   (p0 : Int64) (p1 : Int64) (p2 : Int64) (post : Int32 → Prop) (hm : wp_X8_in  p0 p1 p2 post) : Mi l D cI cZ yX8_in cX8_in 6 .boolean 0 0 [.long p0, .long p1, .long p2] (([] : va_W)) (S := Unit) (fun _ => ([] : va_W)) (fun r _ => post r ) := by
  refine mk_Mi (by decide +kernel) (Nat.le_of_ble_eq_true rfl) ?_
  intro Γ hl0 hD0 hC hR
  subst hl0
  subst hD0
  have hC : CX Γ cI cZ cX8_in RX8 6 0 0 := hC
  show VV Γ (([] : va_W)) [(0, .long p0), (2, .long p1), (4, .long p2)] 0 []
  unfold wp_X8_in at hm
  refine x_lload_n hC 0 dX8_in_0 rfl ?_
  refine x_lload_n hC 1 dX8_in_1 rfl ?_
  refine x_lcmp hC dX8_in_2 ?_
  refine x_if_lt hC 17 dX8_in_3 (by decide) (fun c_1 => ?_) (fun c_1 => ?_)
  · replace hm := hm.1 c_1
    refine x_iconst hC (0 : Int32) dX8_in_17 (by decide) ?_
    exact hR ((0 : Int32)) () [(0, .long p0), (2, .long p1), (4, .long p2)] 18 hm rfl dX8_in_18
  · replace hm := hm.2 c_1
    refine x_lload_n hC 0 dX8_in_6 rfl ?_
    refine x_lload hC 2 dX8_in_7 rfl ?_
    refine x_lcmp hC dX8_in_9 ?_
    refine x_if_gt hC 17 dX8_in_10 (by decide) (fun c_2 => ?_) (fun c_2 => ?_)
    · replace hm := hm.1 c_2
      refine x_iconst hC (0 : Int32) dX8_in_17 (by decide) ?_
      exact hR ((0 : Int32)) () [(0, .long p0), (2, .long p1), (4, .long p2)] 18 hm rfl dX8_in_18
    · replace hm := hm.2 c_2
      refine x_iconst hC (1 : Int32) dX8_in_13 (by decide) ?_
      refine x_goto hC 18 dX8_in_14 (by decide) ?_
      exact hR ((1 : Int32)) () [(0, .long p0), (2, .long p1), (4, .long p2)] 18 hm rfl dX8_in_18

def wp_X8_noClause  (p0 : Int32) (post : Int32 → Prop) : Prop := wp_X8_in  p0.toInt64 ((0 : Int64)) ((4 : Int64)) (fun (r_1 : Int32) => (¬ r_1 = 0 → post ((0 : Int32)) ) ∧ (r_1 = 0 → post ((1 : Int32)) ))
set_option maxHeartbeats 4000000 in
set_option maxRecDepth 100000 in
theorem c_X8_noClause (l : Launch) (D : va_G) (cI cZ : ClassId)   (p0 : Int32) (post : Int32 → Prop) (hm : wp_X8_noClause  p0 post) : Mi l D cI cZ yX8_noClause cX8_noClause 1 .boolean 1 25 [.int p0] (([] : va_W)) (S := Unit) (fun _ => ([] : va_W)) (fun r _ => post r ) := by
  refine mk_Mi (by decide +kernel) (Nat.le_of_ble_eq_true rfl) ?_
  intro Γ hl0 hD0 hC hR
  subst hl0
  subst hD0
  have hC : CX Γ cI cZ cX8_noClause RX8 1 1 25 := hC
  show VV Γ (([] : va_W)) [(0, .int p0)] 0 []
  unfold wp_X8_noClause at hm
  refine x_iload_n hC 0 dX8_noClause_0 rfl ?_
  refine x_i2l hC dX8_noClause_1 ?_
  refine x_lconst hC (0 : Int64) dX8_noClause_2 (by decide) ?_
  refine x_ldc2 hC kl_X8_63 dX8_noClause_3 ?_
  refine x_callSi hC _ [] [] [] (([] : va_W)) (fun _ => ([] : va_W)) ok_X8_in ml_X8_65 (c_X8_in (gl Γ) (gD Γ) cI cZ   p0.toInt64 ((0 : Int64)) ((4 : Int64)) _ hm) (by decide) (by decide) rfl (Nat.le_of_ble_eq_true rfl) rfl rfl rfl rfl (by decide) rfl (fun _ => rfl) rfl dX8_noClause_6 ?_
  rintro r_1 _ hm
  refine x_if_ne hC 16 dX8_noClause_9 (by decide) (fun c_2 => ?_) (fun c_2 => ?_)
  · replace hm := hm.1 c_2
    refine x_iconst hC (0 : Int32) dX8_noClause_16 (by decide) ?_
    exact hR ((0 : Int32)) () [(0, .int p0)] 17 hm rfl dX8_noClause_17
  · replace hm := hm.2 c_2
    refine x_iconst hC (1 : Int32) dX8_noClause_12 (by decide) ?_
    refine x_goto hC 17 dX8_noClause_13 (by decide) ?_
    exact hR ((1 : Int32)) () [(0, .int p0)] 17 hm rfl dX8_noClause_17

def wp_X8_about (md_thrown : Int32) (md_forms : Nat → Int32) (md_formMany : Nat → Int32) (p0 : Int32) (p1 : Int32) (p2 : Int32) (post : Int32 → Int32 → Prop) : Prop := wp_X8_noClause  p0 (fun (r_1 : Int32) => (¬ r_1 = 0 → post ((-1 : Int32)) ((0 : Int32))) ∧ (r_1 = 0 → vp_in p0 5 ∧ (wp_X8_in  p1.toInt64 ((1 : Int64)) ((md_formMany p0.toNatClampNeg).toInt64) (fun (r_3 : Int32) => (¬ r_3 = 0 → wp_X8_in  p2.toInt64 ((0 : Int64)) ((5 : Int64)) (fun (r_5 : Int32) => (r_5 = 0 → post ((-2 : Int32)) ((0 : Int32))) ∧ (¬ r_5 = 0 → vp_in (((((18 : Int32)) * p0) + (((6 : Int32)) * (p1 - ((1 : Int32))))) + p2) 90 ∧ (post (md_forms (((((18 : Int32)) * p0) + (((6 : Int32)) * (p1 - ((1 : Int32))))) + p2).toNatClampNeg) ((0 : Int32)))))) ∧ (r_3 = 0 → post ((-1 : Int32)) ((0 : Int32)))))))
set_option maxHeartbeats 4000000 in
set_option maxRecDepth 100000 in
theorem c_X8_about (l : Launch) (D : va_G) (cI cZ : ClassId) (md : Nat → Nat) (md_thrown : Int32) (md_text : Nat → Int32) (md_textSize : Int32) (md_place : Int32) (md_letter : Int32) (md_first : Int32) (md_second : Int32) (md_third : Int32) (md_side : Int32) (md_hang : Int32) (md_forms : Nat → Int32) (md_formMany : Nat → Int32) (md_seats : Nat → Int32) (md_now : Int32) (md_barAlways : Int32) (md_noPut : Int32) (md_far : Nat → Int32) (md_queue : Nat → Int32) (md_from : Nat → Int32) (md_by : Nat → Int32) (md_many : Int32) (md_is : Nat → Int32) (md_next : Nat → Int32) (md_rollSet : Nat → Int32) (md_rollAct : Nat → Int32) (md_rolls : Int32) (md_slots : Nat → Int32) (md_isKept : Nat → Int32) (p0 : Int32) (p1 : Int32) (p2 : Int32) (post : Int32 → Int32 → Prop) (hm : wp_X8_about md_thrown md_forms md_formMany p0 p1 p2 post) : Mi l D cI cZ yX8_about cX8_about 4 .int 2 45 [.ref (md 0), .int p0, .int p1, .int p2] (W_md cI cZ md md_thrown md_text md_textSize md_place md_letter md_first md_second md_third md_side md_hang md_forms md_formMany md_seats md_now md_barAlways md_noPut md_far md_queue md_from md_by md_many md_is md_next md_rollSet md_rollAct md_rolls md_slots md_isKept) (S := Int32) (fun u => W_md cI cZ md u md_text md_textSize md_place md_letter md_first md_second md_third md_side md_hang md_forms md_formMany md_seats md_now md_barAlways md_noPut md_far md_queue md_from md_by md_many md_is md_next md_rollSet md_rollAct md_rolls md_slots md_isKept) (fun r u => post r u) := by
  refine mk_Mi (by decide +kernel) (Nat.le_of_ble_eq_true rfl) ?_
  intro Γ hl0 hD0 hC hR
  subst hl0
  subst hD0
  have hC : CX Γ cI cZ cX8_about RX8 4 2 45 := hC
  show VV Γ (W_md cI cZ md md_thrown md_text md_textSize md_place md_letter md_first md_second md_third md_side md_hang md_forms md_formMany md_seats md_now md_barAlways md_noPut md_far md_queue md_from md_by md_many md_is md_next md_rollSet md_rollAct md_rolls md_slots md_isKept) [(0, .ref (md 0)), (1, .int p0), (2, .int p1), (3, .int p2)] 0 []
  unfold wp_X8_about at hm
  refine x_aload_n hC 0 dX8_about_0 rfl ?_
  refine x_iconst hC (0 : Int32) dX8_about_1 (by decide) ?_
  refine x_put hC 5 tyX8_ok nmX8 inX8g 0 rfl rfl 0 (by decide) fl_X8_60 rfl (ty := .int) (by decide +kernel) rfl rfl (Nat.le_of_ble_eq_true rfl) (W_md cI cZ md ((0 : Int32)) md_text md_textSize md_place md_letter md_first md_second md_third md_side md_hang md_forms md_formMany md_seats md_now md_barAlways md_noPut md_far md_queue md_from md_by md_many md_is md_next md_rollSet md_rollAct md_rolls md_slots md_isKept) rfl dX8_about_2 ?_
  refine x_iload_n hC 1 dX8_about_5 rfl ?_
  refine x_callSi hC _ [] [0, 1, 2, 3, 4, 5, 6, 7, 8, 9, 10, 11, 12, 13, 14] [0, 1, 2, 3, 4, 5, 6, 7, 8, 9, 10, 11, 12, 13, 14] (W_md cI cZ md ((0 : Int32)) md_text md_textSize md_place md_letter md_first md_second md_third md_side md_hang md_forms md_formMany md_seats md_now md_barAlways md_noPut md_far md_queue md_from md_by md_many md_is md_next md_rollSet md_rollAct md_rolls md_slots md_isKept) (fun _ => W_md cI cZ md ((0 : Int32)) md_text md_textSize md_place md_letter md_first md_second md_third md_side md_hang md_forms md_formMany md_seats md_now md_barAlways md_noPut md_far md_queue md_from md_by md_many md_is md_next md_rollSet md_rollAct md_rolls md_slots md_isKept) ok_X8_noClause ml_X8_137 (c_X8_noClause (gl Γ) (gD Γ) cI cZ   p0 _ hm) (by decide) (by decide) rfl (Nat.le_of_ble_eq_true rfl) rfl rfl rfl rfl (by decide) rfl (fun _ => rfl) rfl dX8_about_6 ?_
  rintro r_1 _ hm
  refine x_if_ne hC 28 dX8_about_9 (by decide) (fun c_2 => ?_) (fun c_2 => ?_)
  · replace hm := hm.1 c_2
    refine x_iconst hC (-1 : Int32) dX8_about_28 (by decide) ?_
    exact hR ((-1 : Int32)) (0 : Int32) [(0, .ref (md 0)), (1, .int p0), (2, .int p1), (3, .int p2)] 29 hm rfl dX8_about_29
  · replace hm := hm.2 c_2
    refine x_iload_n hC 2 dX8_about_12 rfl ?_
    refine x_i2l hC dX8_about_13 ?_
    refine x_lconst hC (1 : Int64) dX8_about_14 (by decide) ?_
    refine x_aload_n hC 0 dX8_about_15 rfl ?_
    refine x_get hC 5 inX8g 0 rfl rfl 11 (by decide) fl_X8_16 rfl dX8_about_16 ?_
    refine x_iload_n hC 1 dX8_about_19 rfl ?_
    refine x_iald hC 3 rfl hm.1 dX8_about_20 ?_
    replace hm := hm.2
    refine x_i2l hC dX8_about_21 ?_
    refine x_callSi hC _ [] [0, 1, 2, 3, 4, 5, 6, 7, 8, 9, 10, 11, 12, 13, 14] [0, 1, 2, 3, 4, 5, 6, 7, 8, 9, 10, 11, 12, 13, 14] (W_md cI cZ md ((0 : Int32)) md_text md_textSize md_place md_letter md_first md_second md_third md_side md_hang md_forms md_formMany md_seats md_now md_barAlways md_noPut md_far md_queue md_from md_by md_many md_is md_next md_rollSet md_rollAct md_rolls md_slots md_isKept) (fun _ => W_md cI cZ md ((0 : Int32)) md_text md_textSize md_place md_letter md_first md_second md_third md_side md_hang md_forms md_formMany md_seats md_now md_barAlways md_noPut md_far md_queue md_from md_by md_many md_is md_next md_rollSet md_rollAct md_rolls md_slots md_isKept) ok_X8_in ml_X8_65 (c_X8_in (gl Γ) (gD Γ) cI cZ   p1.toInt64 ((1 : Int64)) ((md_formMany p0.toNatClampNeg).toInt64) _ hm) (by decide) (by decide) rfl (Nat.le_of_ble_eq_true rfl) rfl rfl rfl rfl (by decide) rfl (fun _ => rfl) rfl dX8_about_22 ?_
    rintro r_3 _ hm
    refine x_if_ne hC 30 dX8_about_25 (by decide) (fun c_4 => ?_) (fun c_4 => ?_)
    · replace hm := hm.1 c_4
      refine x_iload_n hC 3 dX8_about_30 rfl ?_
      refine x_i2l hC dX8_about_31 ?_
      refine x_lconst hC (0 : Int64) dX8_about_32 (by decide) ?_
      refine x_ldc2 hC kl_X8_147 dX8_about_33 ?_
      refine x_callSi hC _ [] [0, 1, 2, 3, 4, 5, 6, 7, 8, 9, 10, 11, 12, 13, 14] [0, 1, 2, 3, 4, 5, 6, 7, 8, 9, 10, 11, 12, 13, 14] (W_md cI cZ md ((0 : Int32)) md_text md_textSize md_place md_letter md_first md_second md_third md_side md_hang md_forms md_formMany md_seats md_now md_barAlways md_noPut md_far md_queue md_from md_by md_many md_is md_next md_rollSet md_rollAct md_rolls md_slots md_isKept) (fun _ => W_md cI cZ md ((0 : Int32)) md_text md_textSize md_place md_letter md_first md_second md_third md_side md_hang md_forms md_formMany md_seats md_now md_barAlways md_noPut md_far md_queue md_from md_by md_many md_is md_next md_rollSet md_rollAct md_rolls md_slots md_isKept) ok_X8_in ml_X8_65 (c_X8_in (gl Γ) (gD Γ) cI cZ   p2.toInt64 ((0 : Int64)) ((5 : Int64)) _ hm) (by decide) (by decide) rfl (Nat.le_of_ble_eq_true rfl) rfl rfl rfl rfl (by decide) rfl (fun _ => rfl) rfl dX8_about_36 ?_
      rintro r_5 _ hm
      refine x_if_eq hC 63 dX8_about_39 (by decide) (fun c_6 => ?_) (fun c_6 => ?_)
      · replace hm := hm.1 c_6
        refine x_bipush hC (-2 : Int32) dX8_about_63 (by decide) ?_
        exact hR ((-2 : Int32)) (0 : Int32) [(0, .ref (md 0)), (1, .int p0), (2, .int p1), (3, .int p2)] 65 hm rfl dX8_about_65
      · replace hm := hm.2 c_6
        refine x_aload_n hC 0 dX8_about_42 rfl ?_
        refine x_get hC 5 inX8g 0 rfl rfl 10 (by decide) fl_X8_13 rfl dX8_about_43 ?_
        refine x_bipush hC (18 : Int32) dX8_about_46 (by decide) ?_
        refine x_iload_n hC 1 dX8_about_48 rfl ?_
        refine x_imul hC dX8_about_49 ?_
        refine x_bipush hC (6 : Int32) dX8_about_50 (by decide) ?_
        refine x_iload_n hC 2 dX8_about_52 rfl ?_
        refine x_iconst hC (1 : Int32) dX8_about_53 (by decide) ?_
        refine x_isub hC dX8_about_54 ?_
        refine x_imul hC dX8_about_55 ?_
        refine x_iadd hC dX8_about_56 ?_
        refine x_iload_n hC 3 dX8_about_57 rfl ?_
        refine x_iadd hC dX8_about_58 ?_
        refine x_iald hC 2 rfl hm.1 dX8_about_59 ?_
        replace hm := hm.2
        refine x_goto hC 65 dX8_about_60 (by decide) ?_
        exact hR (md_forms (((((18 : Int32)) * p0) + (((6 : Int32)) * (p1 - ((1 : Int32))))) + p2).toNatClampNeg) (0 : Int32) [(0, .ref (md 0)), (1, .int p0), (2, .int p1), (3, .int p2)] 65 hm rfl dX8_about_65
    · replace hm := hm.2 c_4
      refine x_iconst hC (-1 : Int32) dX8_about_28 (by decide) ?_
      exact hR ((-1 : Int32)) (0 : Int32) [(0, .ref (md 0)), (1, .int p0), (2, .int p1), (3, .int p2)] 29 hm rfl dX8_about_29

def wp_X8_noSet  (p0 : Int32) (post : Int32 → Prop) : Prop := wp_X8_in  p0.toInt64 ((0 : Int64)) ((15 : Int64)) (fun (r_1 : Int32) => (¬ r_1 = 0 → post ((0 : Int32)) ) ∧ (r_1 = 0 → post ((1 : Int32)) ))
set_option maxHeartbeats 4000000 in
set_option maxRecDepth 100000 in
theorem c_X8_noSet (l : Launch) (D : va_G) (cI cZ : ClassId)   (p0 : Int32) (post : Int32 → Prop) (hm : wp_X8_noSet  p0 post) : Mi l D cI cZ yX8_noSet cX8_noSet 1 .boolean 1 25 [.int p0] (([] : va_W)) (S := Unit) (fun _ => ([] : va_W)) (fun r _ => post r ) := by
  refine mk_Mi (by decide +kernel) (Nat.le_of_ble_eq_true rfl) ?_
  intro Γ hl0 hD0 hC hR
  subst hl0
  subst hD0
  have hC : CX Γ cI cZ cX8_noSet RX8 1 1 25 := hC
  show VV Γ (([] : va_W)) [(0, .int p0)] 0 []
  unfold wp_X8_noSet at hm
  refine x_iload_n hC 0 dX8_noSet_0 rfl ?_
  refine x_i2l hC dX8_noSet_1 ?_
  refine x_lconst hC (0 : Int64) dX8_noSet_2 (by decide) ?_
  refine x_ldc2 hC kl_X8_69 dX8_noSet_3 ?_
  refine x_callSi hC _ [] [] [] (([] : va_W)) (fun _ => ([] : va_W)) ok_X8_in ml_X8_65 (c_X8_in (gl Γ) (gD Γ) cI cZ   p0.toInt64 ((0 : Int64)) ((15 : Int64)) _ hm) (by decide) (by decide) rfl (Nat.le_of_ble_eq_true rfl) rfl rfl rfl rfl (by decide) rfl (fun _ => rfl) rfl dX8_noSet_6 ?_
  rintro r_1 _ hm
  refine x_if_ne hC 16 dX8_noSet_9 (by decide) (fun c_2 => ?_) (fun c_2 => ?_)
  · replace hm := hm.1 c_2
    refine x_iconst hC (0 : Int32) dX8_noSet_16 (by decide) ?_
    exact hR ((0 : Int32)) () [(0, .int p0)] 17 hm rfl dX8_noSet_17
  · replace hm := hm.2 c_2
    refine x_iconst hC (1 : Int32) dX8_noSet_12 (by decide) ?_
    refine x_goto hC 17 dX8_noSet_13 (by decide) ?_
    exact hR ((1 : Int32)) () [(0, .int p0)] 17 hm rfl dX8_noSet_17

def wp_X8_noAct  (p0 : Int32) (post : Int32 → Prop) : Prop := wp_X8_in  p0.toInt64 ((0 : Int64)) ((430 : Int64)) (fun (r_1 : Int32) => (r_1 = 0 → post ((1 : Int32)) ) ∧ (¬ r_1 = 0 → (¬ (p0 - p0 / ((10 : Int32)) * ((10 : Int32))) = 0 → post ((1 : Int32)) ) ∧ ((p0 - p0 / ((10 : Int32)) * ((10 : Int32))) = 0 → (((p0 / ((10 : Int32))) - (p0 / ((10 : Int32))) / ((10 : Int32)) * ((10 : Int32))) ≤ ((3 : Int32)) → post ((0 : Int32)) ) ∧ (¬ ((p0 / ((10 : Int32))) - (p0 / ((10 : Int32))) / ((10 : Int32)) * ((10 : Int32))) ≤ ((3 : Int32)) → post ((1 : Int32)) ))))
set_option maxHeartbeats 4000000 in
set_option maxRecDepth 100000 in
theorem c_X8_noAct (l : Launch) (D : va_G) (cI cZ : ClassId)   (p0 : Int32) (post : Int32 → Prop) (hm : wp_X8_noAct  p0 post) : Mi l D cI cZ yX8_noAct cX8_noAct 1 .boolean 1 25 [.int p0] (([] : va_W)) (S := Unit) (fun _ => ([] : va_W)) (fun r _ => post r ) := by
  refine mk_Mi (by decide +kernel) (Nat.le_of_ble_eq_true rfl) ?_
  intro Γ hl0 hD0 hC hR
  subst hl0
  subst hD0
  have hC : CX Γ cI cZ cX8_noAct RX8 1 1 25 := hC
  show VV Γ (([] : va_W)) [(0, .int p0)] 0 []
  unfold wp_X8_noAct at hm
  refine x_iload_n hC 0 dX8_noAct_0 rfl ?_
  refine x_i2l hC dX8_noAct_1 ?_
  refine x_lconst hC (0 : Int64) dX8_noAct_2 (by decide) ?_
  refine x_ldc2 hC kl_X8_71 dX8_noAct_3 ?_
  refine x_callSi hC _ [] [] [] (([] : va_W)) (fun _ => ([] : va_W)) ok_X8_in ml_X8_65 (c_X8_in (gl Γ) (gD Γ) cI cZ   p0.toInt64 ((0 : Int64)) ((430 : Int64)) _ hm) (by decide) (by decide) rfl (Nat.le_of_ble_eq_true rfl) rfl rfl rfl rfl (by decide) rfl (fun _ => rfl) rfl dX8_noAct_6 ?_
  rintro r_1 _ hm
  refine x_if_eq hC 30 dX8_noAct_9 (by decide) (fun c_2 => ?_) (fun c_2 => ?_)
  · replace hm := hm.1 c_2
    refine x_iconst hC (1 : Int32) dX8_noAct_30 (by decide) ?_
    refine x_goto hC 35 dX8_noAct_31 (by decide) ?_
    exact hR ((1 : Int32)) () [(0, .int p0)] 35 hm rfl dX8_noAct_35
  · replace hm := hm.2 c_2
    refine x_iload_n hC 0 dX8_noAct_12 rfl ?_
    refine x_bipush hC (10 : Int32) dX8_noAct_13 (by decide) ?_
    refine x_irem hC dX8_noAct_15 (by decide) ?_
    refine x_if_ne hC 30 dX8_noAct_16 (by decide) (fun c_3 => ?_) (fun c_3 => ?_)
    · replace hm := hm.1 c_3
      refine x_iconst hC (1 : Int32) dX8_noAct_30 (by decide) ?_
      refine x_goto hC 35 dX8_noAct_31 (by decide) ?_
      exact hR ((1 : Int32)) () [(0, .int p0)] 35 hm rfl dX8_noAct_35
    · replace hm := hm.2 c_3
      refine x_iload_n hC 0 dX8_noAct_19 rfl ?_
      refine x_bipush hC (10 : Int32) dX8_noAct_20 (by decide) ?_
      refine x_idiv hC dX8_noAct_22 (by decide) ?_
      refine x_bipush hC (10 : Int32) dX8_noAct_23 (by decide) ?_
      refine x_irem hC dX8_noAct_25 (by decide) ?_
      refine x_iconst hC (3 : Int32) dX8_noAct_26 (by decide) ?_
      refine x_icmp_le hC 34 dX8_noAct_27 (by decide) (fun c_4 => ?_) (fun c_4 => ?_)
      · replace hm := hm.1 c_4
        refine x_iconst hC (0 : Int32) dX8_noAct_34 (by decide) ?_
        exact hR ((0 : Int32)) () [(0, .int p0)] 35 hm rfl dX8_noAct_35
      · replace hm := hm.2 c_4
        refine x_iconst hC (1 : Int32) dX8_noAct_30 (by decide) ?_
        refine x_goto hC 35 dX8_noAct_31 (by decide) ?_
        exact hR ((1 : Int32)) () [(0, .int p0)] 35 hm rfl dX8_noAct_35

def wp_X8_formOf  (p0 : Int32) (p1 : Int32) (post : Int32 → Prop) : Prop := post ((p0 >>> ((((4 : Int32)) + (((2 : Int32)) * p1)) &&& 31)) &&& ((3 : Int32))) 
set_option maxHeartbeats 4000000 in
set_option maxRecDepth 100000 in
theorem c_X8_formOf (l : Launch) (D : va_G) (cI cZ : ClassId)   (p0 : Int32) (p1 : Int32) (post : Int32 → Prop) (hm : wp_X8_formOf  p0 p1 post) : Mi l D cI cZ yX8_formOf cX8_formOf 2 .int 0 0 [.int p0, .int p1] (([] : va_W)) (S := Unit) (fun _ => ([] : va_W)) (fun r _ => post r ) := by
  refine mk_Mi (by decide +kernel) (Nat.le_of_ble_eq_true rfl) ?_
  intro Γ hl0 hD0 hC hR
  subst hl0
  subst hD0
  have hC : CX Γ cI cZ cX8_formOf RX8 2 0 0 := hC
  show VV Γ (([] : va_W)) [(0, .int p0), (1, .int p1)] 0 []
  unfold wp_X8_formOf at hm
  refine x_iload_n hC 0 dX8_formOf_0 rfl ?_
  refine x_iconst hC (4 : Int32) dX8_formOf_1 (by decide) ?_
  refine x_iconst hC (2 : Int32) dX8_formOf_2 (by decide) ?_
  refine x_iload_n hC 1 dX8_formOf_3 rfl ?_
  refine x_imul hC dX8_formOf_4 ?_
  refine x_iadd hC dX8_formOf_5 ?_
  refine x_ishr hC dX8_formOf_6 ?_
  refine x_iconst hC (3 : Int32) dX8_formOf_7 (by decide) ?_
  refine x_iand hC dX8_formOf_8 ?_
  exact hR ((p0 >>> ((((4 : Int32)) + (((2 : Int32)) * p1)) &&& 31)) &&& ((3 : Int32))) () [(0, .int p0), (1, .int p1)] 9 hm rfl dX8_formOf_9

def wp_X8_told (md_forms : Nat → Int32) (p0 : Int32) (p1 : Int32) (p2 : Int32) (post : Int32 → Prop) : Prop := wp_X8_formOf  p0 p1 (fun (r_1 : Int32) => vp_in (((((18 : Int32)) * p1) + (((6 : Int32)) * (r_1 - ((1 : Int32))))) + p2) 90 ∧ (post (md_forms (((((18 : Int32)) * p1) + (((6 : Int32)) * (r_1 - ((1 : Int32))))) + p2).toNatClampNeg) ))
set_option maxHeartbeats 4000000 in
set_option maxRecDepth 100000 in
theorem c_X8_told (l : Launch) (D : va_G) (cI cZ : ClassId) (md : Nat → Nat) (md_thrown : Int32) (md_text : Nat → Int32) (md_textSize : Int32) (md_place : Int32) (md_letter : Int32) (md_first : Int32) (md_second : Int32) (md_third : Int32) (md_side : Int32) (md_hang : Int32) (md_forms : Nat → Int32) (md_formMany : Nat → Int32) (md_seats : Nat → Int32) (md_now : Int32) (md_barAlways : Int32) (md_noPut : Int32) (md_far : Nat → Int32) (md_queue : Nat → Int32) (md_from : Nat → Int32) (md_by : Nat → Int32) (md_many : Int32) (md_is : Nat → Int32) (md_next : Nat → Int32) (md_rollSet : Nat → Int32) (md_rollAct : Nat → Int32) (md_rolls : Int32) (md_slots : Nat → Int32) (md_isKept : Nat → Int32) (p0 : Int32) (p1 : Int32) (p2 : Int32) (post : Int32 → Prop) (hm : wp_X8_told md_forms p0 p1 p2 post) : Mi l D cI cZ yX8_told cX8_told 4 .int 1 21 [.ref (md 0), .int p0, .int p1, .int p2] (W_md cI cZ md md_thrown md_text md_textSize md_place md_letter md_first md_second md_third md_side md_hang md_forms md_formMany md_seats md_now md_barAlways md_noPut md_far md_queue md_from md_by md_many md_is md_next md_rollSet md_rollAct md_rolls md_slots md_isKept) (S := Unit) (fun _ => W_md cI cZ md md_thrown md_text md_textSize md_place md_letter md_first md_second md_third md_side md_hang md_forms md_formMany md_seats md_now md_barAlways md_noPut md_far md_queue md_from md_by md_many md_is md_next md_rollSet md_rollAct md_rolls md_slots md_isKept) (fun r _ => post r ) := by
  refine mk_Mi (by decide +kernel) (Nat.le_of_ble_eq_true rfl) ?_
  intro Γ hl0 hD0 hC hR
  subst hl0
  subst hD0
  have hC : CX Γ cI cZ cX8_told RX8 4 1 21 := hC
  show VV Γ (W_md cI cZ md md_thrown md_text md_textSize md_place md_letter md_first md_second md_third md_side md_hang md_forms md_formMany md_seats md_now md_barAlways md_noPut md_far md_queue md_from md_by md_many md_is md_next md_rollSet md_rollAct md_rolls md_slots md_isKept) [(0, .ref (md 0)), (1, .int p0), (2, .int p1), (3, .int p2)] 0 []
  unfold wp_X8_told at hm
  refine x_aload_n hC 0 dX8_told_0 rfl ?_
  refine x_get hC 5 inX8g 0 rfl rfl 10 (by decide) fl_X8_13 rfl dX8_told_1 ?_
  refine x_bipush hC (18 : Int32) dX8_told_4 (by decide) ?_
  refine x_iload_n hC 2 dX8_told_6 rfl ?_
  refine x_imul hC dX8_told_7 ?_
  refine x_bipush hC (6 : Int32) dX8_told_8 (by decide) ?_
  refine x_iload_n hC 1 dX8_told_10 rfl ?_
  refine x_iload_n hC 2 dX8_told_11 rfl ?_
  refine x_callSi hC _ [] [0, 1, 2, 3, 4, 5, 6, 7, 8, 9, 10, 11, 12, 13, 14] [0, 1, 2, 3, 4, 5, 6, 7, 8, 9, 10, 11, 12, 13, 14] (W_md cI cZ md md_thrown md_text md_textSize md_place md_letter md_first md_second md_third md_side md_hang md_forms md_formMany md_seats md_now md_barAlways md_noPut md_far md_queue md_from md_by md_many md_is md_next md_rollSet md_rollAct md_rolls md_slots md_isKept) (fun _ => W_md cI cZ md md_thrown md_text md_textSize md_place md_letter md_first md_second md_third md_side md_hang md_forms md_formMany md_seats md_now md_barAlways md_noPut md_far md_queue md_from md_by md_many md_is md_next md_rollSet md_rollAct md_rolls md_slots md_isKept) ok_X8_formOf ml_X8_155 (c_X8_formOf (gl Γ) (gD Γ) cI cZ   p0 p1 _ hm) (by decide) (by decide) rfl (Nat.le_of_ble_eq_true rfl) rfl rfl rfl rfl (by decide) rfl (fun _ => rfl) rfl dX8_told_12 ?_
  rintro r_1 _ hm
  refine x_iconst hC (1 : Int32) dX8_told_15 (by decide) ?_
  refine x_isub hC dX8_told_16 ?_
  refine x_imul hC dX8_told_17 ?_
  refine x_iadd hC dX8_told_18 ?_
  refine x_iload_n hC 3 dX8_told_19 rfl ?_
  refine x_iadd hC dX8_told_20 ?_
  refine x_iald hC 2 rfl hm.1 dX8_told_21 ?_
  replace hm := hm.2
  exact hR (md_forms (((((18 : Int32)) * p1) + (((6 : Int32)) * (r_1 - ((1 : Int32))))) + p2).toNatClampNeg) () [(0, .ref (md 0)), (1, .int p0), (2, .int p1), (3, .int p2)] 22 hm rfl dX8_told_22

def wp_X8_isSo  (p0 : Int32) (p1 : Int32) (post : Int32 → Prop) : Prop := (((100 : Int32)) ≤ p1 → wp_X8_formOf  p0 ((p1 - ((100 : Int32))) / ((10 : Int32))) (fun (r_2 : Int32) => (¬ r_2 = (p1 - p1 / ((10 : Int32)) * ((10 : Int32))) → post ((0 : Int32)) ) ∧ (r_2 = (p1 - p1 / ((10 : Int32)) * ((10 : Int32))) → post ((1 : Int32)) ))) ∧ (¬ ((100 : Int32)) ≤ p1 → (¬ ((p0 >>> ((p1 / ((10 : Int32))) &&& 31)) &&& ((1 : Int32))) = (p1 - p1 / ((10 : Int32)) * ((10 : Int32))) → post ((0 : Int32)) ) ∧ (((p0 >>> ((p1 / ((10 : Int32))) &&& 31)) &&& ((1 : Int32))) = (p1 - p1 / ((10 : Int32)) * ((10 : Int32))) → post ((1 : Int32)) ))
set_option maxHeartbeats 4000000 in
set_option maxRecDepth 100000 in
theorem c_X8_isSo (l : Launch) (D : va_G) (cI cZ : ClassId)   (p0 : Int32) (p1 : Int32) (post : Int32 → Prop) (hm : wp_X8_isSo  p0 p1 post) : Mi l D cI cZ yX8_isSo cX8_isSo 2 .boolean 1 21 [.int p0, .int p1] (([] : va_W)) (S := Unit) (fun _ => ([] : va_W)) (fun r _ => post r ) := by
  refine mk_Mi (by decide +kernel) (Nat.le_of_ble_eq_true rfl) ?_
  intro Γ hl0 hD0 hC hR
  subst hl0
  subst hD0
  have hC : CX Γ cI cZ cX8_isSo RX8 2 1 21 := hC
  show VV Γ (([] : va_W)) [(0, .int p0), (1, .int p1)] 0 []
  unfold wp_X8_isSo at hm
  refine x_iload_n hC 1 dX8_isSo_0 rfl ?_
  refine x_bipush hC (100 : Int32) dX8_isSo_1 (by decide) ?_
  refine x_icmp_ge hC 29 dX8_isSo_3 (by decide) (fun c_1 => ?_) (fun c_1 => ?_)
  · replace hm := hm.1 c_1
    refine x_iload_n hC 0 dX8_isSo_29 rfl ?_
    refine x_iload_n hC 1 dX8_isSo_30 rfl ?_
    refine x_bipush hC (100 : Int32) dX8_isSo_31 (by decide) ?_
    refine x_isub hC dX8_isSo_33 ?_
    refine x_bipush hC (10 : Int32) dX8_isSo_34 (by decide) ?_
    refine x_idiv hC dX8_isSo_36 (by decide) ?_
    refine x_callSi hC _ [] [] [] (([] : va_W)) (fun _ => ([] : va_W)) ok_X8_formOf ml_X8_155 (c_X8_formOf (gl Γ) (gD Γ) cI cZ   p0 ((p1 - ((100 : Int32))) / ((10 : Int32))) _ hm) (by decide) (by decide) rfl (Nat.le_of_ble_eq_true rfl) rfl rfl rfl rfl (by decide) rfl (fun _ => rfl) rfl dX8_isSo_37 ?_
    rintro r_2 _ hm
    refine x_iload_n hC 1 dX8_isSo_40 rfl ?_
    refine x_bipush hC (10 : Int32) dX8_isSo_41 (by decide) ?_
    refine x_irem hC dX8_isSo_43 (by decide) ?_
    refine x_icmp_ne hC 51 dX8_isSo_44 (by decide) (fun c_3 => ?_) (fun c_3 => ?_)
    · replace hm := hm.1 c_3
      refine x_iconst hC (0 : Int32) dX8_isSo_51 (by decide) ?_
      exact hR ((0 : Int32)) () [(0, .int p0), (1, .int p1)] 52 hm rfl dX8_isSo_52
    · replace hm := hm.2 c_3
      refine x_iconst hC (1 : Int32) dX8_isSo_47 (by decide) ?_
      refine x_goto hC 52 dX8_isSo_48 (by decide) ?_
      exact hR ((1 : Int32)) () [(0, .int p0), (1, .int p1)] 52 hm rfl dX8_isSo_52
  · replace hm := hm.2 c_1
    refine x_iload_n hC 0 dX8_isSo_6 rfl ?_
    refine x_iload_n hC 1 dX8_isSo_7 rfl ?_
    refine x_bipush hC (10 : Int32) dX8_isSo_8 (by decide) ?_
    refine x_idiv hC dX8_isSo_10 (by decide) ?_
    refine x_ishr hC dX8_isSo_11 ?_
    refine x_iconst hC (1 : Int32) dX8_isSo_12 (by decide) ?_
    refine x_iand hC dX8_isSo_13 ?_
    refine x_iload_n hC 1 dX8_isSo_14 rfl ?_
    refine x_bipush hC (10 : Int32) dX8_isSo_15 (by decide) ?_
    refine x_irem hC dX8_isSo_17 (by decide) ?_
    refine x_icmp_ne hC 25 dX8_isSo_18 (by decide) (fun c_4 => ?_) (fun c_4 => ?_)
    · replace hm := hm.1 c_4
      refine x_iconst hC (0 : Int32) dX8_isSo_25 (by decide) ?_
      refine x_goto hC 52 dX8_isSo_26 (by decide) ?_
      exact hR ((0 : Int32)) () [(0, .int p0), (1, .int p1)] 52 hm rfl dX8_isSo_52
    · replace hm := hm.2 c_4
      refine x_iconst hC (1 : Int32) dX8_isSo_21 (by decide) ?_
      refine x_goto hC 52 dX8_isSo_22 (by decide) ?_
      exact hR ((1 : Int32)) () [(0, .int p0), (1, .int p1)] 52 hm rfl dX8_isSo_52

def wp_X8_isForce (md_forms : Nat → Int32) (p0 : Int32) (p1 : Int32) (post : Int32 → Prop) : Prop := wp_X8_formOf  p0 p1 (fun (r_1 : Int32) => (¬ r_1 = 0 → wp_X8_told md_forms p0 p1 ((5 : Int32)) (fun (r_3 : Int32) => (r_3 = ((-9 : Int32)) → post ((1 : Int32)) ) ∧ (¬ r_3 = ((-9 : Int32)) → wp_X8_isSo  p0 r_3 (fun (r_5 : Int32) => (r_5 = 0 → post ((0 : Int32)) ) ∧ (¬ r_5 = 0 → post ((1 : Int32)) ))))) ∧ (r_1 = 0 → post ((0 : Int32)) ))
set_option maxHeartbeats 4000000 in
set_option maxRecDepth 100000 in
theorem c_X8_isForce (l : Launch) (D : va_G) (cI cZ : ClassId) (md : Nat → Nat) (md_thrown : Int32) (md_text : Nat → Int32) (md_textSize : Int32) (md_place : Int32) (md_letter : Int32) (md_first : Int32) (md_second : Int32) (md_third : Int32) (md_side : Int32) (md_hang : Int32) (md_forms : Nat → Int32) (md_formMany : Nat → Int32) (md_seats : Nat → Int32) (md_now : Int32) (md_barAlways : Int32) (md_noPut : Int32) (md_far : Nat → Int32) (md_queue : Nat → Int32) (md_from : Nat → Int32) (md_by : Nat → Int32) (md_many : Int32) (md_is : Nat → Int32) (md_next : Nat → Int32) (md_rollSet : Nat → Int32) (md_rollAct : Nat → Int32) (md_rolls : Int32) (md_slots : Nat → Int32) (md_isKept : Nat → Int32) (p0 : Int32) (p1 : Int32) (post : Int32 → Prop) (hm : wp_X8_isForce md_forms p0 p1 post) : Mi l D cI cZ yX8_isForce cX8_isForce 4 .boolean 2 44 [.ref (md 0), .int p0, .int p1] (W_md cI cZ md md_thrown md_text md_textSize md_place md_letter md_first md_second md_third md_side md_hang md_forms md_formMany md_seats md_now md_barAlways md_noPut md_far md_queue md_from md_by md_many md_is md_next md_rollSet md_rollAct md_rolls md_slots md_isKept) (S := Unit) (fun _ => W_md cI cZ md md_thrown md_text md_textSize md_place md_letter md_first md_second md_third md_side md_hang md_forms md_formMany md_seats md_now md_barAlways md_noPut md_far md_queue md_from md_by md_many md_is md_next md_rollSet md_rollAct md_rolls md_slots md_isKept) (fun r _ => post r ) := by
  refine mk_Mi (by decide +kernel) (Nat.le_of_ble_eq_true rfl) ?_
  intro Γ hl0 hD0 hC hR
  subst hl0
  subst hD0
  have hC : CX Γ cI cZ cX8_isForce RX8 4 2 44 := hC
  show VV Γ (W_md cI cZ md md_thrown md_text md_textSize md_place md_letter md_first md_second md_third md_side md_hang md_forms md_formMany md_seats md_now md_barAlways md_noPut md_far md_queue md_from md_by md_many md_is md_next md_rollSet md_rollAct md_rolls md_slots md_isKept) [(0, .ref (md 0)), (1, .int p0), (2, .int p1)] 0 []
  unfold wp_X8_isForce at hm
  refine x_iload_n hC 1 dX8_isForce_0 rfl ?_
  refine x_iload_n hC 2 dX8_isForce_1 rfl ?_
  refine x_callSi hC _ [] [0, 1, 2, 3, 4, 5, 6, 7, 8, 9, 10, 11, 12, 13, 14] [0, 1, 2, 3, 4, 5, 6, 7, 8, 9, 10, 11, 12, 13, 14] (W_md cI cZ md md_thrown md_text md_textSize md_place md_letter md_first md_second md_third md_side md_hang md_forms md_formMany md_seats md_now md_barAlways md_noPut md_far md_queue md_from md_by md_many md_is md_next md_rollSet md_rollAct md_rolls md_slots md_isKept) (fun _ => W_md cI cZ md md_thrown md_text md_textSize md_place md_letter md_first md_second md_third md_side md_hang md_forms md_formMany md_seats md_now md_barAlways md_noPut md_far md_queue md_from md_by md_many md_is md_next md_rollSet md_rollAct md_rolls md_slots md_isKept) ok_X8_formOf ml_X8_155 (c_X8_formOf (gl Γ) (gD Γ) cI cZ   p0 p1 _ hm) (by decide) (by decide) rfl (Nat.le_of_ble_eq_true rfl) rfl rfl rfl rfl (by decide) rfl (fun _ => rfl) rfl dX8_isForce_2 ?_
  rintro r_1 _ hm
  refine x_if_ne hC 10 dX8_isForce_5 (by decide) (fun c_2 => ?_) (fun c_2 => ?_)
  · replace hm := hm.1 c_2
    refine x_aload_n hC 0 dX8_isForce_10 rfl ?_
    refine x_iload_n hC 1 dX8_isForce_11 rfl ?_
    refine x_iload_n hC 2 dX8_isForce_12 rfl ?_
    refine x_iconst hC (5 : Int32) dX8_isForce_13 (by decide) ?_
    refine x_callVi hC _ [0, 1, 2, 3, 4, 5, 6, 7, 8, 9, 10, 11, 12, 13, 14] [] [0, 1, 2, 3, 4, 5, 6, 7, 8, 9, 10, 11, 12, 13, 14] (([] : va_W)) (fun _ => W_md cI cZ md md_thrown md_text md_textSize md_place md_letter md_first md_second md_third md_side md_hang md_forms md_formMany md_seats md_now md_barAlways md_noPut md_far md_queue md_from md_by md_many md_is md_next md_rollSet md_rollAct md_rolls md_slots md_isKept) ok_X8_told ml_X8_161 0 5 (c_X8_told (gl Γ) (gD Γ) cI cZ md md_thrown md_text md_textSize md_place md_letter md_first md_second md_third md_side md_hang md_forms md_formMany md_seats md_now md_barAlways md_noPut md_far md_queue md_from md_by md_many md_is md_next md_rollSet md_rollAct md_rolls md_slots md_isKept p0 p1 ((5 : Int32)) _ hm) (by decide) (by decide) rfl (Nat.le_of_ble_eq_true rfl) rfl rfl rfl rfl (by decide) rfl (fun _ => rfl) rfl rfl rfl rfl dX8_isForce_14 ?_
    rintro r_3 _ hm
    refine x_istore_n hC [(0, .ref (md 0)), (1, .int p0), (2, .int p1), (3, .int r_3)] [1, 2, 3, 0] dX8_isForce_17 (by decide) rfl ?_
    refine x_iload_n hC 3 dX8_isForce_18 rfl ?_
    refine x_bipush hC (-9 : Int32) dX8_isForce_19 (by decide) ?_
    refine x_icmp_eq hC 32 dX8_isForce_21 (by decide) (fun c_4 => ?_) (fun c_4 => ?_)
    · replace hm := hm.1 c_4
      refine x_iconst hC (1 : Int32) dX8_isForce_32 (by decide) ?_
      refine x_goto hC 37 dX8_isForce_33 (by decide) ?_
      exact hR ((1 : Int32)) () [(0, .ref (md 0)), (1, .int p0), (2, .int p1), (3, .int r_3)] 37 hm rfl dX8_isForce_37
    · replace hm := hm.2 c_4
      refine x_iload_n hC 1 dX8_isForce_24 rfl ?_
      refine x_iload_n hC 3 dX8_isForce_25 rfl ?_
      refine x_callSi hC _ [] [0, 1, 2, 3, 4, 5, 6, 7, 8, 9, 10, 11, 12, 13, 14] [0, 1, 2, 3, 4, 5, 6, 7, 8, 9, 10, 11, 12, 13, 14] (W_md cI cZ md md_thrown md_text md_textSize md_place md_letter md_first md_second md_third md_side md_hang md_forms md_formMany md_seats md_now md_barAlways md_noPut md_far md_queue md_from md_by md_many md_is md_next md_rollSet md_rollAct md_rolls md_slots md_isKept) (fun _ => W_md cI cZ md md_thrown md_text md_textSize md_place md_letter md_first md_second md_third md_side md_hang md_forms md_formMany md_seats md_now md_barAlways md_noPut md_far md_queue md_from md_by md_many md_is md_next md_rollSet md_rollAct md_rolls md_slots md_isKept) ok_X8_isSo ml_X8_164 (c_X8_isSo (gl Γ) (gD Γ) cI cZ   p0 r_3 _ hm) (by decide) (by decide) rfl (Nat.le_of_ble_eq_true rfl) rfl rfl rfl rfl (by decide) rfl (fun _ => rfl) rfl dX8_isForce_26 ?_
      rintro r_5 _ hm
      refine x_if_eq hC 36 dX8_isForce_29 (by decide) (fun c_6 => ?_) (fun c_6 => ?_)
      · replace hm := hm.1 c_6
        refine x_iconst hC (0 : Int32) dX8_isForce_36 (by decide) ?_
        exact hR ((0 : Int32)) () [(0, .ref (md 0)), (1, .int p0), (2, .int p1), (3, .int r_3)] 37 hm rfl dX8_isForce_37
      · replace hm := hm.2 c_6
        refine x_iconst hC (1 : Int32) dX8_isForce_32 (by decide) ?_
        refine x_goto hC 37 dX8_isForce_33 (by decide) ?_
        exact hR ((1 : Int32)) () [(0, .ref (md 0)), (1, .int p0), (2, .int p1), (3, .int r_3)] 37 hm rfl dX8_isForce_37
  · replace hm := hm.2 c_2
    refine x_iconst hC (0 : Int32) dX8_isForce_8 (by decide) ?_
    exact hR ((0 : Int32)) () [(0, .ref (md 0)), (1, .int p0), (2, .int p1)] 9 hm rfl dX8_isForce_9

def wpJ_X8_votesIn_96 (md_forms : Nat → Int32) (md_seats : Nat → Int32) (K_51 : Int32 → Int32 → Int32 → Int32 → Int32 → Prop) (post : Int32 → Prop) (x1_20 : Int32) (x2_21 : Int32) (x3_22 : Int32) (x4_23 : Int32) (x5_24 : Int32) (s0_25 : Int32) : Prop := (s0_25 = 0 → ∀ x4_27 : Int32, x4_27 = x4_23 + ((0 : Int32)) → ∀ x5_28 : Int32, x5_28 = x5_24 + (1 : Int32) → K_51 x1_20 x2_21 x3_22 x4_27 x5_28) ∧ (¬ s0_25 = 0 → wp_X8_told md_forms x1_20 x5_24 ((2 : Int32)) (fun (r_29 : Int32) => (¬ ((x2_21 >>> (r_29 &&& 31)) &&& ((1 : Int32))) = ((1 : Int32)) → ∀ x4_31 : Int32, x4_31 = x4_23 + ((0 : Int32)) → ∀ x5_32 : Int32, x5_32 = x5_24 + (1 : Int32) → K_51 x1_20 x2_21 x3_22 x4_31 x5_32) ∧ (((x2_21 >>> (r_29 &&& 31)) &&& ((1 : Int32))) = ((1 : Int32)) → wp_X8_told md_forms x1_20 x5_24 ((3 : Int32)) (fun (r_33 : Int32) => ∀ x4_34 : Int32, x4_34 = x4_23 + r_33 → ∀ x5_35 : Int32, x5_35 = x5_24 + (1 : Int32) → K_51 x1_20 x2_21 x3_22 x4_34 x5_35))))
def wpJ_X8_votesIn_95 (md_forms : Nat → Int32) (md_seats : Nat → Int32) (K_51 : Int32 → Int32 → Int32 → Int32 → Int32 → Prop) (post : Int32 → Prop) (x1_15 : Int32) (x2_16 : Int32) (x3_17 : Int32) (x4_18 : Int32) (x5_19 : Int32) : Prop := wpJ_X8_votesIn_96 md_forms md_seats K_51 post x1_15 x2_16 x3_17 x4_18 x5_19 ((0 : Int32))
def wpL_X8_votesIn_51 (md_forms : Nat → Int32) (md_seats : Nat → Int32)  (post : Int32 → Prop) : Nat → Int32 → Int32 → Int32 → Int32 → Int32 → Prop
  | 0, _, _, _, _, _ => False
  | n + 1, x1_7, x2_8, x3_9, x4_10, x5_11 => (((5 : Int32)) ≤ x5_11 → post x4_10 ) ∧ (¬ ((5 : Int32)) ≤ x5_11 → wp_X8_isForce md_forms x1_7 x5_11 (fun (r_13 : Int32) => (r_13 = 0 → wpJ_X8_votesIn_95 md_forms md_seats (fun y0 y1 y2 y3 y4 => wpL_X8_votesIn_51 md_forms md_seats  post n y0 y1 y2 y3 y4) post x1_7 x2_8 x3_9 x4_10 x5_11) ∧ (¬ r_13 = 0 → wp_X8_told md_forms x1_7 x5_11 ((0 : Int32)) (fun (r_36 : Int32) => (¬ r_36 = ((4 : Int32)) → wpJ_X8_votesIn_95 md_forms md_seats (fun y0 y1 y2 y3 y4 => wpL_X8_votesIn_51 md_forms md_seats  post n y0 y1 y2 y3 y4) post x1_7 x2_8 x3_9 x4_10 x5_11) ∧ (r_36 = ((4 : Int32)) → wp_X8_told md_forms x1_7 x5_11 ((1 : Int32)) (fun (r_38 : Int32) => (¬ r_38 = x3_9 → wpJ_X8_votesIn_95 md_forms md_seats (fun y0 y1 y2 y3 y4 => wpL_X8_votesIn_51 md_forms md_seats  post n y0 y1 y2 y3 y4) post x1_7 x2_8 x3_9 x4_10 x5_11) ∧ (r_38 = x3_9 → wpJ_X8_votesIn_96 md_forms md_seats (fun y0 y1 y2 y3 y4 => wpL_X8_votesIn_51 md_forms md_seats  post n y0 y1 y2 y3 y4) post x1_7 x2_8 x3_9 x4_10 x5_11 ((1 : Int32)))))))))
def wpL_X8_votesIn_6 (md_forms : Nat → Int32) (md_seats : Nat → Int32)  (post : Int32 → Prop) : Nat → Int32 → Int32 → Int32 → Int32 → Int32 → Prop
  | 0, _, _, _, _, _ => False
  | n + 1, x1_1, x2_2, x3_3, x4_4, x5_5 => (((4 : Int32)) ≤ x5_5 → ∃ k51, wpL_X8_votesIn_51 md_forms md_seats  post k51 x1_1 x2_2 x3_3 x4_4 ((0 : Int32))) ∧ (¬ ((4 : Int32)) ≤ x5_5 → (¬ ((x2_2 >>> (x5_5 &&& 31)) &&& ((1 : Int32))) = ((1 : Int32)) → ∀ x4_42 : Int32, x4_42 = x4_4 + ((0 : Int32)) → ∀ x5_43 : Int32, x5_43 = x5_5 + (1 : Int32) → (wpL_X8_votesIn_6 md_forms md_seats  post n) x1_1 x2_2 x3_3 x4_42 x5_43) ∧ (((x2_2 >>> (x5_5 &&& 31)) &&& ((1 : Int32))) = ((1 : Int32)) → vp_in ((((4 : Int32)) * x3_3) + x5_5) 12 ∧ (∀ x4_44 : Int32, x4_44 = x4_4 + (md_seats ((((4 : Int32)) * x3_3) + x5_5).toNatClampNeg) → ∀ x5_45 : Int32, x5_45 = x5_5 + (1 : Int32) → (wpL_X8_votesIn_6 md_forms md_seats  post n) x1_1 x2_2 x3_3 x4_44 x5_45)))
def wp_X8_votesIn (md_forms : Nat → Int32) (md_seats : Nat → Int32) (p0 : Int32) (p1 : Int32) (p2 : Int32) (post : Int32 → Prop) : Prop := ∃ k6, wpL_X8_votesIn_6 md_forms md_seats  post k6 p0 p1 p2 ((0 : Int32)) ((0 : Int32))
set_option maxHeartbeats 4000000 in
set_option maxRecDepth 100000 in
theorem c_X8_votesIn (l : Launch) (D : va_G) (cI cZ : ClassId) (md : Nat → Nat) (md_thrown : Int32) (md_text : Nat → Int32) (md_textSize : Int32) (md_place : Int32) (md_letter : Int32) (md_first : Int32) (md_second : Int32) (md_third : Int32) (md_side : Int32) (md_hang : Int32) (md_forms : Nat → Int32) (md_formMany : Nat → Int32) (md_seats : Nat → Int32) (md_now : Int32) (md_barAlways : Int32) (md_noPut : Int32) (md_far : Nat → Int32) (md_queue : Nat → Int32) (md_from : Nat → Int32) (md_by : Nat → Int32) (md_many : Int32) (md_is : Nat → Int32) (md_next : Nat → Int32) (md_rollSet : Nat → Int32) (md_rollAct : Nat → Int32) (md_rolls : Int32) (md_slots : Nat → Int32) (md_isKept : Nat → Int32) (p0 : Int32) (p1 : Int32) (p2 : Int32) (post : Int32 → Prop) (hm : wp_X8_votesIn md_forms md_seats p0 p1 p2 post) : Mi l D cI cZ yX8_votesIn cX8_votesIn 7 .int 3 67 [.ref (md 0), .int p0, .int p1, .int p2] (W_md cI cZ md md_thrown md_text md_textSize md_place md_letter md_first md_second md_third md_side md_hang md_forms md_formMany md_seats md_now md_barAlways md_noPut md_far md_queue md_from md_by md_many md_is md_next md_rollSet md_rollAct md_rolls md_slots md_isKept) (S := Unit) (fun _ => W_md cI cZ md md_thrown md_text md_textSize md_place md_letter md_first md_second md_third md_side md_hang md_forms md_formMany md_seats md_now md_barAlways md_noPut md_far md_queue md_from md_by md_many md_is md_next md_rollSet md_rollAct md_rolls md_slots md_isKept) (fun r _ => post r ) := by
  refine mk_Mi (by decide +kernel) (Nat.le_of_ble_eq_true rfl) ?_
  intro Γ hl0 hD0 hC hR
  subst hl0
  subst hD0
  have hC : CX Γ cI cZ cX8_votesIn RX8 7 3 67 := hC
  show VV Γ (W_md cI cZ md md_thrown md_text md_textSize md_place md_letter md_first md_second md_third md_side md_hang md_forms md_formMany md_seats md_now md_barAlways md_noPut md_far md_queue md_from md_by md_many md_is md_next md_rollSet md_rollAct md_rolls md_slots md_isKept) [(0, .ref (md 0)), (1, .int p0), (2, .int p1), (3, .int p2)] 0 []
  have B_96 : ∀ (K_51 : Int32 → Int32 → Int32 → Int32 → Int32 → Prop) (hK_51 : ∀ (x1_7 : Int32) (x2_8 : Int32) (x3_9 : Int32) (x4_10 : Int32) (x5_11 : Int32), K_51 x1_7 x2_8 x3_9 x4_10 x5_11 → VV Γ (W_md cI cZ md md_thrown md_text md_textSize md_place md_letter md_first md_second md_third md_side md_hang md_forms md_formMany md_seats md_now md_barAlways md_noPut md_far md_queue md_from md_by md_many md_is md_next md_rollSet md_rollAct md_rolls md_slots md_isKept) [(0, .ref (md 0)), (1, .int x1_7), (2, .int x2_8), (3, .int x3_9), (4, .int x4_10), (5, .int x5_11)] 51 []) (x1_20 : Int32) (x2_21 : Int32) (x3_22 : Int32) (x4_23 : Int32) (x5_24 : Int32) (s0_25 : Int32), wpJ_X8_votesIn_96 md_forms md_seats K_51 post x1_20 x2_21 x3_22 x4_23 x5_24 s0_25 → VV Γ (W_md cI cZ md md_thrown md_text md_textSize md_place md_letter md_first md_second md_third md_side md_hang md_forms md_formMany md_seats md_now md_barAlways md_noPut md_far md_queue md_from md_by md_many md_is md_next md_rollSet md_rollAct md_rolls md_slots md_isKept) [(0, .ref (md 0)), (1, .int x1_20), (2, .int x2_21), (3, .int x3_22), (4, .int x4_23), (5, .int x5_24)] 96 [.int s0_25] := by
    intro K_51 hK_51 x1_20 x2_21 x3_22 x4_23 x5_24 s0_25 hm
    unfold wpJ_X8_votesIn_96 at hm
    refine x_istore hC [(0, .ref (md 0)), (1, .int x1_20), (2, .int x2_21), (3, .int x3_22), (4, .int x4_23), (5, .int x5_24), (6, .int s0_25)] [1, 2, 3, 4, 5, 6, 0] dX8_votesIn_96 (by decide) rfl ?_
    refine x_iload hC 4 dX8_votesIn_98 rfl ?_
    refine x_iload hC 6 dX8_votesIn_100 rfl ?_
    refine x_if_eq hC 132 dX8_votesIn_102 (by decide) (fun c_26 => ?_) (fun c_26 => ?_)
    · replace hm := hm.1 c_26
      refine x_iconst hC (0 : Int32) dX8_votesIn_132 (by decide) ?_
      refine x_iadd hC dX8_votesIn_133 ?_
      refine x_top (fun x4_27 ex4_27 => ?_)
      replace hm := hm x4_27 ex4_27
      refine x_istore hC [(0, .ref (md 0)), (1, .int x1_20), (2, .int x2_21), (3, .int x3_22), (4, .int x4_27), (5, .int x5_24), (6, .int s0_25)] [1, 2, 3, 4, 0, 5, 6] dX8_votesIn_134 (by decide) rfl ?_
      obtain ⟨x5_28, ex5_28⟩ : ∃ y : Int32, y = x5_24 + (1 : Int32) := ⟨_, rfl⟩
      replace hm := hm x5_28 ex5_28
      refine x_iinc hC 5 x5_28 [(0, .ref (md 0)), (1, .int x1_20), (2, .int x2_21), (3, .int x3_22), (4, .int x4_27), (5, .int x5_28), (6, .int s0_25)] [1, 2, 3, 4, 5, 0, 6] dX8_votesIn_136 rfl (by rw [ex5_28]; rfl) (by decide) rfl ?_
      refine x_goto hC 51 dX8_votesIn_139 (by decide) ?_
      refine x_lsub [0, 1, 2, 3, 4, 5] rfl ?_
      exact hK_51 x1_20 x2_21 x3_22 x4_27 x5_28 hm
    · replace hm := hm.2 c_26
      refine x_iload_n hC 2 dX8_votesIn_105 rfl ?_
      refine x_aload_n hC 0 dX8_votesIn_106 rfl ?_
      refine x_iload_n hC 1 dX8_votesIn_107 rfl ?_
      refine x_iload hC 5 dX8_votesIn_108 rfl ?_
      refine x_iconst hC (2 : Int32) dX8_votesIn_110 (by decide) ?_
      refine x_callVi hC _ [0, 1, 2, 3, 4, 5, 6, 7, 8, 9, 10, 11, 12, 13, 14] [] [0, 1, 2, 3, 4, 5, 6, 7, 8, 9, 10, 11, 12, 13, 14] (([] : va_W)) (fun _ => W_md cI cZ md md_thrown md_text md_textSize md_place md_letter md_first md_second md_third md_side md_hang md_forms md_formMany md_seats md_now md_barAlways md_noPut md_far md_queue md_from md_by md_many md_is md_next md_rollSet md_rollAct md_rolls md_slots md_isKept) ok_X8_told ml_X8_161 0 5 (c_X8_told (gl Γ) (gD Γ) cI cZ md md_thrown md_text md_textSize md_place md_letter md_first md_second md_third md_side md_hang md_forms md_formMany md_seats md_now md_barAlways md_noPut md_far md_queue md_from md_by md_many md_is md_next md_rollSet md_rollAct md_rolls md_slots md_isKept x1_20 x5_24 ((2 : Int32)) _ hm) (by decide) (by decide) rfl (Nat.le_of_ble_eq_true rfl) rfl rfl rfl rfl (by decide) rfl (fun _ => rfl) rfl rfl rfl rfl dX8_votesIn_111 ?_
      rintro r_29 _ hm
      refine x_ishr hC dX8_votesIn_114 ?_
      refine x_iconst hC (1 : Int32) dX8_votesIn_115 (by decide) ?_
      refine x_iand hC dX8_votesIn_116 ?_
      refine x_iconst hC (1 : Int32) dX8_votesIn_117 (by decide) ?_
      refine x_icmp_ne hC 132 dX8_votesIn_118 (by decide) (fun c_30 => ?_) (fun c_30 => ?_)
      · replace hm := hm.1 c_30
        refine x_iconst hC (0 : Int32) dX8_votesIn_132 (by decide) ?_
        refine x_iadd hC dX8_votesIn_133 ?_
        refine x_top (fun x4_31 ex4_31 => ?_)
        replace hm := hm x4_31 ex4_31
        refine x_istore hC [(0, .ref (md 0)), (1, .int x1_20), (2, .int x2_21), (3, .int x3_22), (4, .int x4_31), (5, .int x5_24), (6, .int s0_25)] [1, 2, 3, 4, 0, 5, 6] dX8_votesIn_134 (by decide) rfl ?_
        obtain ⟨x5_32, ex5_32⟩ : ∃ y : Int32, y = x5_24 + (1 : Int32) := ⟨_, rfl⟩
        replace hm := hm x5_32 ex5_32
        refine x_iinc hC 5 x5_32 [(0, .ref (md 0)), (1, .int x1_20), (2, .int x2_21), (3, .int x3_22), (4, .int x4_31), (5, .int x5_32), (6, .int s0_25)] [1, 2, 3, 4, 5, 0, 6] dX8_votesIn_136 rfl (by rw [ex5_32]; rfl) (by decide) rfl ?_
        refine x_goto hC 51 dX8_votesIn_139 (by decide) ?_
        refine x_lsub [0, 1, 2, 3, 4, 5] rfl ?_
        exact hK_51 x1_20 x2_21 x3_22 x4_31 x5_32 hm
      · replace hm := hm.2 c_30
        refine x_aload_n hC 0 dX8_votesIn_121 rfl ?_
        refine x_iload_n hC 1 dX8_votesIn_122 rfl ?_
        refine x_iload hC 5 dX8_votesIn_123 rfl ?_
        refine x_iconst hC (3 : Int32) dX8_votesIn_125 (by decide) ?_
        refine x_callVi hC _ [0, 1, 2, 3, 4, 5, 6, 7, 8, 9, 10, 11, 12, 13, 14] [] [0, 1, 2, 3, 4, 5, 6, 7, 8, 9, 10, 11, 12, 13, 14] (([] : va_W)) (fun _ => W_md cI cZ md md_thrown md_text md_textSize md_place md_letter md_first md_second md_third md_side md_hang md_forms md_formMany md_seats md_now md_barAlways md_noPut md_far md_queue md_from md_by md_many md_is md_next md_rollSet md_rollAct md_rolls md_slots md_isKept) ok_X8_told ml_X8_161 0 5 (c_X8_told (gl Γ) (gD Γ) cI cZ md md_thrown md_text md_textSize md_place md_letter md_first md_second md_third md_side md_hang md_forms md_formMany md_seats md_now md_barAlways md_noPut md_far md_queue md_from md_by md_many md_is md_next md_rollSet md_rollAct md_rolls md_slots md_isKept x1_20 x5_24 ((3 : Int32)) _ hm) (by decide) (by decide) rfl (Nat.le_of_ble_eq_true rfl) rfl rfl rfl rfl (by decide) rfl (fun _ => rfl) rfl rfl rfl rfl dX8_votesIn_126 ?_
        rintro r_33 _ hm
        refine x_goto hC 133 dX8_votesIn_129 (by decide) ?_
        refine x_iadd hC dX8_votesIn_133 ?_
        refine x_top (fun x4_34 ex4_34 => ?_)
        replace hm := hm x4_34 ex4_34
        refine x_istore hC [(0, .ref (md 0)), (1, .int x1_20), (2, .int x2_21), (3, .int x3_22), (4, .int x4_34), (5, .int x5_24), (6, .int s0_25)] [1, 2, 3, 4, 0, 5, 6] dX8_votesIn_134 (by decide) rfl ?_
        obtain ⟨x5_35, ex5_35⟩ : ∃ y : Int32, y = x5_24 + (1 : Int32) := ⟨_, rfl⟩
        replace hm := hm x5_35 ex5_35
        refine x_iinc hC 5 x5_35 [(0, .ref (md 0)), (1, .int x1_20), (2, .int x2_21), (3, .int x3_22), (4, .int x4_34), (5, .int x5_35), (6, .int s0_25)] [1, 2, 3, 4, 5, 0, 6] dX8_votesIn_136 rfl (by rw [ex5_35]; rfl) (by decide) rfl ?_
        refine x_goto hC 51 dX8_votesIn_139 (by decide) ?_
        refine x_lsub [0, 1, 2, 3, 4, 5] rfl ?_
        exact hK_51 x1_20 x2_21 x3_22 x4_34 x5_35 hm
  have B_95 : ∀ (K_51 : Int32 → Int32 → Int32 → Int32 → Int32 → Prop) (hK_51 : ∀ (x1_7 : Int32) (x2_8 : Int32) (x3_9 : Int32) (x4_10 : Int32) (x5_11 : Int32), K_51 x1_7 x2_8 x3_9 x4_10 x5_11 → VV Γ (W_md cI cZ md md_thrown md_text md_textSize md_place md_letter md_first md_second md_third md_side md_hang md_forms md_formMany md_seats md_now md_barAlways md_noPut md_far md_queue md_from md_by md_many md_is md_next md_rollSet md_rollAct md_rolls md_slots md_isKept) [(0, .ref (md 0)), (1, .int x1_7), (2, .int x2_8), (3, .int x3_9), (4, .int x4_10), (5, .int x5_11)] 51 []) (x1_15 : Int32) (x2_16 : Int32) (x3_17 : Int32) (x4_18 : Int32) (x5_19 : Int32), wpJ_X8_votesIn_95 md_forms md_seats K_51 post x1_15 x2_16 x3_17 x4_18 x5_19 → VV Γ (W_md cI cZ md md_thrown md_text md_textSize md_place md_letter md_first md_second md_third md_side md_hang md_forms md_formMany md_seats md_now md_barAlways md_noPut md_far md_queue md_from md_by md_many md_is md_next md_rollSet md_rollAct md_rolls md_slots md_isKept) [(0, .ref (md 0)), (1, .int x1_15), (2, .int x2_16), (3, .int x3_17), (4, .int x4_18), (5, .int x5_19)] 95 [] := by
    intro K_51 hK_51 x1_15 x2_16 x3_17 x4_18 x5_19 hm
    unfold wpJ_X8_votesIn_95 at hm
    refine x_iconst hC (0 : Int32) dX8_votesIn_95 (by decide) ?_
    exact B_96 K_51 hK_51  x1_15 x2_16 x3_17 x4_18 x5_19 ((0 : Int32)) hm
  have B_51 : ∀ (n : Nat) (x1_7 : Int32) (x2_8 : Int32) (x3_9 : Int32) (x4_10 : Int32) (x5_11 : Int32), wpL_X8_votesIn_51 md_forms md_seats  post n x1_7 x2_8 x3_9 x4_10 x5_11 → VV Γ (W_md cI cZ md md_thrown md_text md_textSize md_place md_letter md_first md_second md_third md_side md_hang md_forms md_formMany md_seats md_now md_barAlways md_noPut md_far md_queue md_from md_by md_many md_is md_next md_rollSet md_rollAct md_rolls md_slots md_isKept) [(0, .ref (md 0)), (1, .int x1_7), (2, .int x2_8), (3, .int x3_9), (4, .int x4_10), (5, .int x5_11)] 51 [] := by
    intro  n
    induction n with
    | zero => intro x1_7 x2_8 x3_9 x4_10 x5_11 hm; rw [wpL_X8_votesIn_51] at hm; exact hm.elim
    | succ n ih =>
      intro x1_7 x2_8 x3_9 x4_10 x5_11 hm
      rw [wpL_X8_votesIn_51] at hm
      refine x_iload hC 5 dX8_votesIn_51 rfl ?_
      refine x_iconst hC (5 : Int32) dX8_votesIn_53 (by decide) ?_
      refine x_icmp_ge hC 142 dX8_votesIn_54 (by decide) (fun c_12 => ?_) (fun c_12 => ?_)
      · replace hm := hm.1 c_12
        refine x_iload hC 4 dX8_votesIn_142 rfl ?_
        exact hR x4_10 () [(0, .ref (md 0)), (1, .int x1_7), (2, .int x2_8), (3, .int x3_9), (4, .int x4_10), (5, .int x5_11)] 144 hm rfl dX8_votesIn_144
      · replace hm := hm.2 c_12
        refine x_aload_n hC 0 dX8_votesIn_57 rfl ?_
        refine x_iload_n hC 1 dX8_votesIn_58 rfl ?_
        refine x_iload hC 5 dX8_votesIn_59 rfl ?_
        refine x_callVi hC _ [0, 1, 2, 3, 4, 5, 6, 7, 8, 9, 10, 11, 12, 13, 14] [] [0, 1, 2, 3, 4, 5, 6, 7, 8, 9, 10, 11, 12, 13, 14] (([] : va_W)) (fun _ => W_md cI cZ md md_thrown md_text md_textSize md_place md_letter md_first md_second md_third md_side md_hang md_forms md_formMany md_seats md_now md_barAlways md_noPut md_far md_queue md_from md_by md_many md_is md_next md_rollSet md_rollAct md_rolls md_slots md_isKept) ok_X8_isForce ml_X8_168 0 5 (c_X8_isForce (gl Γ) (gD Γ) cI cZ md md_thrown md_text md_textSize md_place md_letter md_first md_second md_third md_side md_hang md_forms md_formMany md_seats md_now md_barAlways md_noPut md_far md_queue md_from md_by md_many md_is md_next md_rollSet md_rollAct md_rolls md_slots md_isKept x1_7 x5_11 _ hm) (by decide) (by decide) rfl (Nat.le_of_ble_eq_true rfl) rfl rfl rfl rfl (by decide) rfl (fun _ => rfl) rfl rfl rfl rfl dX8_votesIn_61 ?_
        rintro r_13 _ hm
        refine x_if_eq hC 95 dX8_votesIn_64 (by decide) (fun c_14 => ?_) (fun c_14 => ?_)
        · replace hm := hm.1 c_14
          exact B_95 (fun y0 y1 y2 y3 y4 => wpL_X8_votesIn_51 md_forms md_seats  post n y0 y1 y2 y3 y4) ih  x1_7 x2_8 x3_9 x4_10 x5_11 hm
        · replace hm := hm.2 c_14
          refine x_aload_n hC 0 dX8_votesIn_67 rfl ?_
          refine x_iload_n hC 1 dX8_votesIn_68 rfl ?_
          refine x_iload hC 5 dX8_votesIn_69 rfl ?_
          refine x_iconst hC (0 : Int32) dX8_votesIn_71 (by decide) ?_
          refine x_callVi hC _ [0, 1, 2, 3, 4, 5, 6, 7, 8, 9, 10, 11, 12, 13, 14] [] [0, 1, 2, 3, 4, 5, 6, 7, 8, 9, 10, 11, 12, 13, 14] (([] : va_W)) (fun _ => W_md cI cZ md md_thrown md_text md_textSize md_place md_letter md_first md_second md_third md_side md_hang md_forms md_formMany md_seats md_now md_barAlways md_noPut md_far md_queue md_from md_by md_many md_is md_next md_rollSet md_rollAct md_rolls md_slots md_isKept) ok_X8_told ml_X8_161 0 5 (c_X8_told (gl Γ) (gD Γ) cI cZ md md_thrown md_text md_textSize md_place md_letter md_first md_second md_third md_side md_hang md_forms md_formMany md_seats md_now md_barAlways md_noPut md_far md_queue md_from md_by md_many md_is md_next md_rollSet md_rollAct md_rolls md_slots md_isKept x1_7 x5_11 ((0 : Int32)) _ hm) (by decide) (by decide) rfl (Nat.le_of_ble_eq_true rfl) rfl rfl rfl rfl (by decide) rfl (fun _ => rfl) rfl rfl rfl rfl dX8_votesIn_72 ?_
          rintro r_36 _ hm
          refine x_iconst hC (4 : Int32) dX8_votesIn_75 (by decide) ?_
          refine x_icmp_ne hC 95 dX8_votesIn_76 (by decide) (fun c_37 => ?_) (fun c_37 => ?_)
          · replace hm := hm.1 c_37
            exact B_95 (fun y0 y1 y2 y3 y4 => wpL_X8_votesIn_51 md_forms md_seats  post n y0 y1 y2 y3 y4) ih  x1_7 x2_8 x3_9 x4_10 x5_11 hm
          · replace hm := hm.2 c_37
            refine x_aload_n hC 0 dX8_votesIn_79 rfl ?_
            refine x_iload_n hC 1 dX8_votesIn_80 rfl ?_
            refine x_iload hC 5 dX8_votesIn_81 rfl ?_
            refine x_iconst hC (1 : Int32) dX8_votesIn_83 (by decide) ?_
            refine x_callVi hC _ [0, 1, 2, 3, 4, 5, 6, 7, 8, 9, 10, 11, 12, 13, 14] [] [0, 1, 2, 3, 4, 5, 6, 7, 8, 9, 10, 11, 12, 13, 14] (([] : va_W)) (fun _ => W_md cI cZ md md_thrown md_text md_textSize md_place md_letter md_first md_second md_third md_side md_hang md_forms md_formMany md_seats md_now md_barAlways md_noPut md_far md_queue md_from md_by md_many md_is md_next md_rollSet md_rollAct md_rolls md_slots md_isKept) ok_X8_told ml_X8_161 0 5 (c_X8_told (gl Γ) (gD Γ) cI cZ md md_thrown md_text md_textSize md_place md_letter md_first md_second md_third md_side md_hang md_forms md_formMany md_seats md_now md_barAlways md_noPut md_far md_queue md_from md_by md_many md_is md_next md_rollSet md_rollAct md_rolls md_slots md_isKept x1_7 x5_11 ((1 : Int32)) _ hm) (by decide) (by decide) rfl (Nat.le_of_ble_eq_true rfl) rfl rfl rfl rfl (by decide) rfl (fun _ => rfl) rfl rfl rfl rfl dX8_votesIn_84 ?_
            rintro r_38 _ hm
            refine x_iload_n hC 3 dX8_votesIn_87 rfl ?_
            refine x_icmp_ne hC 95 dX8_votesIn_88 (by decide) (fun c_39 => ?_) (fun c_39 => ?_)
            · replace hm := hm.1 c_39
              exact B_95 (fun y0 y1 y2 y3 y4 => wpL_X8_votesIn_51 md_forms md_seats  post n y0 y1 y2 y3 y4) ih  x1_7 x2_8 x3_9 x4_10 x5_11 hm
            · replace hm := hm.2 c_39
              refine x_iconst hC (1 : Int32) dX8_votesIn_91 (by decide) ?_
              refine x_goto hC 96 dX8_votesIn_92 (by decide) ?_
              exact B_96 (fun y0 y1 y2 y3 y4 => wpL_X8_votesIn_51 md_forms md_seats  post n y0 y1 y2 y3 y4) ih  x1_7 x2_8 x3_9 x4_10 x5_11 ((1 : Int32)) hm
  have B_6 : ∀ (n : Nat) (x1_1 : Int32) (x2_2 : Int32) (x3_3 : Int32) (x4_4 : Int32) (x5_5 : Int32), wpL_X8_votesIn_6 md_forms md_seats  post n x1_1 x2_2 x3_3 x4_4 x5_5 → VV Γ (W_md cI cZ md md_thrown md_text md_textSize md_place md_letter md_first md_second md_third md_side md_hang md_forms md_formMany md_seats md_now md_barAlways md_noPut md_far md_queue md_from md_by md_many md_is md_next md_rollSet md_rollAct md_rolls md_slots md_isKept) [(0, .ref (md 0)), (1, .int x1_1), (2, .int x2_2), (3, .int x3_3), (4, .int x4_4), (5, .int x5_5)] 6 [] := by
    intro  n
    induction n with
    | zero => intro x1_1 x2_2 x3_3 x4_4 x5_5 hm; rw [wpL_X8_votesIn_6] at hm; exact hm.elim
    | succ n ih =>
      intro x1_1 x2_2 x3_3 x4_4 x5_5 hm
      rw [wpL_X8_votesIn_6] at hm
      refine x_iload hC 5 dX8_votesIn_6 rfl ?_
      refine x_iconst hC (4 : Int32) dX8_votesIn_8 (by decide) ?_
      refine x_icmp_ge hC 48 dX8_votesIn_9 (by decide) (fun c_6 => ?_) (fun c_6 => ?_)
      · replace hm := hm.1 c_6
        refine x_iconst hC (0 : Int32) dX8_votesIn_48 (by decide) ?_
        refine x_istore hC [(0, .ref (md 0)), (1, .int x1_1), (2, .int x2_2), (3, .int x3_3), (4, .int x4_4), (5, .int ((0 : Int32)))] [1, 2, 3, 4, 5, 0] dX8_votesIn_49 (by decide) rfl ?_
        obtain ⟨n_40, hm⟩ := hm
        exact B_51  n_40 x1_1 x2_2 x3_3 x4_4 ((0 : Int32)) hm
      · replace hm := hm.2 c_6
        refine x_iload hC 4 dX8_votesIn_12 rfl ?_
        refine x_iload_n hC 2 dX8_votesIn_14 rfl ?_
        refine x_iload hC 5 dX8_votesIn_15 rfl ?_
        refine x_ishr hC dX8_votesIn_17 ?_
        refine x_iconst hC (1 : Int32) dX8_votesIn_18 (by decide) ?_
        refine x_iand hC dX8_votesIn_19 ?_
        refine x_iconst hC (1 : Int32) dX8_votesIn_20 (by decide) ?_
        refine x_icmp_ne hC 38 dX8_votesIn_21 (by decide) (fun c_41 => ?_) (fun c_41 => ?_)
        · replace hm := hm.1 c_41
          refine x_iconst hC (0 : Int32) dX8_votesIn_38 (by decide) ?_
          refine x_iadd hC dX8_votesIn_39 ?_
          refine x_top (fun x4_42 ex4_42 => ?_)
          replace hm := hm x4_42 ex4_42
          refine x_istore hC [(0, .ref (md 0)), (1, .int x1_1), (2, .int x2_2), (3, .int x3_3), (4, .int x4_42), (5, .int x5_5)] [1, 2, 3, 4, 0, 5] dX8_votesIn_40 (by decide) rfl ?_
          obtain ⟨x5_43, ex5_43⟩ : ∃ y : Int32, y = x5_5 + (1 : Int32) := ⟨_, rfl⟩
          replace hm := hm x5_43 ex5_43
          refine x_iinc hC 5 x5_43 [(0, .ref (md 0)), (1, .int x1_1), (2, .int x2_2), (3, .int x3_3), (4, .int x4_42), (5, .int x5_43)] [1, 2, 3, 4, 5, 0] dX8_votesIn_42 rfl (by rw [ex5_43]; rfl) (by decide) rfl ?_
          refine x_goto hC 6 dX8_votesIn_45 (by decide) ?_
          exact ih x1_1 x2_2 x3_3 x4_42 x5_43 hm
        · replace hm := hm.2 c_41
          refine x_aload_n hC 0 dX8_votesIn_24 rfl ?_
          refine x_get hC 5 inX8g 0 rfl rfl 12 (by decide) fl_X8_19 rfl dX8_votesIn_25 ?_
          refine x_iconst hC (4 : Int32) dX8_votesIn_28 (by decide) ?_
          refine x_iload_n hC 3 dX8_votesIn_29 rfl ?_
          refine x_imul hC dX8_votesIn_30 ?_
          refine x_iload hC 5 dX8_votesIn_31 rfl ?_
          refine x_iadd hC dX8_votesIn_33 ?_
          refine x_iald hC 4 rfl hm.1 dX8_votesIn_34 ?_
          replace hm := hm.2
          refine x_goto hC 39 dX8_votesIn_35 (by decide) ?_
          refine x_iadd hC dX8_votesIn_39 ?_
          refine x_top (fun x4_44 ex4_44 => ?_)
          replace hm := hm x4_44 ex4_44
          refine x_istore hC [(0, .ref (md 0)), (1, .int x1_1), (2, .int x2_2), (3, .int x3_3), (4, .int x4_44), (5, .int x5_5)] [1, 2, 3, 4, 0, 5] dX8_votesIn_40 (by decide) rfl ?_
          obtain ⟨x5_45, ex5_45⟩ : ∃ y : Int32, y = x5_5 + (1 : Int32) := ⟨_, rfl⟩
          replace hm := hm x5_45 ex5_45
          refine x_iinc hC 5 x5_45 [(0, .ref (md 0)), (1, .int x1_1), (2, .int x2_2), (3, .int x3_3), (4, .int x4_44), (5, .int x5_45)] [1, 2, 3, 4, 5, 0] dX8_votesIn_42 rfl (by rw [ex5_45]; rfl) (by decide) rfl ?_
          refine x_goto hC 6 dX8_votesIn_45 (by decide) ?_
          exact ih x1_1 x2_2 x3_3 x4_44 x5_45 hm
  unfold wp_X8_votesIn at hm
  refine x_iconst hC (0 : Int32) dX8_votesIn_0 (by decide) ?_
  refine x_istore hC [(0, .ref (md 0)), (1, .int p0), (2, .int p1), (3, .int p2), (4, .int ((0 : Int32)))] [1, 2, 3, 4, 0] dX8_votesIn_1 (by decide) rfl ?_
  refine x_iconst hC (0 : Int32) dX8_votesIn_3 (by decide) ?_
  refine x_istore hC [(0, .ref (md 0)), (1, .int p0), (2, .int p1), (3, .int p2), (4, .int ((0 : Int32))), (5, .int ((0 : Int32)))] [1, 2, 3, 4, 5, 0] dX8_votesIn_4 (by decide) rfl ?_
  obtain ⟨n_46, hm⟩ := hm
  exact B_6  n_46 p0 p1 p2 ((0 : Int32)) ((0 : Int32)) hm

def wpL_X8_isBarred_17 (md_forms : Nat → Int32) (md_barAlways : Int32)  (post : Int32 → Prop) : Nat → Int32 → Int32 → Int32 → Int32 → Prop
  | 0, _, _, _, _ => False
  | n + 1, x1_2, x2_3, x3_4, x4_5 => (((5 : Int32)) ≤ x4_5 → isB x3_4 ∧ post x3_4 ) ∧ (¬ ((5 : Int32)) ≤ x4_5 → (¬ x3_4 = 0 → ∀ x4_8 : Int32, x4_8 = x4_5 + (1 : Int32) → (wpL_X8_isBarred_17 md_forms md_barAlways  post n) x1_2 x2_3 ((1 : Int32)) x4_8) ∧ (x3_4 = 0 → wp_X8_isForce md_forms x1_2 x4_5 (fun (r_9 : Int32) => (r_9 = 0 → ∀ x4_11 : Int32, x4_11 = x4_5 + (1 : Int32) → (wpL_X8_isBarred_17 md_forms md_barAlways  post n) x1_2 x2_3 ((0 : Int32)) x4_11) ∧ (¬ r_9 = 0 → wp_X8_told md_forms x1_2 x4_5 ((0 : Int32)) (fun (r_12 : Int32) => (¬ r_12 = ((3 : Int32)) → ∀ x4_14 : Int32, x4_14 = x4_5 + (1 : Int32) → (wpL_X8_isBarred_17 md_forms md_barAlways  post n) x1_2 x2_3 ((0 : Int32)) x4_14) ∧ (r_12 = ((3 : Int32)) → wp_X8_told md_forms x1_2 x4_5 ((1 : Int32)) (fun (r_15 : Int32) => (¬ r_15 = x2_3 → ∀ x4_17 : Int32, x4_17 = x4_5 + (1 : Int32) → (wpL_X8_isBarred_17 md_forms md_barAlways  post n) x1_2 x2_3 ((0 : Int32)) x4_17) ∧ (r_15 = x2_3 → ∀ x4_18 : Int32, x4_18 = x4_5 + (1 : Int32) → (wpL_X8_isBarred_17 md_forms md_barAlways  post n) x1_2 x2_3 ((1 : Int32)) x4_18))))))))
def wp_X8_isBarred (md_forms : Nat → Int32) (md_barAlways : Int32) (p0 : Int32) (p1 : Int32) (post : Int32 → Prop) : Prop := (¬ md_barAlways = p1 → ∃ k17, wpL_X8_isBarred_17 md_forms md_barAlways  post k17 p0 p1 ((0 : Int32)) ((0 : Int32))) ∧ (md_barAlways = p1 → ∃ k17, wpL_X8_isBarred_17 md_forms md_barAlways  post k17 p0 p1 ((1 : Int32)) ((0 : Int32)))
set_option maxHeartbeats 4000000 in
set_option maxRecDepth 100000 in
theorem c_X8_isBarred (l : Launch) (D : va_G) (cI cZ : ClassId) (md : Nat → Nat) (md_thrown : Int32) (md_text : Nat → Int32) (md_textSize : Int32) (md_place : Int32) (md_letter : Int32) (md_first : Int32) (md_second : Int32) (md_third : Int32) (md_side : Int32) (md_hang : Int32) (md_forms : Nat → Int32) (md_formMany : Nat → Int32) (md_seats : Nat → Int32) (md_now : Int32) (md_barAlways : Int32) (md_noPut : Int32) (md_far : Nat → Int32) (md_queue : Nat → Int32) (md_from : Nat → Int32) (md_by : Nat → Int32) (md_many : Int32) (md_is : Nat → Int32) (md_next : Nat → Int32) (md_rollSet : Nat → Int32) (md_rollAct : Nat → Int32) (md_rolls : Int32) (md_slots : Nat → Int32) (md_isKept : Nat → Int32) (p0 : Int32) (p1 : Int32) (post : Int32 → Prop) (hm : wp_X8_isBarred md_forms md_barAlways p0 p1 post) : Mi l D cI cZ yX8_isBarred cX8_isBarred 5 .boolean 3 67 [.ref (md 0), .int p0, .int p1] (W_md cI cZ md md_thrown md_text md_textSize md_place md_letter md_first md_second md_third md_side md_hang md_forms md_formMany md_seats md_now md_barAlways md_noPut md_far md_queue md_from md_by md_many md_is md_next md_rollSet md_rollAct md_rolls md_slots md_isKept) (S := Unit) (fun _ => W_md cI cZ md md_thrown md_text md_textSize md_place md_letter md_first md_second md_third md_side md_hang md_forms md_formMany md_seats md_now md_barAlways md_noPut md_far md_queue md_from md_by md_many md_is md_next md_rollSet md_rollAct md_rolls md_slots md_isKept) (fun r _ => post r ) := by
  refine mk_Mi (by decide +kernel) (Nat.le_of_ble_eq_true rfl) ?_
  intro Γ hl0 hD0 hC hR
  subst hl0
  subst hD0
  have hC : CX Γ cI cZ cX8_isBarred RX8 5 3 67 := hC
  show VV Γ (W_md cI cZ md md_thrown md_text md_textSize md_place md_letter md_first md_second md_third md_side md_hang md_forms md_formMany md_seats md_now md_barAlways md_noPut md_far md_queue md_from md_by md_many md_is md_next md_rollSet md_rollAct md_rolls md_slots md_isKept) [(0, .ref (md 0)), (1, .int p0), (2, .int p1)] 0 []
  have B_17 : ∀ (n : Nat) (x1_2 : Int32) (x2_3 : Int32) (x3_4 : Int32) (x4_5 : Int32), wpL_X8_isBarred_17 md_forms md_barAlways  post n x1_2 x2_3 x3_4 x4_5 → VV Γ (W_md cI cZ md md_thrown md_text md_textSize md_place md_letter md_first md_second md_third md_side md_hang md_forms md_formMany md_seats md_now md_barAlways md_noPut md_far md_queue md_from md_by md_many md_is md_next md_rollSet md_rollAct md_rolls md_slots md_isKept) [(0, .ref (md 0)), (1, .int x1_2), (2, .int x2_3), (3, .int x3_4), (4, .int x4_5)] 17 [] := by
    intro  n
    induction n with
    | zero => intro x1_2 x2_3 x3_4 x4_5 hm; rw [wpL_X8_isBarred_17] at hm; exact hm.elim
    | succ n ih =>
      intro x1_2 x2_3 x3_4 x4_5 hm
      rw [wpL_X8_isBarred_17] at hm
      refine x_iload hC 4 dX8_isBarred_17 rfl ?_
      refine x_iconst hC (5 : Int32) dX8_isBarred_19 (by decide) ?_
      refine x_icmp_ge hC 73 dX8_isBarred_20 (by decide) (fun c_6 => ?_) (fun c_6 => ?_)
      · replace hm := hm.1 c_6
        refine x_iload_n hC 3 dX8_isBarred_73 rfl ?_
        exact hR x3_4 () [(0, .ref (md 0)), (1, .int x1_2), (2, .int x2_3), (3, .int x3_4), (4, .int x4_5)] 74 hm.2 hm.1 dX8_isBarred_74
      · replace hm := hm.2 c_6
        refine x_iload_n hC 3 dX8_isBarred_23 rfl ?_
        refine x_if_ne hC 61 dX8_isBarred_24 (by decide) (fun c_7 => ?_) (fun c_7 => ?_)
        · replace hm := hm.1 c_7
          refine x_iconst hC (1 : Int32) dX8_isBarred_61 (by decide) ?_
          refine x_goto hC 66 dX8_isBarred_62 (by decide) ?_
          refine x_istore_n hC [(0, .ref (md 0)), (1, .int x1_2), (2, .int x2_3), (3, .int ((1 : Int32))), (4, .int x4_5)] [1, 2, 3, 0, 4] dX8_isBarred_66 (by decide) rfl ?_
          obtain ⟨x4_8, ex4_8⟩ : ∃ y : Int32, y = x4_5 + (1 : Int32) := ⟨_, rfl⟩
          replace hm := hm x4_8 ex4_8
          refine x_iinc hC 4 x4_8 [(0, .ref (md 0)), (1, .int x1_2), (2, .int x2_3), (3, .int ((1 : Int32))), (4, .int x4_8)] [1, 2, 3, 4, 0] dX8_isBarred_67 rfl (by rw [ex4_8]; rfl) (by decide) rfl ?_
          refine x_goto hC 17 dX8_isBarred_70 (by decide) ?_
          exact ih x1_2 x2_3 ((1 : Int32)) x4_8 hm
        · replace hm := hm.2 c_7
          refine x_aload_n hC 0 dX8_isBarred_27 rfl ?_
          refine x_iload_n hC 1 dX8_isBarred_28 rfl ?_
          refine x_iload hC 4 dX8_isBarred_29 rfl ?_
          refine x_callVi hC _ [0, 1, 2, 3, 4, 5, 6, 7, 8, 9, 10, 11, 12, 13, 14] [] [0, 1, 2, 3, 4, 5, 6, 7, 8, 9, 10, 11, 12, 13, 14] (([] : va_W)) (fun _ => W_md cI cZ md md_thrown md_text md_textSize md_place md_letter md_first md_second md_third md_side md_hang md_forms md_formMany md_seats md_now md_barAlways md_noPut md_far md_queue md_from md_by md_many md_is md_next md_rollSet md_rollAct md_rolls md_slots md_isKept) ok_X8_isForce ml_X8_168 0 5 (c_X8_isForce (gl Γ) (gD Γ) cI cZ md md_thrown md_text md_textSize md_place md_letter md_first md_second md_third md_side md_hang md_forms md_formMany md_seats md_now md_barAlways md_noPut md_far md_queue md_from md_by md_many md_is md_next md_rollSet md_rollAct md_rolls md_slots md_isKept x1_2 x4_5 _ hm) (by decide) (by decide) rfl (Nat.le_of_ble_eq_true rfl) rfl rfl rfl rfl (by decide) rfl (fun _ => rfl) rfl rfl rfl rfl dX8_isBarred_31 ?_
          rintro r_9 _ hm
          refine x_if_eq hC 65 dX8_isBarred_34 (by decide) (fun c_10 => ?_) (fun c_10 => ?_)
          · replace hm := hm.1 c_10
            refine x_iconst hC (0 : Int32) dX8_isBarred_65 (by decide) ?_
            refine x_istore_n hC [(0, .ref (md 0)), (1, .int x1_2), (2, .int x2_3), (3, .int ((0 : Int32))), (4, .int x4_5)] [1, 2, 3, 0, 4] dX8_isBarred_66 (by decide) rfl ?_
            obtain ⟨x4_11, ex4_11⟩ : ∃ y : Int32, y = x4_5 + (1 : Int32) := ⟨_, rfl⟩
            replace hm := hm x4_11 ex4_11
            refine x_iinc hC 4 x4_11 [(0, .ref (md 0)), (1, .int x1_2), (2, .int x2_3), (3, .int ((0 : Int32))), (4, .int x4_11)] [1, 2, 3, 4, 0] dX8_isBarred_67 rfl (by rw [ex4_11]; rfl) (by decide) rfl ?_
            refine x_goto hC 17 dX8_isBarred_70 (by decide) ?_
            exact ih x1_2 x2_3 ((0 : Int32)) x4_11 hm
          · replace hm := hm.2 c_10
            refine x_aload_n hC 0 dX8_isBarred_37 rfl ?_
            refine x_iload_n hC 1 dX8_isBarred_38 rfl ?_
            refine x_iload hC 4 dX8_isBarred_39 rfl ?_
            refine x_iconst hC (0 : Int32) dX8_isBarred_41 (by decide) ?_
            refine x_callVi hC _ [0, 1, 2, 3, 4, 5, 6, 7, 8, 9, 10, 11, 12, 13, 14] [] [0, 1, 2, 3, 4, 5, 6, 7, 8, 9, 10, 11, 12, 13, 14] (([] : va_W)) (fun _ => W_md cI cZ md md_thrown md_text md_textSize md_place md_letter md_first md_second md_third md_side md_hang md_forms md_formMany md_seats md_now md_barAlways md_noPut md_far md_queue md_from md_by md_many md_is md_next md_rollSet md_rollAct md_rolls md_slots md_isKept) ok_X8_told ml_X8_161 0 5 (c_X8_told (gl Γ) (gD Γ) cI cZ md md_thrown md_text md_textSize md_place md_letter md_first md_second md_third md_side md_hang md_forms md_formMany md_seats md_now md_barAlways md_noPut md_far md_queue md_from md_by md_many md_is md_next md_rollSet md_rollAct md_rolls md_slots md_isKept x1_2 x4_5 ((0 : Int32)) _ hm) (by decide) (by decide) rfl (Nat.le_of_ble_eq_true rfl) rfl rfl rfl rfl (by decide) rfl (fun _ => rfl) rfl rfl rfl rfl dX8_isBarred_42 ?_
            rintro r_12 _ hm
            refine x_iconst hC (3 : Int32) dX8_isBarred_45 (by decide) ?_
            refine x_icmp_ne hC 65 dX8_isBarred_46 (by decide) (fun c_13 => ?_) (fun c_13 => ?_)
            · replace hm := hm.1 c_13
              refine x_iconst hC (0 : Int32) dX8_isBarred_65 (by decide) ?_
              refine x_istore_n hC [(0, .ref (md 0)), (1, .int x1_2), (2, .int x2_3), (3, .int ((0 : Int32))), (4, .int x4_5)] [1, 2, 3, 0, 4] dX8_isBarred_66 (by decide) rfl ?_
              obtain ⟨x4_14, ex4_14⟩ : ∃ y : Int32, y = x4_5 + (1 : Int32) := ⟨_, rfl⟩
              replace hm := hm x4_14 ex4_14
              refine x_iinc hC 4 x4_14 [(0, .ref (md 0)), (1, .int x1_2), (2, .int x2_3), (3, .int ((0 : Int32))), (4, .int x4_14)] [1, 2, 3, 4, 0] dX8_isBarred_67 rfl (by rw [ex4_14]; rfl) (by decide) rfl ?_
              refine x_goto hC 17 dX8_isBarred_70 (by decide) ?_
              exact ih x1_2 x2_3 ((0 : Int32)) x4_14 hm
            · replace hm := hm.2 c_13
              refine x_aload_n hC 0 dX8_isBarred_49 rfl ?_
              refine x_iload_n hC 1 dX8_isBarred_50 rfl ?_
              refine x_iload hC 4 dX8_isBarred_51 rfl ?_
              refine x_iconst hC (1 : Int32) dX8_isBarred_53 (by decide) ?_
              refine x_callVi hC _ [0, 1, 2, 3, 4, 5, 6, 7, 8, 9, 10, 11, 12, 13, 14] [] [0, 1, 2, 3, 4, 5, 6, 7, 8, 9, 10, 11, 12, 13, 14] (([] : va_W)) (fun _ => W_md cI cZ md md_thrown md_text md_textSize md_place md_letter md_first md_second md_third md_side md_hang md_forms md_formMany md_seats md_now md_barAlways md_noPut md_far md_queue md_from md_by md_many md_is md_next md_rollSet md_rollAct md_rolls md_slots md_isKept) ok_X8_told ml_X8_161 0 5 (c_X8_told (gl Γ) (gD Γ) cI cZ md md_thrown md_text md_textSize md_place md_letter md_first md_second md_third md_side md_hang md_forms md_formMany md_seats md_now md_barAlways md_noPut md_far md_queue md_from md_by md_many md_is md_next md_rollSet md_rollAct md_rolls md_slots md_isKept x1_2 x4_5 ((1 : Int32)) _ hm) (by decide) (by decide) rfl (Nat.le_of_ble_eq_true rfl) rfl rfl rfl rfl (by decide) rfl (fun _ => rfl) rfl rfl rfl rfl dX8_isBarred_54 ?_
              rintro r_15 _ hm
              refine x_iload_n hC 2 dX8_isBarred_57 rfl ?_
              refine x_icmp_ne hC 65 dX8_isBarred_58 (by decide) (fun c_16 => ?_) (fun c_16 => ?_)
              · replace hm := hm.1 c_16
                refine x_iconst hC (0 : Int32) dX8_isBarred_65 (by decide) ?_
                refine x_istore_n hC [(0, .ref (md 0)), (1, .int x1_2), (2, .int x2_3), (3, .int ((0 : Int32))), (4, .int x4_5)] [1, 2, 3, 0, 4] dX8_isBarred_66 (by decide) rfl ?_
                obtain ⟨x4_17, ex4_17⟩ : ∃ y : Int32, y = x4_5 + (1 : Int32) := ⟨_, rfl⟩
                replace hm := hm x4_17 ex4_17
                refine x_iinc hC 4 x4_17 [(0, .ref (md 0)), (1, .int x1_2), (2, .int x2_3), (3, .int ((0 : Int32))), (4, .int x4_17)] [1, 2, 3, 4, 0] dX8_isBarred_67 rfl (by rw [ex4_17]; rfl) (by decide) rfl ?_
                refine x_goto hC 17 dX8_isBarred_70 (by decide) ?_
                exact ih x1_2 x2_3 ((0 : Int32)) x4_17 hm
              · replace hm := hm.2 c_16
                refine x_iconst hC (1 : Int32) dX8_isBarred_61 (by decide) ?_
                refine x_goto hC 66 dX8_isBarred_62 (by decide) ?_
                refine x_istore_n hC [(0, .ref (md 0)), (1, .int x1_2), (2, .int x2_3), (3, .int ((1 : Int32))), (4, .int x4_5)] [1, 2, 3, 0, 4] dX8_isBarred_66 (by decide) rfl ?_
                obtain ⟨x4_18, ex4_18⟩ : ∃ y : Int32, y = x4_5 + (1 : Int32) := ⟨_, rfl⟩
                replace hm := hm x4_18 ex4_18
                refine x_iinc hC 4 x4_18 [(0, .ref (md 0)), (1, .int x1_2), (2, .int x2_3), (3, .int ((1 : Int32))), (4, .int x4_18)] [1, 2, 3, 4, 0] dX8_isBarred_67 rfl (by rw [ex4_18]; rfl) (by decide) rfl ?_
                refine x_goto hC 17 dX8_isBarred_70 (by decide) ?_
                exact ih x1_2 x2_3 ((1 : Int32)) x4_18 hm
  unfold wp_X8_isBarred at hm
  refine x_aload_n hC 0 dX8_isBarred_0 rfl ?_
  refine x_get hC 5 inX8g 0 rfl rfl 14 (by decide) fl_X8_22 rfl dX8_isBarred_1 ?_
  refine x_iload_n hC 2 dX8_isBarred_4 rfl ?_
  refine x_icmp_ne hC 12 dX8_isBarred_5 (by decide) (fun c_1 => ?_) (fun c_1 => ?_)
  · replace hm := hm.1 c_1
    refine x_iconst hC (0 : Int32) dX8_isBarred_12 (by decide) ?_
    refine x_istore_n hC [(0, .ref (md 0)), (1, .int p0), (2, .int p1), (3, .int ((0 : Int32)))] [1, 2, 3, 0] dX8_isBarred_13 (by decide) rfl ?_
    refine x_iconst hC (0 : Int32) dX8_isBarred_14 (by decide) ?_
    refine x_istore hC [(0, .ref (md 0)), (1, .int p0), (2, .int p1), (3, .int ((0 : Int32))), (4, .int ((0 : Int32)))] [1, 2, 3, 4, 0] dX8_isBarred_15 (by decide) rfl ?_
    obtain ⟨n_19, hm⟩ := hm
    exact B_17  n_19 p0 p1 ((0 : Int32)) ((0 : Int32)) hm
  · replace hm := hm.2 c_1
    refine x_iconst hC (1 : Int32) dX8_isBarred_8 (by decide) ?_
    refine x_goto hC 13 dX8_isBarred_9 (by decide) ?_
    refine x_istore_n hC [(0, .ref (md 0)), (1, .int p0), (2, .int p1), (3, .int ((1 : Int32)))] [1, 2, 3, 0] dX8_isBarred_13 (by decide) rfl ?_
    refine x_iconst hC (0 : Int32) dX8_isBarred_14 (by decide) ?_
    refine x_istore hC [(0, .ref (md 0)), (1, .int p0), (2, .int p1), (3, .int ((1 : Int32))), (4, .int ((0 : Int32)))] [1, 2, 3, 4, 0] dX8_isBarred_15 (by decide) rfl ?_
    obtain ⟨n_20, hm⟩ := hm
    exact B_17  n_20 p0 p1 ((1 : Int32)) ((0 : Int32)) hm

def wp_X8_turned  (p0 : Int32) (p1 : Int32) (p2 : Int32) (post : Int32 → Prop) : Prop := post ((p0 &&& ((((1 : Int32)) <<< (p1 &&& 31)) ^^^ ((-1 : Int32)))) ||| (p2 <<< (p1 &&& 31))) 
set_option maxHeartbeats 4000000 in
set_option maxRecDepth 100000 in
theorem c_X8_turned (l : Launch) (D : va_G) (cI cZ : ClassId)   (p0 : Int32) (p1 : Int32) (p2 : Int32) (post : Int32 → Prop) (hm : wp_X8_turned  p0 p1 p2 post) : Mi l D cI cZ yX8_turned cX8_turned 3 .int 0 0 [.int p0, .int p1, .int p2] (([] : va_W)) (S := Unit) (fun _ => ([] : va_W)) (fun r _ => post r ) := by
  refine mk_Mi (by decide +kernel) (Nat.le_of_ble_eq_true rfl) ?_
  intro Γ hl0 hD0 hC hR
  subst hl0
  subst hD0
  have hC : CX Γ cI cZ cX8_turned RX8 3 0 0 := hC
  show VV Γ (([] : va_W)) [(0, .int p0), (1, .int p1), (2, .int p2)] 0 []
  unfold wp_X8_turned at hm
  refine x_iload_n hC 0 dX8_turned_0 rfl ?_
  refine x_iconst hC (1 : Int32) dX8_turned_1 (by decide) ?_
  refine x_iload_n hC 1 dX8_turned_2 rfl ?_
  refine x_ishl hC dX8_turned_3 ?_
  refine x_iconst hC (-1 : Int32) dX8_turned_4 (by decide) ?_
  refine x_ixor hC dX8_turned_5 ?_
  refine x_iand hC dX8_turned_6 ?_
  refine x_iload_n hC 2 dX8_turned_7 rfl ?_
  refine x_iload_n hC 1 dX8_turned_8 rfl ?_
  refine x_ishl hC dX8_turned_9 ?_
  refine x_ior hC dX8_turned_10 ?_
  exact hR ((p0 &&& ((((1 : Int32)) <<< (p1 &&& 31)) ^^^ ((-1 : Int32)))) ||| (p2 <<< (p1 &&& 31))) () [(0, .int p0), (1, .int p1), (2, .int p2)] 11 hm rfl dX8_turned_11

def wp_X8_put  (p0 : Int32) (p1 : Int32) (p2 : Int32) (post : Int32 → Prop) : Prop := post ((p0 &&& ((((3 : Int32)) <<< ((((4 : Int32)) + (((2 : Int32)) * p1)) &&& 31)) ^^^ ((-1 : Int32)))) ||| (p2 <<< ((((4 : Int32)) + (((2 : Int32)) * p1)) &&& 31))) 
set_option maxHeartbeats 4000000 in
set_option maxRecDepth 100000 in
theorem c_X8_put (l : Launch) (D : va_G) (cI cZ : ClassId)   (p0 : Int32) (p1 : Int32) (p2 : Int32) (post : Int32 → Prop) (hm : wp_X8_put  p0 p1 p2 post) : Mi l D cI cZ yX8_put cX8_put 3 .int 0 0 [.int p0, .int p1, .int p2] (([] : va_W)) (S := Unit) (fun _ => ([] : va_W)) (fun r _ => post r ) := by
  refine mk_Mi (by decide +kernel) (Nat.le_of_ble_eq_true rfl) ?_
  intro Γ hl0 hD0 hC hR
  subst hl0
  subst hD0
  have hC : CX Γ cI cZ cX8_put RX8 3 0 0 := hC
  show VV Γ (([] : va_W)) [(0, .int p0), (1, .int p1), (2, .int p2)] 0 []
  unfold wp_X8_put at hm
  refine x_iload_n hC 0 dX8_put_0 rfl ?_
  refine x_iconst hC (3 : Int32) dX8_put_1 (by decide) ?_
  refine x_iconst hC (4 : Int32) dX8_put_2 (by decide) ?_
  refine x_iconst hC (2 : Int32) dX8_put_3 (by decide) ?_
  refine x_iload_n hC 1 dX8_put_4 rfl ?_
  refine x_imul hC dX8_put_5 ?_
  refine x_iadd hC dX8_put_6 ?_
  refine x_ishl hC dX8_put_7 ?_
  refine x_iconst hC (-1 : Int32) dX8_put_8 (by decide) ?_
  refine x_ixor hC dX8_put_9 ?_
  refine x_iand hC dX8_put_10 ?_
  refine x_iload_n hC 2 dX8_put_11 rfl ?_
  refine x_iconst hC (4 : Int32) dX8_put_12 (by decide) ?_
  refine x_iconst hC (2 : Int32) dX8_put_13 (by decide) ?_
  refine x_iload_n hC 1 dX8_put_14 rfl ?_
  refine x_imul hC dX8_put_15 ?_
  refine x_iadd hC dX8_put_16 ?_
  refine x_ishl hC dX8_put_17 ?_
  refine x_ior hC dX8_put_18 ?_
  exact hR ((p0 &&& ((((3 : Int32)) <<< ((((4 : Int32)) + (((2 : Int32)) * p1)) &&& 31)) ^^^ ((-1 : Int32)))) ||| (p2 <<< ((((4 : Int32)) + (((2 : Int32)) * p1)) &&& 31))) () [(0, .int p0), (1, .int p1), (2, .int p2)] 19 hm rfl dX8_put_19

def wp_X8_done (md_forms : Nat → Int32) (p0 : Int32) (p1 : Int32) (post : Int32 → Prop) : Prop := ∀ x3_1 : Int32, x3_1 = p1 / ((100 : Int32)) → wp_X8_told md_forms p0 x3_1 ((3 : Int32)) (fun (r_2 : Int32) => wp_X8_told md_forms p0 x3_1 ((0 : Int32)) (fun (r_3 : Int32) => (¬ r_3 = ((2 : Int32)) → wp_X8_put  p0 r_2 ((p1 / ((10 : Int32))) - (p1 / ((10 : Int32))) / ((10 : Int32)) * ((10 : Int32))) (fun (r_5 : Int32) => post r_5 )) ∧ (r_3 = ((2 : Int32)) → wp_X8_told md_forms p0 x3_1 ((4 : Int32)) (fun (r_6 : Int32) => wp_X8_turned  p0 r_2 r_6 (fun (r_7 : Int32) => post r_7 )))))
set_option maxHeartbeats 4000000 in
set_option maxRecDepth 100000 in
theorem c_X8_done (l : Launch) (D : va_G) (cI cZ : ClassId) (md : Nat → Nat) (md_thrown : Int32) (md_text : Nat → Int32) (md_textSize : Int32) (md_place : Int32) (md_letter : Int32) (md_first : Int32) (md_second : Int32) (md_third : Int32) (md_side : Int32) (md_hang : Int32) (md_forms : Nat → Int32) (md_formMany : Nat → Int32) (md_seats : Nat → Int32) (md_now : Int32) (md_barAlways : Int32) (md_noPut : Int32) (md_far : Nat → Int32) (md_queue : Nat → Int32) (md_from : Nat → Int32) (md_by : Nat → Int32) (md_many : Int32) (md_is : Nat → Int32) (md_next : Nat → Int32) (md_rollSet : Nat → Int32) (md_rollAct : Nat → Int32) (md_rolls : Int32) (md_slots : Nat → Int32) (md_isKept : Nat → Int32) (p0 : Int32) (p1 : Int32) (post : Int32 → Prop) (hm : wp_X8_done md_forms p0 p1 post) : Mi l D cI cZ yX8_done cX8_done 5 .int 2 44 [.ref (md 0), .int p0, .int p1] (W_md cI cZ md md_thrown md_text md_textSize md_place md_letter md_first md_second md_third md_side md_hang md_forms md_formMany md_seats md_now md_barAlways md_noPut md_far md_queue md_from md_by md_many md_is md_next md_rollSet md_rollAct md_rolls md_slots md_isKept) (S := Unit) (fun _ => W_md cI cZ md md_thrown md_text md_textSize md_place md_letter md_first md_second md_third md_side md_hang md_forms md_formMany md_seats md_now md_barAlways md_noPut md_far md_queue md_from md_by md_many md_is md_next md_rollSet md_rollAct md_rolls md_slots md_isKept) (fun r _ => post r ) := by
  refine mk_Mi (by decide +kernel) (Nat.le_of_ble_eq_true rfl) ?_
  intro Γ hl0 hD0 hC hR
  subst hl0
  subst hD0
  have hC : CX Γ cI cZ cX8_done RX8 5 2 44 := hC
  show VV Γ (W_md cI cZ md md_thrown md_text md_textSize md_place md_letter md_first md_second md_third md_side md_hang md_forms md_formMany md_seats md_now md_barAlways md_noPut md_far md_queue md_from md_by md_many md_is md_next md_rollSet md_rollAct md_rolls md_slots md_isKept) [(0, .ref (md 0)), (1, .int p0), (2, .int p1)] 0 []
  unfold wp_X8_done at hm
  refine x_iload_n hC 2 dX8_done_0 rfl ?_
  refine x_bipush hC (100 : Int32) dX8_done_1 (by decide) ?_
  refine x_idiv hC dX8_done_3 (by decide) ?_
  refine x_top (fun x3_1 ex3_1 => ?_)
  replace hm := hm x3_1 ex3_1
  refine x_istore_n hC [(0, .ref (md 0)), (1, .int p0), (2, .int p1), (3, .int x3_1)] [1, 2, 3, 0] dX8_done_4 (by decide) rfl ?_
  refine x_aload_n hC 0 dX8_done_5 rfl ?_
  refine x_iload_n hC 1 dX8_done_6 rfl ?_
  refine x_iload_n hC 3 dX8_done_7 rfl ?_
  refine x_iconst hC (3 : Int32) dX8_done_8 (by decide) ?_
  refine x_callVi hC _ [0, 1, 2, 3, 4, 5, 6, 7, 8, 9, 10, 11, 12, 13, 14] [] [0, 1, 2, 3, 4, 5, 6, 7, 8, 9, 10, 11, 12, 13, 14] (([] : va_W)) (fun _ => W_md cI cZ md md_thrown md_text md_textSize md_place md_letter md_first md_second md_third md_side md_hang md_forms md_formMany md_seats md_now md_barAlways md_noPut md_far md_queue md_from md_by md_many md_is md_next md_rollSet md_rollAct md_rolls md_slots md_isKept) ok_X8_told ml_X8_161 0 5 (c_X8_told (gl Γ) (gD Γ) cI cZ md md_thrown md_text md_textSize md_place md_letter md_first md_second md_third md_side md_hang md_forms md_formMany md_seats md_now md_barAlways md_noPut md_far md_queue md_from md_by md_many md_is md_next md_rollSet md_rollAct md_rolls md_slots md_isKept p0 x3_1 ((3 : Int32)) _ hm) (by decide) (by decide) rfl (Nat.le_of_ble_eq_true rfl) rfl rfl rfl rfl (by decide) rfl (fun _ => rfl) rfl rfl rfl rfl dX8_done_9 ?_
  rintro r_2 _ hm
  refine x_istore hC [(0, .ref (md 0)), (1, .int p0), (2, .int p1), (3, .int x3_1), (4, .int r_2)] [1, 2, 3, 4, 0] dX8_done_12 (by decide) rfl ?_
  refine x_aload_n hC 0 dX8_done_14 rfl ?_
  refine x_iload_n hC 1 dX8_done_15 rfl ?_
  refine x_iload_n hC 3 dX8_done_16 rfl ?_
  refine x_iconst hC (0 : Int32) dX8_done_17 (by decide) ?_
  refine x_callVi hC _ [0, 1, 2, 3, 4, 5, 6, 7, 8, 9, 10, 11, 12, 13, 14] [] [0, 1, 2, 3, 4, 5, 6, 7, 8, 9, 10, 11, 12, 13, 14] (([] : va_W)) (fun _ => W_md cI cZ md md_thrown md_text md_textSize md_place md_letter md_first md_second md_third md_side md_hang md_forms md_formMany md_seats md_now md_barAlways md_noPut md_far md_queue md_from md_by md_many md_is md_next md_rollSet md_rollAct md_rolls md_slots md_isKept) ok_X8_told ml_X8_161 0 5 (c_X8_told (gl Γ) (gD Γ) cI cZ md md_thrown md_text md_textSize md_place md_letter md_first md_second md_third md_side md_hang md_forms md_formMany md_seats md_now md_barAlways md_noPut md_far md_queue md_from md_by md_many md_is md_next md_rollSet md_rollAct md_rolls md_slots md_isKept p0 x3_1 ((0 : Int32)) _ hm) (by decide) (by decide) rfl (Nat.le_of_ble_eq_true rfl) rfl rfl rfl rfl (by decide) rfl (fun _ => rfl) rfl rfl rfl rfl dX8_done_18 ?_
  rintro r_3 _ hm
  refine x_iconst hC (2 : Int32) dX8_done_21 (by decide) ?_
  refine x_icmp_ne hC 41 dX8_done_22 (by decide) (fun c_4 => ?_) (fun c_4 => ?_)
  · replace hm := hm.1 c_4
    refine x_iload_n hC 1 dX8_done_41 rfl ?_
    refine x_iload hC 4 dX8_done_42 rfl ?_
    refine x_iload_n hC 2 dX8_done_44 rfl ?_
    refine x_bipush hC (10 : Int32) dX8_done_45 (by decide) ?_
    refine x_idiv hC dX8_done_47 (by decide) ?_
    refine x_bipush hC (10 : Int32) dX8_done_48 (by decide) ?_
    refine x_irem hC dX8_done_50 (by decide) ?_
    refine x_callSi hC _ [] [0, 1, 2, 3, 4, 5, 6, 7, 8, 9, 10, 11, 12, 13, 14] [0, 1, 2, 3, 4, 5, 6, 7, 8, 9, 10, 11, 12, 13, 14] (W_md cI cZ md md_thrown md_text md_textSize md_place md_letter md_first md_second md_third md_side md_hang md_forms md_formMany md_seats md_now md_barAlways md_noPut md_far md_queue md_from md_by md_many md_is md_next md_rollSet md_rollAct md_rolls md_slots md_isKept) (fun _ => W_md cI cZ md md_thrown md_text md_textSize md_place md_letter md_first md_second md_third md_side md_hang md_forms md_formMany md_seats md_now md_barAlways md_noPut md_far md_queue md_from md_by md_many md_is md_next md_rollSet md_rollAct md_rolls md_slots md_isKept) ok_X8_put ml_X8_143 (c_X8_put (gl Γ) (gD Γ) cI cZ   p0 r_2 ((p1 / ((10 : Int32))) - (p1 / ((10 : Int32))) / ((10 : Int32)) * ((10 : Int32))) _ hm) (by decide) (by decide) rfl (Nat.le_of_ble_eq_true rfl) rfl rfl rfl rfl (by decide) rfl (fun _ => rfl) rfl dX8_done_51 ?_
    rintro r_5 _ hm
    exact hR r_5 () [(0, .ref (md 0)), (1, .int p0), (2, .int p1), (3, .int x3_1), (4, .int r_2)] 54 hm rfl dX8_done_54
  · replace hm := hm.2 c_4
    refine x_iload_n hC 1 dX8_done_25 rfl ?_
    refine x_iload hC 4 dX8_done_26 rfl ?_
    refine x_aload_n hC 0 dX8_done_28 rfl ?_
    refine x_iload_n hC 1 dX8_done_29 rfl ?_
    refine x_iload_n hC 3 dX8_done_30 rfl ?_
    refine x_iconst hC (4 : Int32) dX8_done_31 (by decide) ?_
    refine x_callVi hC _ [0, 1, 2, 3, 4, 5, 6, 7, 8, 9, 10, 11, 12, 13, 14] [] [0, 1, 2, 3, 4, 5, 6, 7, 8, 9, 10, 11, 12, 13, 14] (([] : va_W)) (fun _ => W_md cI cZ md md_thrown md_text md_textSize md_place md_letter md_first md_second md_third md_side md_hang md_forms md_formMany md_seats md_now md_barAlways md_noPut md_far md_queue md_from md_by md_many md_is md_next md_rollSet md_rollAct md_rolls md_slots md_isKept) ok_X8_told ml_X8_161 0 5 (c_X8_told (gl Γ) (gD Γ) cI cZ md md_thrown md_text md_textSize md_place md_letter md_first md_second md_third md_side md_hang md_forms md_formMany md_seats md_now md_barAlways md_noPut md_far md_queue md_from md_by md_many md_is md_next md_rollSet md_rollAct md_rolls md_slots md_isKept p0 x3_1 ((4 : Int32)) _ hm) (by decide) (by decide) rfl (Nat.le_of_ble_eq_true rfl) rfl rfl rfl rfl (by decide) rfl (fun _ => rfl) rfl rfl rfl rfl dX8_done_32 ?_
    rintro r_6 _ hm
    refine x_callSi hC _ [] [0, 1, 2, 3, 4, 5, 6, 7, 8, 9, 10, 11, 12, 13, 14] [0, 1, 2, 3, 4, 5, 6, 7, 8, 9, 10, 11, 12, 13, 14] (W_md cI cZ md md_thrown md_text md_textSize md_place md_letter md_first md_second md_third md_side md_hang md_forms md_formMany md_seats md_now md_barAlways md_noPut md_far md_queue md_from md_by md_many md_is md_next md_rollSet md_rollAct md_rolls md_slots md_isKept) (fun _ => W_md cI cZ md md_thrown md_text md_textSize md_place md_letter md_first md_second md_third md_side md_hang md_forms md_formMany md_seats md_now md_barAlways md_noPut md_far md_queue md_from md_by md_many md_is md_next md_rollSet md_rollAct md_rolls md_slots md_isKept) ok_X8_turned ml_X8_158 (c_X8_turned (gl Γ) (gD Γ) cI cZ   p0 r_2 r_6 _ hm) (by decide) (by decide) rfl (Nat.le_of_ble_eq_true rfl) rfl rfl rfl rfl (by decide) rfl (fun _ => rfl) rfl dX8_done_35 ?_
    rintro r_7 _ hm
    refine x_goto hC 54 dX8_done_38 (by decide) ?_
    exact hR r_7 () [(0, .ref (md 0)), (1, .int p0), (2, .int p1), (3, .int x3_1), (4, .int r_2)] 54 hm rfl dX8_done_54

def wpJ_X8_whyNot_151 (md_forms : Nat → Int32) (md_formMany : Nat → Int32) (md_seats : Nat → Int32) (md_barAlways : Int32) (md_noPut : Int32)  (post : Int32 → Prop) (x1_22 : Int32) (x3_23 : Int32) : Prop := wp_X8_done md_forms x1_22 x3_23 (fun (r_24 : Int32) => (¬ r_24 = x1_22 → post ((0 : Int32)) ) ∧ (r_24 = x1_22 → post ((5 : Int32)) ))
def wpJ_X8_whyNot_94 (md_forms : Nat → Int32) (md_formMany : Nat → Int32) (md_seats : Nat → Int32) (md_barAlways : Int32) (md_noPut : Int32)  (post : Int32 → Prop) (x1_9 : Int32) (x2_10 : Int32) (x3_11 : Int32) (x4_12 : Int32) (x6_13 : Int32) (x7_14 : Int32) : Prop := wp_X8_isForce md_forms x1_9 x4_12 (fun (r_15 : Int32) => (¬ r_15 = 0 → wp_X8_told md_forms x1_9 x4_12 ((1 : Int32)) (fun (r_17 : Int32) => wp_X8_votesIn md_forms md_seats x1_9 x2_10 r_17 (fun (r_18 : Int32) => wp_X8_told md_forms x1_9 x4_12 ((2 : Int32)) (fun (r_19 : Int32) => (r_19 ≤ r_18 → (((2 : Int32)) ≤ x6_13 → wpJ_X8_whyNot_151 md_forms md_formMany md_seats md_barAlways md_noPut  post x1_9 x3_11) ∧ (¬ ((2 : Int32)) ≤ x6_13 → wp_X8_isBarred md_forms md_barAlways x1_9 x7_14 (fun (r_26 : Int32) => (r_26 = 0 → wpJ_X8_whyNot_151 md_forms md_formMany md_seats md_barAlways md_noPut  post x1_9 x3_11) ∧ (¬ r_26 = 0 → post ((4 : Int32)) )))) ∧ (¬ r_19 ≤ r_18 → post ((3 : Int32)) ))))) ∧ (r_15 = 0 → post ((2 : Int32)) ))
def wp_X8_whyNot (md_forms : Nat → Int32) (md_formMany : Nat → Int32) (md_seats : Nat → Int32) (md_barAlways : Int32) (md_noPut : Int32) (p0 : Int32) (p1 : Int32) (p2 : Int32) (post : Int32 → Prop) : Prop := ∀ x4_1 : Int32, x4_1 = p2 / ((100 : Int32)) → ∀ x5_2 : Int32, x5_2 = (p2 / ((10 : Int32))) - (p2 / ((10 : Int32))) / ((10 : Int32)) * ((10 : Int32)) → wp_X8_formOf  p0 x4_1 (fun (r_3 : Int32) => (¬ r_3 = 0 → wp_X8_told md_forms p0 x4_1 ((0 : Int32)) (fun (r_5 : Int32) => wp_X8_told md_forms p0 x4_1 ((3 : Int32)) (fun (r_6 : Int32) => (x5_2 ≤ 0 → (r_5 = ((1 : Int32)) → wpJ_X8_whyNot_94 md_forms md_formMany md_seats md_barAlways md_noPut  post p0 p1 p2 x4_1 r_5 r_6) ∧ (¬ r_5 = ((1 : Int32)) → (r_5 = ((2 : Int32)) → wpJ_X8_whyNot_94 md_forms md_formMany md_seats md_barAlways md_noPut  post p0 p1 p2 x4_1 r_5 r_6) ∧ (¬ r_5 = ((2 : Int32)) → post ((1 : Int32)) ))) ∧ (¬ x5_2 ≤ 0 → (¬ r_5 = 0 → post ((1 : Int32)) ) ∧ (r_5 = 0 → vp_in r_6 5 ∧ (((md_formMany r_6.toNatClampNeg) < x5_2 → post ((1 : Int32)) ) ∧ (¬ (md_formMany r_6.toNatClampNeg) < x5_2 → (¬ md_noPut = r_6 → wpJ_X8_whyNot_94 md_forms md_formMany md_seats md_barAlways md_noPut  post p0 p1 p2 x4_1 r_5 r_6) ∧ (md_noPut = r_6 → post ((1 : Int32)) )))))))) ∧ (r_3 = 0 → post ((1 : Int32)) ))
set_option maxHeartbeats 4000000 in
set_option maxRecDepth 100000 in
theorem c_X8_whyNot (l : Launch) (D : va_G) (cI cZ : ClassId) (md : Nat → Nat) (md_thrown : Int32) (md_text : Nat → Int32) (md_textSize : Int32) (md_place : Int32) (md_letter : Int32) (md_first : Int32) (md_second : Int32) (md_third : Int32) (md_side : Int32) (md_hang : Int32) (md_forms : Nat → Int32) (md_formMany : Nat → Int32) (md_seats : Nat → Int32) (md_now : Int32) (md_barAlways : Int32) (md_noPut : Int32) (md_far : Nat → Int32) (md_queue : Nat → Int32) (md_from : Nat → Int32) (md_by : Nat → Int32) (md_many : Int32) (md_is : Nat → Int32) (md_next : Nat → Int32) (md_rollSet : Nat → Int32) (md_rollAct : Nat → Int32) (md_rolls : Int32) (md_slots : Nat → Int32) (md_isKept : Nat → Int32) (p0 : Int32) (p1 : Int32) (p2 : Int32) (post : Int32 → Prop) (hm : wp_X8_whyNot md_forms md_formMany md_seats md_barAlways md_noPut p0 p1 p2 post) : Mi l D cI cZ yX8_whyNot cX8_whyNot 8 .int 4 93 [.ref (md 0), .int p0, .int p1, .int p2] (W_md cI cZ md md_thrown md_text md_textSize md_place md_letter md_first md_second md_third md_side md_hang md_forms md_formMany md_seats md_now md_barAlways md_noPut md_far md_queue md_from md_by md_many md_is md_next md_rollSet md_rollAct md_rolls md_slots md_isKept) (S := Unit) (fun _ => W_md cI cZ md md_thrown md_text md_textSize md_place md_letter md_first md_second md_third md_side md_hang md_forms md_formMany md_seats md_now md_barAlways md_noPut md_far md_queue md_from md_by md_many md_is md_next md_rollSet md_rollAct md_rolls md_slots md_isKept) (fun r _ => post r ) := by
  refine mk_Mi (by decide +kernel) (Nat.le_of_ble_eq_true rfl) ?_
  intro Γ hl0 hD0 hC hR
  subst hl0
  subst hD0
  have hC : CX Γ cI cZ cX8_whyNot RX8 8 4 93 := hC
  show VV Γ (W_md cI cZ md md_thrown md_text md_textSize md_place md_letter md_first md_second md_third md_side md_hang md_forms md_formMany md_seats md_now md_barAlways md_noPut md_far md_queue md_from md_by md_many md_is md_next md_rollSet md_rollAct md_rolls md_slots md_isKept) [(0, .ref (md 0)), (1, .int p0), (2, .int p1), (3, .int p2)] 0 []
  have B_151 : ∀ (x1_22 : Int32) (x3_23 : Int32), wpJ_X8_whyNot_151 md_forms md_formMany md_seats md_barAlways md_noPut  post x1_22 x3_23 → VV Γ (W_md cI cZ md md_thrown md_text md_textSize md_place md_letter md_first md_second md_third md_side md_hang md_forms md_formMany md_seats md_now md_barAlways md_noPut md_far md_queue md_from md_by md_many md_is md_next md_rollSet md_rollAct md_rolls md_slots md_isKept) [(0, .ref (md 0)), (1, .int x1_22), (3, .int x3_23)] 151 [] := by
    intro  x1_22 x3_23 hm
    unfold wpJ_X8_whyNot_151 at hm
    refine x_aload_n hC 0 dX8_whyNot_151 rfl ?_
    refine x_iload_n hC 1 dX8_whyNot_152 rfl ?_
    refine x_iload_n hC 2 dX8_whyNot_153 rfl ?_
    refine x_callVi hC _ [0, 1, 2, 3, 4, 5, 6, 7, 8, 9, 10, 11, 12, 13, 14] [] [0, 1, 2, 3, 4, 5, 6, 7, 8, 9, 10, 11, 12, 13, 14] (([] : va_W)) (fun _ => W_md cI cZ md md_thrown md_text md_textSize md_place md_letter md_first md_second md_third md_side md_hang md_forms md_formMany md_seats md_now md_barAlways md_noPut md_far md_queue md_from md_by md_many md_is md_next md_rollSet md_rollAct md_rolls md_slots md_isKept) ok_X8_done ml_X8_183 0 5 (c_X8_done (gl Γ) (gD Γ) cI cZ md md_thrown md_text md_textSize md_place md_letter md_first md_second md_third md_side md_hang md_forms md_formMany md_seats md_now md_barAlways md_noPut md_far md_queue md_from md_by md_many md_is md_next md_rollSet md_rollAct md_rolls md_slots md_isKept x1_22 x3_23 _ hm) (by decide) (by decide) rfl (Nat.le_of_ble_eq_true rfl) rfl rfl rfl rfl (by decide) rfl (fun _ => rfl) rfl rfl rfl rfl dX8_whyNot_154 ?_
    rintro r_24 _ hm
    refine x_iload_n hC 1 dX8_whyNot_157 rfl ?_
    refine x_icmp_ne hC 165 dX8_whyNot_158 (by decide) (fun c_25 => ?_) (fun c_25 => ?_)
    · replace hm := hm.1 c_25
      refine x_iconst hC (0 : Int32) dX8_whyNot_165 (by decide) ?_
      exact hR ((0 : Int32)) () [(0, .ref (md 0)), (1, .int x1_22), (3, .int x3_23)] 166 hm rfl dX8_whyNot_166
    · replace hm := hm.2 c_25
      refine x_iconst hC (5 : Int32) dX8_whyNot_161 (by decide) ?_
      refine x_goto hC 166 dX8_whyNot_162 (by decide) ?_
      exact hR ((5 : Int32)) () [(0, .ref (md 0)), (1, .int x1_22), (3, .int x3_23)] 166 hm rfl dX8_whyNot_166
  have B_94 : ∀ (x1_9 : Int32) (x2_10 : Int32) (x3_11 : Int32) (x4_12 : Int32) (x6_13 : Int32) (x7_14 : Int32), wpJ_X8_whyNot_94 md_forms md_formMany md_seats md_barAlways md_noPut  post x1_9 x2_10 x3_11 x4_12 x6_13 x7_14 → VV Γ (W_md cI cZ md md_thrown md_text md_textSize md_place md_letter md_first md_second md_third md_side md_hang md_forms md_formMany md_seats md_now md_barAlways md_noPut md_far md_queue md_from md_by md_many md_is md_next md_rollSet md_rollAct md_rolls md_slots md_isKept) [(0, .ref (md 0)), (1, .int x1_9), (2, .int x2_10), (3, .int x3_11), (4, .int x4_12), (6, .int x6_13), (7, .int x7_14)] 94 [] := by
    intro  x1_9 x2_10 x3_11 x4_12 x6_13 x7_14 hm
    unfold wpJ_X8_whyNot_94 at hm
    refine x_aload_n hC 0 dX8_whyNot_94 rfl ?_
    refine x_iload_n hC 1 dX8_whyNot_95 rfl ?_
    refine x_iload hC 4 dX8_whyNot_96 rfl ?_
    refine x_callVi hC _ [0, 1, 2, 3, 4, 5, 6, 7, 8, 9, 10, 11, 12, 13, 14] [] [0, 1, 2, 3, 4, 5, 6, 7, 8, 9, 10, 11, 12, 13, 14] (([] : va_W)) (fun _ => W_md cI cZ md md_thrown md_text md_textSize md_place md_letter md_first md_second md_third md_side md_hang md_forms md_formMany md_seats md_now md_barAlways md_noPut md_far md_queue md_from md_by md_many md_is md_next md_rollSet md_rollAct md_rolls md_slots md_isKept) ok_X8_isForce ml_X8_168 0 5 (c_X8_isForce (gl Γ) (gD Γ) cI cZ md md_thrown md_text md_textSize md_place md_letter md_first md_second md_third md_side md_hang md_forms md_formMany md_seats md_now md_barAlways md_noPut md_far md_queue md_from md_by md_many md_is md_next md_rollSet md_rollAct md_rolls md_slots md_isKept x1_9 x4_12 _ hm) (by decide) (by decide) rfl (Nat.le_of_ble_eq_true rfl) rfl rfl rfl rfl (by decide) rfl (fun _ => rfl) rfl rfl rfl rfl dX8_whyNot_98 ?_
    rintro r_15 _ hm
    refine x_if_ne hC 106 dX8_whyNot_101 (by decide) (fun c_16 => ?_) (fun c_16 => ?_)
    · replace hm := hm.1 c_16
      refine x_aload_n hC 0 dX8_whyNot_106 rfl ?_
      refine x_iload_n hC 1 dX8_whyNot_107 rfl ?_
      refine x_iload_n hC 2 dX8_whyNot_108 rfl ?_
      refine x_aload_n hC 0 dX8_whyNot_109 rfl ?_
      refine x_iload_n hC 1 dX8_whyNot_110 rfl ?_
      refine x_iload hC 4 dX8_whyNot_111 rfl ?_
      refine x_iconst hC (1 : Int32) dX8_whyNot_113 (by decide) ?_
      refine x_callVi hC _ [0, 1, 2, 3, 4, 5, 6, 7, 8, 9, 10, 11, 12, 13, 14] [] [0, 1, 2, 3, 4, 5, 6, 7, 8, 9, 10, 11, 12, 13, 14] (([] : va_W)) (fun _ => W_md cI cZ md md_thrown md_text md_textSize md_place md_letter md_first md_second md_third md_side md_hang md_forms md_formMany md_seats md_now md_barAlways md_noPut md_far md_queue md_from md_by md_many md_is md_next md_rollSet md_rollAct md_rolls md_slots md_isKept) ok_X8_told ml_X8_161 0 5 (c_X8_told (gl Γ) (gD Γ) cI cZ md md_thrown md_text md_textSize md_place md_letter md_first md_second md_third md_side md_hang md_forms md_formMany md_seats md_now md_barAlways md_noPut md_far md_queue md_from md_by md_many md_is md_next md_rollSet md_rollAct md_rolls md_slots md_isKept x1_9 x4_12 ((1 : Int32)) _ hm) (by decide) (by decide) rfl (Nat.le_of_ble_eq_true rfl) rfl rfl rfl rfl (by decide) rfl (fun _ => rfl) rfl rfl rfl rfl dX8_whyNot_114 ?_
      rintro r_17 _ hm
      refine x_callVi hC _ [0, 1, 2, 3, 4, 5, 6, 7, 8, 9, 10, 11, 12, 13, 14] [] [0, 1, 2, 3, 4, 5, 6, 7, 8, 9, 10, 11, 12, 13, 14] (([] : va_W)) (fun _ => W_md cI cZ md md_thrown md_text md_textSize md_place md_letter md_first md_second md_third md_side md_hang md_forms md_formMany md_seats md_now md_barAlways md_noPut md_far md_queue md_from md_by md_many md_is md_next md_rollSet md_rollAct md_rolls md_slots md_isKept) ok_X8_votesIn ml_X8_174 0 5 (c_X8_votesIn (gl Γ) (gD Γ) cI cZ md md_thrown md_text md_textSize md_place md_letter md_first md_second md_third md_side md_hang md_forms md_formMany md_seats md_now md_barAlways md_noPut md_far md_queue md_from md_by md_many md_is md_next md_rollSet md_rollAct md_rolls md_slots md_isKept x1_9 x2_10 r_17 _ hm) (by decide) (by decide) rfl (Nat.le_of_ble_eq_true rfl) rfl rfl rfl rfl (by decide) rfl (fun _ => rfl) rfl rfl rfl rfl dX8_whyNot_117 ?_
      rintro r_18 _ hm
      refine x_aload_n hC 0 dX8_whyNot_120 rfl ?_
      refine x_iload_n hC 1 dX8_whyNot_121 rfl ?_
      refine x_iload hC 4 dX8_whyNot_122 rfl ?_
      refine x_iconst hC (2 : Int32) dX8_whyNot_124 (by decide) ?_
      refine x_callVi hC _ [0, 1, 2, 3, 4, 5, 6, 7, 8, 9, 10, 11, 12, 13, 14] [] [0, 1, 2, 3, 4, 5, 6, 7, 8, 9, 10, 11, 12, 13, 14] (([] : va_W)) (fun _ => W_md cI cZ md md_thrown md_text md_textSize md_place md_letter md_first md_second md_third md_side md_hang md_forms md_formMany md_seats md_now md_barAlways md_noPut md_far md_queue md_from md_by md_many md_is md_next md_rollSet md_rollAct md_rolls md_slots md_isKept) ok_X8_told ml_X8_161 0 5 (c_X8_told (gl Γ) (gD Γ) cI cZ md md_thrown md_text md_textSize md_place md_letter md_first md_second md_third md_side md_hang md_forms md_formMany md_seats md_now md_barAlways md_noPut md_far md_queue md_from md_by md_many md_is md_next md_rollSet md_rollAct md_rolls md_slots md_isKept x1_9 x4_12 ((2 : Int32)) _ hm) (by decide) (by decide) rfl (Nat.le_of_ble_eq_true rfl) rfl rfl rfl rfl (by decide) rfl (fun _ => rfl) rfl rfl rfl rfl dX8_whyNot_125 ?_
      rintro r_19 _ hm
      refine x_icmp_ge hC 133 dX8_whyNot_128 (by decide) (fun c_20 => ?_) (fun c_20 => ?_)
      · replace hm := hm.1 c_20
        refine x_iload hC 5 dX8_whyNot_133 rfl ?_
        refine x_iconst hC (2 : Int32) dX8_whyNot_135 (by decide) ?_
        refine x_icmp_ge hC 151 dX8_whyNot_136 (by decide) (fun c_21 => ?_) (fun c_21 => ?_)
        · replace hm := hm.1 c_21
          refine x_lsub [0, 1, 3] rfl ?_
          exact B_151   x1_9 x3_11 hm
        · replace hm := hm.2 c_21
          refine x_aload_n hC 0 dX8_whyNot_139 rfl ?_
          refine x_iload_n hC 1 dX8_whyNot_140 rfl ?_
          refine x_iload hC 6 dX8_whyNot_141 rfl ?_
          refine x_callVi hC _ [0, 1, 2, 3, 4, 5, 6, 7, 8, 9, 10, 11, 12, 13, 14] [] [0, 1, 2, 3, 4, 5, 6, 7, 8, 9, 10, 11, 12, 13, 14] (([] : va_W)) (fun _ => W_md cI cZ md md_thrown md_text md_textSize md_place md_letter md_first md_second md_third md_side md_hang md_forms md_formMany md_seats md_now md_barAlways md_noPut md_far md_queue md_from md_by md_many md_is md_next md_rollSet md_rollAct md_rolls md_slots md_isKept) ok_X8_isBarred ml_X8_180 0 5 (c_X8_isBarred (gl Γ) (gD Γ) cI cZ md md_thrown md_text md_textSize md_place md_letter md_first md_second md_third md_side md_hang md_forms md_formMany md_seats md_now md_barAlways md_noPut md_far md_queue md_from md_by md_many md_is md_next md_rollSet md_rollAct md_rolls md_slots md_isKept x1_9 x7_14 _ hm) (by decide) (by decide) rfl (Nat.le_of_ble_eq_true rfl) rfl rfl rfl rfl (by decide) rfl (fun _ => rfl) rfl rfl rfl rfl dX8_whyNot_143 ?_
          rintro r_26 _ hm
          refine x_if_eq hC 151 dX8_whyNot_146 (by decide) (fun c_27 => ?_) (fun c_27 => ?_)
          · replace hm := hm.1 c_27
            refine x_lsub [0, 1, 3] rfl ?_
            exact B_151   x1_9 x3_11 hm
          · replace hm := hm.2 c_27
            refine x_iconst hC (4 : Int32) dX8_whyNot_149 (by decide) ?_
            exact hR ((4 : Int32)) () [(0, .ref (md 0)), (1, .int x1_9), (2, .int x2_10), (3, .int x3_11), (4, .int x4_12), (6, .int x6_13), (7, .int x7_14)] 150 hm rfl dX8_whyNot_150
      · replace hm := hm.2 c_20
        refine x_iconst hC (3 : Int32) dX8_whyNot_131 (by decide) ?_
        exact hR ((3 : Int32)) () [(0, .ref (md 0)), (1, .int x1_9), (2, .int x2_10), (3, .int x3_11), (4, .int x4_12), (6, .int x6_13), (7, .int x7_14)] 132 hm rfl dX8_whyNot_132
    · replace hm := hm.2 c_16
      refine x_iconst hC (2 : Int32) dX8_whyNot_104 (by decide) ?_
      exact hR ((2 : Int32)) () [(0, .ref (md 0)), (1, .int x1_9), (2, .int x2_10), (3, .int x3_11), (4, .int x4_12), (6, .int x6_13), (7, .int x7_14)] 105 hm rfl dX8_whyNot_105
  unfold wp_X8_whyNot at hm
  refine x_iload_n hC 3 dX8_whyNot_0 rfl ?_
  refine x_bipush hC (100 : Int32) dX8_whyNot_1 (by decide) ?_
  refine x_idiv hC dX8_whyNot_3 (by decide) ?_
  refine x_top (fun x4_1 ex4_1 => ?_)
  replace hm := hm x4_1 ex4_1
  refine x_istore hC [(0, .ref (md 0)), (1, .int p0), (2, .int p1), (3, .int p2), (4, .int x4_1)] [1, 2, 3, 4, 0] dX8_whyNot_4 (by decide) rfl ?_
  refine x_iload_n hC 3 dX8_whyNot_6 rfl ?_
  refine x_bipush hC (10 : Int32) dX8_whyNot_7 (by decide) ?_
  refine x_idiv hC dX8_whyNot_9 (by decide) ?_
  refine x_bipush hC (10 : Int32) dX8_whyNot_10 (by decide) ?_
  refine x_irem hC dX8_whyNot_12 (by decide) ?_
  refine x_top (fun x5_2 ex5_2 => ?_)
  replace hm := hm x5_2 ex5_2
  refine x_istore hC [(0, .ref (md 0)), (1, .int p0), (2, .int p1), (3, .int p2), (4, .int x4_1), (5, .int x5_2)] [1, 2, 3, 4, 5, 0] dX8_whyNot_13 (by decide) rfl ?_
  refine x_iload_n hC 1 dX8_whyNot_15 rfl ?_
  refine x_iload hC 4 dX8_whyNot_16 rfl ?_
  refine x_callSi hC _ [] [0, 1, 2, 3, 4, 5, 6, 7, 8, 9, 10, 11, 12, 13, 14] [0, 1, 2, 3, 4, 5, 6, 7, 8, 9, 10, 11, 12, 13, 14] (W_md cI cZ md md_thrown md_text md_textSize md_place md_letter md_first md_second md_third md_side md_hang md_forms md_formMany md_seats md_now md_barAlways md_noPut md_far md_queue md_from md_by md_many md_is md_next md_rollSet md_rollAct md_rolls md_slots md_isKept) (fun _ => W_md cI cZ md md_thrown md_text md_textSize md_place md_letter md_first md_second md_third md_side md_hang md_forms md_formMany md_seats md_now md_barAlways md_noPut md_far md_queue md_from md_by md_many md_is md_next md_rollSet md_rollAct md_rolls md_slots md_isKept) ok_X8_formOf ml_X8_155 (c_X8_formOf (gl Γ) (gD Γ) cI cZ   p0 x4_1 _ hm) (by decide) (by decide) rfl (Nat.le_of_ble_eq_true rfl) rfl rfl rfl rfl (by decide) rfl (fun _ => rfl) rfl dX8_whyNot_18 ?_
  rintro r_3 _ hm
  refine x_if_ne hC 26 dX8_whyNot_21 (by decide) (fun c_4 => ?_) (fun c_4 => ?_)
  · replace hm := hm.1 c_4
    refine x_aload_n hC 0 dX8_whyNot_26 rfl ?_
    refine x_iload_n hC 1 dX8_whyNot_27 rfl ?_
    refine x_iload hC 4 dX8_whyNot_28 rfl ?_
    refine x_iconst hC (0 : Int32) dX8_whyNot_30 (by decide) ?_
    refine x_callVi hC _ [0, 1, 2, 3, 4, 5, 6, 7, 8, 9, 10, 11, 12, 13, 14] [] [0, 1, 2, 3, 4, 5, 6, 7, 8, 9, 10, 11, 12, 13, 14] (([] : va_W)) (fun _ => W_md cI cZ md md_thrown md_text md_textSize md_place md_letter md_first md_second md_third md_side md_hang md_forms md_formMany md_seats md_now md_barAlways md_noPut md_far md_queue md_from md_by md_many md_is md_next md_rollSet md_rollAct md_rolls md_slots md_isKept) ok_X8_told ml_X8_161 0 5 (c_X8_told (gl Γ) (gD Γ) cI cZ md md_thrown md_text md_textSize md_place md_letter md_first md_second md_third md_side md_hang md_forms md_formMany md_seats md_now md_barAlways md_noPut md_far md_queue md_from md_by md_many md_is md_next md_rollSet md_rollAct md_rolls md_slots md_isKept p0 x4_1 ((0 : Int32)) _ hm) (by decide) (by decide) rfl (Nat.le_of_ble_eq_true rfl) rfl rfl rfl rfl (by decide) rfl (fun _ => rfl) rfl rfl rfl rfl dX8_whyNot_31 ?_
    rintro r_5 _ hm
    refine x_istore hC [(0, .ref (md 0)), (1, .int p0), (2, .int p1), (3, .int p2), (4, .int x4_1), (5, .int x5_2), (6, .int r_5)] [1, 2, 3, 4, 5, 6, 0] dX8_whyNot_34 (by decide) rfl ?_
    refine x_aload_n hC 0 dX8_whyNot_36 rfl ?_
    refine x_iload_n hC 1 dX8_whyNot_37 rfl ?_
    refine x_iload hC 4 dX8_whyNot_38 rfl ?_
    refine x_iconst hC (3 : Int32) dX8_whyNot_40 (by decide) ?_
    refine x_callVi hC _ [0, 1, 2, 3, 4, 5, 6, 7, 8, 9, 10, 11, 12, 13, 14] [] [0, 1, 2, 3, 4, 5, 6, 7, 8, 9, 10, 11, 12, 13, 14] (([] : va_W)) (fun _ => W_md cI cZ md md_thrown md_text md_textSize md_place md_letter md_first md_second md_third md_side md_hang md_forms md_formMany md_seats md_now md_barAlways md_noPut md_far md_queue md_from md_by md_many md_is md_next md_rollSet md_rollAct md_rolls md_slots md_isKept) ok_X8_told ml_X8_161 0 5 (c_X8_told (gl Γ) (gD Γ) cI cZ md md_thrown md_text md_textSize md_place md_letter md_first md_second md_third md_side md_hang md_forms md_formMany md_seats md_now md_barAlways md_noPut md_far md_queue md_from md_by md_many md_is md_next md_rollSet md_rollAct md_rolls md_slots md_isKept p0 x4_1 ((3 : Int32)) _ hm) (by decide) (by decide) rfl (Nat.le_of_ble_eq_true rfl) rfl rfl rfl rfl (by decide) rfl (fun _ => rfl) rfl rfl rfl rfl dX8_whyNot_41 ?_
    rintro r_6 _ hm
    refine x_istore hC [(0, .ref (md 0)), (1, .int p0), (2, .int p1), (3, .int p2), (4, .int x4_1), (5, .int x5_2), (6, .int r_5), (7, .int r_6)] [1, 2, 3, 4, 5, 6, 7, 0] dX8_whyNot_44 (by decide) rfl ?_
    refine x_iload hC 5 dX8_whyNot_46 rfl ?_
    refine x_if_le hC 80 dX8_whyNot_48 (by decide) (fun c_7 => ?_) (fun c_7 => ?_)
    · replace hm := hm.1 c_7
      refine x_iload hC 6 dX8_whyNot_80 rfl ?_
      refine x_iconst hC (1 : Int32) dX8_whyNot_82 (by decide) ?_
      refine x_icmp_eq hC 94 dX8_whyNot_83 (by decide) (fun c_8 => ?_) (fun c_8 => ?_)
      · replace hm := hm.1 c_8
        refine x_lsub [0, 1, 2, 3, 4, 6, 7] rfl ?_
        exact B_94   p0 p1 p2 x4_1 r_5 r_6 hm
      · replace hm := hm.2 c_8
        refine x_iload hC 6 dX8_whyNot_86 rfl ?_
        refine x_iconst hC (2 : Int32) dX8_whyNot_88 (by decide) ?_
        refine x_icmp_eq hC 94 dX8_whyNot_89 (by decide) (fun c_28 => ?_) (fun c_28 => ?_)
        · replace hm := hm.1 c_28
          refine x_lsub [0, 1, 2, 3, 4, 6, 7] rfl ?_
          exact B_94   p0 p1 p2 x4_1 r_5 r_6 hm
        · replace hm := hm.2 c_28
          refine x_iconst hC (1 : Int32) dX8_whyNot_92 (by decide) ?_
          exact hR ((1 : Int32)) () [(0, .ref (md 0)), (1, .int p0), (2, .int p1), (3, .int p2), (4, .int x4_1), (5, .int x5_2), (6, .int r_5), (7, .int r_6)] 93 hm rfl dX8_whyNot_93
    · replace hm := hm.2 c_7
      refine x_iload hC 6 dX8_whyNot_51 rfl ?_
      refine x_if_ne hC 92 dX8_whyNot_53 (by decide) (fun c_29 => ?_) (fun c_29 => ?_)
      · replace hm := hm.1 c_29
        refine x_iconst hC (1 : Int32) dX8_whyNot_92 (by decide) ?_
        exact hR ((1 : Int32)) () [(0, .ref (md 0)), (1, .int p0), (2, .int p1), (3, .int p2), (4, .int x4_1), (5, .int x5_2), (6, .int r_5), (7, .int r_6)] 93 hm rfl dX8_whyNot_93
      · replace hm := hm.2 c_29
        refine x_iload hC 5 dX8_whyNot_56 rfl ?_
        refine x_aload_n hC 0 dX8_whyNot_58 rfl ?_
        refine x_get hC 5 inX8g 0 rfl rfl 11 (by decide) fl_X8_16 rfl dX8_whyNot_59 ?_
        refine x_iload hC 7 dX8_whyNot_62 rfl ?_
        refine x_iald hC 3 rfl hm.1 dX8_whyNot_64 ?_
        replace hm := hm.2
        refine x_icmp_gt hC 92 dX8_whyNot_65 (by decide) (fun c_30 => ?_) (fun c_30 => ?_)
        · replace hm := hm.1 c_30
          refine x_iconst hC (1 : Int32) dX8_whyNot_92 (by decide) ?_
          exact hR ((1 : Int32)) () [(0, .ref (md 0)), (1, .int p0), (2, .int p1), (3, .int p2), (4, .int x4_1), (5, .int x5_2), (6, .int r_5), (7, .int r_6)] 93 hm rfl dX8_whyNot_93
        · replace hm := hm.2 c_30
          refine x_aload_n hC 0 dX8_whyNot_68 rfl ?_
          refine x_get hC 5 inX8g 0 rfl rfl 15 (by decide) fl_X8_26 rfl dX8_whyNot_69 ?_
          refine x_iload hC 7 dX8_whyNot_72 rfl ?_
          refine x_icmp_ne hC 94 dX8_whyNot_74 (by decide) (fun c_31 => ?_) (fun c_31 => ?_)
          · replace hm := hm.1 c_31
            refine x_lsub [0, 1, 2, 3, 4, 6, 7] rfl ?_
            exact B_94   p0 p1 p2 x4_1 r_5 r_6 hm
          · replace hm := hm.2 c_31
            refine x_goto hC 92 dX8_whyNot_77 (by decide) ?_
            refine x_iconst hC (1 : Int32) dX8_whyNot_92 (by decide) ?_
            exact hR ((1 : Int32)) () [(0, .ref (md 0)), (1, .int p0), (2, .int p1), (3, .int p2), (4, .int x4_1), (5, .int x5_2), (6, .int r_5), (7, .int r_6)] 93 hm rfl dX8_whyNot_93
  · replace hm := hm.2 c_4
    refine x_iconst hC (1 : Int32) dX8_whyNot_24 (by decide) ?_
    exact hR ((1 : Int32)) () [(0, .ref (md 0)), (1, .int p0), (2, .int p1), (3, .int p2), (4, .int x4_1), (5, .int x5_2)] 25 hm rfl dX8_whyNot_25

def wp_X8_act (md_thrown : Int32) (md_forms : Nat → Int32) (md_formMany : Nat → Int32) (md_seats : Nat → Int32) (md_now : Int32) (md_barAlways : Int32) (md_noPut : Int32) (p0 : Int32) (p1 : Int32) (post : Int32 → Int32 → Int32 → Prop) : Prop := wp_X8_noSet  p0 (fun (r_1 : Int32) => (¬ r_1 = 0 → post ((-2 : Int32)) ((0 : Int32)) md_now) ∧ (r_1 = 0 → wp_X8_noAct  p1 (fun (r_3 : Int32) => (r_3 = 0 → wp_X8_whyNot md_forms md_formMany md_seats md_barAlways md_noPut md_now p0 p1 (fun (r_5 : Int32) => (¬ r_5 = 0 → post r_5 ((0 : Int32)) md_now) ∧ (r_5 = 0 → wp_X8_done md_forms md_now p1 (fun (r_7 : Int32) => post r_5 ((0 : Int32)) r_7)))) ∧ (¬ r_3 = 0 → post ((-2 : Int32)) ((0 : Int32)) md_now))))
set_option maxHeartbeats 4000000 in
set_option maxRecDepth 100000 in
theorem c_X8_act (l : Launch) (D : va_G) (cI cZ : ClassId) (md : Nat → Nat) (md_thrown : Int32) (md_text : Nat → Int32) (md_textSize : Int32) (md_place : Int32) (md_letter : Int32) (md_first : Int32) (md_second : Int32) (md_third : Int32) (md_side : Int32) (md_hang : Int32) (md_forms : Nat → Int32) (md_formMany : Nat → Int32) (md_seats : Nat → Int32) (md_now : Int32) (md_barAlways : Int32) (md_noPut : Int32) (md_far : Nat → Int32) (md_queue : Nat → Int32) (md_from : Nat → Int32) (md_by : Nat → Int32) (md_many : Int32) (md_is : Nat → Int32) (md_next : Nat → Int32) (md_rollSet : Nat → Int32) (md_rollAct : Nat → Int32) (md_rolls : Int32) (md_slots : Nat → Int32) (md_isKept : Nat → Int32) (p0 : Int32) (p1 : Int32) (post : Int32 → Int32 → Int32 → Prop) (hm : wp_X8_act md_thrown md_forms md_formMany md_seats md_now md_barAlways md_noPut p0 p1 post) : Mi l D cI cZ yX8_act cX8_act 4 .int 5 120 [.ref (md 0), .int p0, .int p1] (W_md cI cZ md md_thrown md_text md_textSize md_place md_letter md_first md_second md_third md_side md_hang md_forms md_formMany md_seats md_now md_barAlways md_noPut md_far md_queue md_from md_by md_many md_is md_next md_rollSet md_rollAct md_rolls md_slots md_isKept) (S := Int32 × Int32) (fun u => W_md cI cZ md (u.1) md_text md_textSize md_place md_letter md_first md_second md_third md_side md_hang md_forms md_formMany md_seats (u.2) md_barAlways md_noPut md_far md_queue md_from md_by md_many md_is md_next md_rollSet md_rollAct md_rolls md_slots md_isKept) (fun r u => post r u.1 u.2) := by
  refine mk_Mi (by decide +kernel) (Nat.le_of_ble_eq_true rfl) ?_
  intro Γ hl0 hD0 hC hR
  subst hl0
  subst hD0
  have hC : CX Γ cI cZ cX8_act RX8 4 5 120 := hC
  show VV Γ (W_md cI cZ md md_thrown md_text md_textSize md_place md_letter md_first md_second md_third md_side md_hang md_forms md_formMany md_seats md_now md_barAlways md_noPut md_far md_queue md_from md_by md_many md_is md_next md_rollSet md_rollAct md_rolls md_slots md_isKept) [(0, .ref (md 0)), (1, .int p0), (2, .int p1)] 0 []
  unfold wp_X8_act at hm
  refine x_aload_n hC 0 dX8_act_0 rfl ?_
  refine x_iconst hC (0 : Int32) dX8_act_1 (by decide) ?_
  refine x_put hC 5 tyX8_ok nmX8 inX8g 0 rfl rfl 0 (by decide) fl_X8_60 rfl (ty := .int) (by decide +kernel) rfl rfl (Nat.le_of_ble_eq_true rfl) (W_md cI cZ md ((0 : Int32)) md_text md_textSize md_place md_letter md_first md_second md_third md_side md_hang md_forms md_formMany md_seats md_now md_barAlways md_noPut md_far md_queue md_from md_by md_many md_is md_next md_rollSet md_rollAct md_rolls md_slots md_isKept) rfl dX8_act_2 ?_
  refine x_iload_n hC 1 dX8_act_5 rfl ?_
  refine x_callSi hC _ [] [0, 1, 2, 3, 4, 5, 6, 7, 8, 9, 10, 11, 12, 13, 14] [0, 1, 2, 3, 4, 5, 6, 7, 8, 9, 10, 11, 12, 13, 14] (W_md cI cZ md ((0 : Int32)) md_text md_textSize md_place md_letter md_first md_second md_third md_side md_hang md_forms md_formMany md_seats md_now md_barAlways md_noPut md_far md_queue md_from md_by md_many md_is md_next md_rollSet md_rollAct md_rolls md_slots md_isKept) (fun _ => W_md cI cZ md ((0 : Int32)) md_text md_textSize md_place md_letter md_first md_second md_third md_side md_hang md_forms md_formMany md_seats md_now md_barAlways md_noPut md_far md_queue md_from md_by md_many md_is md_next md_rollSet md_rollAct md_rolls md_slots md_isKept) ok_X8_noSet ml_X8_171 (c_X8_noSet (gl Γ) (gD Γ) cI cZ   p0 _ hm) (by decide) (by decide) rfl (Nat.le_of_ble_eq_true rfl) rfl rfl rfl rfl (by decide) rfl (fun _ => rfl) rfl dX8_act_6 ?_
  rintro r_1 _ hm
  refine x_if_ne hC 19 dX8_act_9 (by decide) (fun c_2 => ?_) (fun c_2 => ?_)
  · replace hm := hm.1 c_2
    refine x_bipush hC (-2 : Int32) dX8_act_19 (by decide) ?_
    exact hR ((-2 : Int32)) ((0 : Int32), md_now) [(0, .ref (md 0)), (1, .int p0), (2, .int p1)] 21 hm rfl dX8_act_21
  · replace hm := hm.2 c_2
    refine x_iload_n hC 2 dX8_act_12 rfl ?_
    refine x_callSi hC _ [] [0, 1, 2, 3, 4, 5, 6, 7, 8, 9, 10, 11, 12, 13, 14] [0, 1, 2, 3, 4, 5, 6, 7, 8, 9, 10, 11, 12, 13, 14] (W_md cI cZ md ((0 : Int32)) md_text md_textSize md_place md_letter md_first md_second md_third md_side md_hang md_forms md_formMany md_seats md_now md_barAlways md_noPut md_far md_queue md_from md_by md_many md_is md_next md_rollSet md_rollAct md_rolls md_slots md_isKept) (fun _ => W_md cI cZ md ((0 : Int32)) md_text md_textSize md_place md_letter md_first md_second md_third md_side md_hang md_forms md_formMany md_seats md_now md_barAlways md_noPut md_far md_queue md_from md_by md_many md_is md_next md_rollSet md_rollAct md_rolls md_slots md_isKept) ok_X8_noAct ml_X8_192 (c_X8_noAct (gl Γ) (gD Γ) cI cZ   p1 _ hm) (by decide) (by decide) rfl (Nat.le_of_ble_eq_true rfl) rfl rfl rfl rfl (by decide) rfl (fun _ => rfl) rfl dX8_act_13 ?_
    rintro r_3 _ hm
    refine x_if_eq hC 22 dX8_act_16 (by decide) (fun c_4 => ?_) (fun c_4 => ?_)
    · replace hm := hm.1 c_4
      refine x_aload_n hC 0 dX8_act_22 rfl ?_
      refine x_aload_n hC 0 dX8_act_23 rfl ?_
      refine x_get hC 5 inX8g 0 rfl rfl 13 (by decide) fl_X8_140 rfl dX8_act_24 ?_
      refine x_iload_n hC 1 dX8_act_27 rfl ?_
      refine x_iload_n hC 2 dX8_act_28 rfl ?_
      refine x_callVi hC _ [0, 1, 2, 3, 4, 5, 6, 7, 8, 9, 10, 11, 12, 13, 14] [] [0, 1, 2, 3, 4, 5, 6, 7, 8, 9, 10, 11, 12, 13, 14] (([] : va_W)) (fun _ => W_md cI cZ md ((0 : Int32)) md_text md_textSize md_place md_letter md_first md_second md_third md_side md_hang md_forms md_formMany md_seats md_now md_barAlways md_noPut md_far md_queue md_from md_by md_many md_is md_next md_rollSet md_rollAct md_rolls md_slots md_isKept) ok_X8_whyNot ml_X8_186 0 5 (c_X8_whyNot (gl Γ) (gD Γ) cI cZ md ((0 : Int32)) md_text md_textSize md_place md_letter md_first md_second md_third md_side md_hang md_forms md_formMany md_seats md_now md_barAlways md_noPut md_far md_queue md_from md_by md_many md_is md_next md_rollSet md_rollAct md_rolls md_slots md_isKept md_now p0 p1 _ hm) (by decide) (by decide) rfl (Nat.le_of_ble_eq_true rfl) rfl rfl rfl rfl (by decide) rfl (fun _ => rfl) rfl rfl rfl rfl dX8_act_29 ?_
      rintro r_5 _ hm
      refine x_istore_n hC [(0, .ref (md 0)), (1, .int p0), (2, .int p1), (3, .int r_5)] [1, 2, 3, 0] dX8_act_32 (by decide) rfl ?_
      refine x_aload_n hC 0 dX8_act_33 rfl ?_
      refine x_iload_n hC 3 dX8_act_34 rfl ?_
      refine x_if_ne hC 50 dX8_act_35 (by decide) (fun c_6 => ?_) (fun c_6 => ?_)
      · replace hm := hm.1 c_6
        refine x_aload_n hC 0 dX8_act_50 rfl ?_
        refine x_get hC 5 inX8g 0 rfl rfl 13 (by decide) fl_X8_140 rfl dX8_act_51 ?_
        refine x_put hC 5 tyX8_ok nmX8 inX8g 0 rfl rfl 13 (by decide) fl_X8_140 rfl (ty := .int) (by decide +kernel) rfl rfl (Nat.le_of_ble_eq_true rfl) (W_md cI cZ md ((0 : Int32)) md_text md_textSize md_place md_letter md_first md_second md_third md_side md_hang md_forms md_formMany md_seats md_now md_barAlways md_noPut md_far md_queue md_from md_by md_many md_is md_next md_rollSet md_rollAct md_rolls md_slots md_isKept) rfl dX8_act_54 ?_
        refine x_iload_n hC 3 dX8_act_57 rfl ?_
        exact hR r_5 ((0 : Int32), md_now) [(0, .ref (md 0)), (1, .int p0), (2, .int p1), (3, .int r_5)] 58 hm rfl dX8_act_58
      · replace hm := hm.2 c_6
        refine x_aload_n hC 0 dX8_act_38 rfl ?_
        refine x_aload_n hC 0 dX8_act_39 rfl ?_
        refine x_get hC 5 inX8g 0 rfl rfl 13 (by decide) fl_X8_140 rfl dX8_act_40 ?_
        refine x_iload_n hC 2 dX8_act_43 rfl ?_
        refine x_callVi hC _ [0, 1, 2, 3, 4, 5, 6, 7, 8, 9, 10, 11, 12, 13, 14] [] [0, 1, 2, 3, 4, 5, 6, 7, 8, 9, 10, 11, 12, 13, 14] (([] : va_W)) (fun _ => W_md cI cZ md ((0 : Int32)) md_text md_textSize md_place md_letter md_first md_second md_third md_side md_hang md_forms md_formMany md_seats md_now md_barAlways md_noPut md_far md_queue md_from md_by md_many md_is md_next md_rollSet md_rollAct md_rolls md_slots md_isKept) ok_X8_done ml_X8_183 0 5 (c_X8_done (gl Γ) (gD Γ) cI cZ md ((0 : Int32)) md_text md_textSize md_place md_letter md_first md_second md_third md_side md_hang md_forms md_formMany md_seats md_now md_barAlways md_noPut md_far md_queue md_from md_by md_many md_is md_next md_rollSet md_rollAct md_rolls md_slots md_isKept md_now p1 _ hm) (by decide) (by decide) rfl (Nat.le_of_ble_eq_true rfl) rfl rfl rfl rfl (by decide) rfl (fun _ => rfl) rfl rfl rfl rfl dX8_act_44 ?_
        rintro r_7 _ hm
        refine x_goto hC 54 dX8_act_47 (by decide) ?_
        refine x_put hC 5 tyX8_ok nmX8 inX8g 0 rfl rfl 13 (by decide) fl_X8_140 rfl (ty := .int) (by decide +kernel) rfl rfl (Nat.le_of_ble_eq_true rfl) (W_md cI cZ md ((0 : Int32)) md_text md_textSize md_place md_letter md_first md_second md_third md_side md_hang md_forms md_formMany md_seats r_7 md_barAlways md_noPut md_far md_queue md_from md_by md_many md_is md_next md_rollSet md_rollAct md_rolls md_slots md_isKept) rfl dX8_act_54 ?_
        refine x_iload_n hC 3 dX8_act_57 rfl ?_
        exact hR r_5 ((0 : Int32), r_7) [(0, .ref (md 0)), (1, .int p0), (2, .int p1), (3, .int r_5)] 58 hm rfl dX8_act_58
    · replace hm := hm.2 c_4
      refine x_bipush hC (-2 : Int32) dX8_act_19 (by decide) ?_
      exact hR ((-2 : Int32)) ((0 : Int32), md_now) [(0, .ref (md 0)), (1, .int p0), (2, .int p1)] 21 hm rfl dX8_act_21

def wpL_X8_actAt_6 (md_forms : Nat → Int32) (md_formMany : Nat → Int32) (md_seats : Nat → Int32) (md_barAlways : Int32) (md_noPut : Int32)  (post : Int32 → Prop) : Nat → Int32 → Int32 → Int32 → Int32 → Int32 → Prop
  | 0, _, _, _, _, _ => False
  | n + 1, x1_1, x2_2, x3_3, x4_4, x5_5 => (((20 : Int32)) ≤ x5_5 → post ((-9 : Int32)) ) ∧ (¬ ((20 : Int32)) ≤ x5_5 → ∀ x6_7 : Int32, x6_7 = (((100 : Int32)) * (x5_5 / ((4 : Int32)))) + (((10 : Int32)) * (x5_5 - x5_5 / ((4 : Int32)) * ((4 : Int32)))) → wp_X8_whyNot md_forms md_formMany md_seats md_barAlways md_noPut x1_1 x2_2 x6_7 (fun (r_8 : Int32) => (¬ r_8 = 0 → ∀ x5_10 : Int32, x5_10 = x5_5 + (1 : Int32) → (wpL_X8_actAt_6 md_forms md_formMany md_seats md_barAlways md_noPut  post n) x1_1 x2_2 x3_3 x4_4 x5_10) ∧ (r_8 = 0 → (¬ x4_4 = x3_3 → ∀ x4_12 : Int32, x4_12 = x4_4 + (1 : Int32) → ∀ x5_13 : Int32, x5_13 = x5_5 + (1 : Int32) → (wpL_X8_actAt_6 md_forms md_formMany md_seats md_barAlways md_noPut  post n) x1_1 x2_2 x3_3 x4_12 x5_13) ∧ (x4_4 = x3_3 → post x6_7 ))))
def wp_X8_actAt (md_forms : Nat → Int32) (md_formMany : Nat → Int32) (md_seats : Nat → Int32) (md_barAlways : Int32) (md_noPut : Int32) (p0 : Int32) (p1 : Int32) (p2 : Int32) (post : Int32 → Prop) : Prop := ∃ k6, wpL_X8_actAt_6 md_forms md_formMany md_seats md_barAlways md_noPut  post k6 p0 p1 p2 ((0 : Int32)) ((0 : Int32))
set_option maxHeartbeats 4000000 in
set_option maxRecDepth 100000 in
theorem c_X8_actAt (l : Launch) (D : va_G) (cI cZ : ClassId) (md : Nat → Nat) (md_thrown : Int32) (md_text : Nat → Int32) (md_textSize : Int32) (md_place : Int32) (md_letter : Int32) (md_first : Int32) (md_second : Int32) (md_third : Int32) (md_side : Int32) (md_hang : Int32) (md_forms : Nat → Int32) (md_formMany : Nat → Int32) (md_seats : Nat → Int32) (md_now : Int32) (md_barAlways : Int32) (md_noPut : Int32) (md_far : Nat → Int32) (md_queue : Nat → Int32) (md_from : Nat → Int32) (md_by : Nat → Int32) (md_many : Int32) (md_is : Nat → Int32) (md_next : Nat → Int32) (md_rollSet : Nat → Int32) (md_rollAct : Nat → Int32) (md_rolls : Int32) (md_slots : Nat → Int32) (md_isKept : Nat → Int32) (p0 : Int32) (p1 : Int32) (p2 : Int32) (post : Int32 → Prop) (hm : wp_X8_actAt md_forms md_formMany md_seats md_barAlways md_noPut p0 p1 p2 post) : Mi l D cI cZ yX8_actAt cX8_actAt 7 .int 5 120 [.ref (md 0), .int p0, .int p1, .int p2] (W_md cI cZ md md_thrown md_text md_textSize md_place md_letter md_first md_second md_third md_side md_hang md_forms md_formMany md_seats md_now md_barAlways md_noPut md_far md_queue md_from md_by md_many md_is md_next md_rollSet md_rollAct md_rolls md_slots md_isKept) (S := Unit) (fun _ => W_md cI cZ md md_thrown md_text md_textSize md_place md_letter md_first md_second md_third md_side md_hang md_forms md_formMany md_seats md_now md_barAlways md_noPut md_far md_queue md_from md_by md_many md_is md_next md_rollSet md_rollAct md_rolls md_slots md_isKept) (fun r _ => post r ) := by
  refine mk_Mi (by decide +kernel) (Nat.le_of_ble_eq_true rfl) ?_
  intro Γ hl0 hD0 hC hR
  subst hl0
  subst hD0
  have hC : CX Γ cI cZ cX8_actAt RX8 7 5 120 := hC
  show VV Γ (W_md cI cZ md md_thrown md_text md_textSize md_place md_letter md_first md_second md_third md_side md_hang md_forms md_formMany md_seats md_now md_barAlways md_noPut md_far md_queue md_from md_by md_many md_is md_next md_rollSet md_rollAct md_rolls md_slots md_isKept) [(0, .ref (md 0)), (1, .int p0), (2, .int p1), (3, .int p2)] 0 []
  have B_6 : ∀ (n : Nat) (x1_1 : Int32) (x2_2 : Int32) (x3_3 : Int32) (x4_4 : Int32) (x5_5 : Int32), wpL_X8_actAt_6 md_forms md_formMany md_seats md_barAlways md_noPut  post n x1_1 x2_2 x3_3 x4_4 x5_5 → VV Γ (W_md cI cZ md md_thrown md_text md_textSize md_place md_letter md_first md_second md_third md_side md_hang md_forms md_formMany md_seats md_now md_barAlways md_noPut md_far md_queue md_from md_by md_many md_is md_next md_rollSet md_rollAct md_rolls md_slots md_isKept) [(0, .ref (md 0)), (1, .int x1_1), (2, .int x2_2), (3, .int x3_3), (4, .int x4_4), (5, .int x5_5)] 6 [] := by
    intro  n
    induction n with
    | zero => intro x1_1 x2_2 x3_3 x4_4 x5_5 hm; rw [wpL_X8_actAt_6] at hm; exact hm.elim
    | succ n ih =>
      intro x1_1 x2_2 x3_3 x4_4 x5_5 hm
      rw [wpL_X8_actAt_6] at hm
      refine x_iload hC 5 dX8_actAt_6 rfl ?_
      refine x_bipush hC (20 : Int32) dX8_actAt_8 (by decide) ?_
      refine x_icmp_ge hC 59 dX8_actAt_10 (by decide) (fun c_6 => ?_) (fun c_6 => ?_)
      · replace hm := hm.1 c_6
        refine x_bipush hC (-9 : Int32) dX8_actAt_59 (by decide) ?_
        exact hR ((-9 : Int32)) () [(0, .ref (md 0)), (1, .int x1_1), (2, .int x2_2), (3, .int x3_3), (4, .int x4_4), (5, .int x5_5)] 61 hm rfl dX8_actAt_61
      · replace hm := hm.2 c_6
        refine x_bipush hC (100 : Int32) dX8_actAt_13 (by decide) ?_
        refine x_iload hC 5 dX8_actAt_15 rfl ?_
        refine x_iconst hC (4 : Int32) dX8_actAt_17 (by decide) ?_
        refine x_idiv hC dX8_actAt_18 (by decide) ?_
        refine x_imul hC dX8_actAt_19 ?_
        refine x_bipush hC (10 : Int32) dX8_actAt_20 (by decide) ?_
        refine x_iload hC 5 dX8_actAt_22 rfl ?_
        refine x_iconst hC (4 : Int32) dX8_actAt_24 (by decide) ?_
        refine x_irem hC dX8_actAt_25 (by decide) ?_
        refine x_imul hC dX8_actAt_26 ?_
        refine x_iadd hC dX8_actAt_27 ?_
        refine x_top (fun x6_7 ex6_7 => ?_)
        replace hm := hm x6_7 ex6_7
        refine x_istore hC [(0, .ref (md 0)), (1, .int x1_1), (2, .int x2_2), (3, .int x3_3), (4, .int x4_4), (5, .int x5_5), (6, .int x6_7)] [1, 2, 3, 4, 5, 6, 0] dX8_actAt_28 (by decide) rfl ?_
        refine x_aload_n hC 0 dX8_actAt_30 rfl ?_
        refine x_iload_n hC 1 dX8_actAt_31 rfl ?_
        refine x_iload_n hC 2 dX8_actAt_32 rfl ?_
        refine x_iload hC 6 dX8_actAt_33 rfl ?_
        refine x_callVi hC _ [0, 1, 2, 3, 4, 5, 6, 7, 8, 9, 10, 11, 12, 13, 14] [] [0, 1, 2, 3, 4, 5, 6, 7, 8, 9, 10, 11, 12, 13, 14] (([] : va_W)) (fun _ => W_md cI cZ md md_thrown md_text md_textSize md_place md_letter md_first md_second md_third md_side md_hang md_forms md_formMany md_seats md_now md_barAlways md_noPut md_far md_queue md_from md_by md_many md_is md_next md_rollSet md_rollAct md_rolls md_slots md_isKept) ok_X8_whyNot ml_X8_186 0 5 (c_X8_whyNot (gl Γ) (gD Γ) cI cZ md md_thrown md_text md_textSize md_place md_letter md_first md_second md_third md_side md_hang md_forms md_formMany md_seats md_now md_barAlways md_noPut md_far md_queue md_from md_by md_many md_is md_next md_rollSet md_rollAct md_rolls md_slots md_isKept x1_1 x2_2 x6_7 _ hm) (by decide) (by decide) rfl (Nat.le_of_ble_eq_true rfl) rfl rfl rfl rfl (by decide) rfl (fun _ => rfl) rfl rfl rfl rfl dX8_actAt_35 ?_
        rintro r_8 _ hm
        refine x_if_ne hC 53 dX8_actAt_38 (by decide) (fun c_9 => ?_) (fun c_9 => ?_)
        · replace hm := hm.1 c_9
          obtain ⟨x5_10, ex5_10⟩ : ∃ y : Int32, y = x5_5 + (1 : Int32) := ⟨_, rfl⟩
          replace hm := hm x5_10 ex5_10
          refine x_iinc hC 5 x5_10 [(0, .ref (md 0)), (1, .int x1_1), (2, .int x2_2), (3, .int x3_3), (4, .int x4_4), (5, .int x5_10), (6, .int x6_7)] [1, 2, 3, 4, 5, 0, 6] dX8_actAt_53 rfl (by rw [ex5_10]; rfl) (by decide) rfl ?_
          refine x_goto hC 6 dX8_actAt_56 (by decide) ?_
          refine x_lsub [0, 1, 2, 3, 4, 5] rfl ?_
          exact ih x1_1 x2_2 x3_3 x4_4 x5_10 hm
        · replace hm := hm.2 c_9
          refine x_iload hC 4 dX8_actAt_41 rfl ?_
          refine x_iload_n hC 3 dX8_actAt_43 rfl ?_
          refine x_icmp_ne hC 50 dX8_actAt_44 (by decide) (fun c_11 => ?_) (fun c_11 => ?_)
          · replace hm := hm.1 c_11
            obtain ⟨x4_12, ex4_12⟩ : ∃ y : Int32, y = x4_4 + (1 : Int32) := ⟨_, rfl⟩
            replace hm := hm x4_12 ex4_12
            refine x_iinc hC 4 x4_12 [(0, .ref (md 0)), (1, .int x1_1), (2, .int x2_2), (3, .int x3_3), (4, .int x4_12), (5, .int x5_5), (6, .int x6_7)] [1, 2, 3, 4, 0, 5, 6] dX8_actAt_50 rfl (by rw [ex4_12]; rfl) (by decide) rfl ?_
            obtain ⟨x5_13, ex5_13⟩ : ∃ y : Int32, y = x5_5 + (1 : Int32) := ⟨_, rfl⟩
            replace hm := hm x5_13 ex5_13
            refine x_iinc hC 5 x5_13 [(0, .ref (md 0)), (1, .int x1_1), (2, .int x2_2), (3, .int x3_3), (4, .int x4_12), (5, .int x5_13), (6, .int x6_7)] [1, 2, 3, 4, 5, 0, 6] dX8_actAt_53 rfl (by rw [ex5_13]; rfl) (by decide) rfl ?_
            refine x_goto hC 6 dX8_actAt_56 (by decide) ?_
            refine x_lsub [0, 1, 2, 3, 4, 5] rfl ?_
            exact ih x1_1 x2_2 x3_3 x4_12 x5_13 hm
          · replace hm := hm.2 c_11
            refine x_iload hC 6 dX8_actAt_47 rfl ?_
            exact hR x6_7 () [(0, .ref (md 0)), (1, .int x1_1), (2, .int x2_2), (3, .int x3_3), (4, .int x4_4), (5, .int x5_5), (6, .int x6_7)] 49 hm rfl dX8_actAt_49
  unfold wp_X8_actAt at hm
  refine x_iconst hC (0 : Int32) dX8_actAt_0 (by decide) ?_
  refine x_istore hC [(0, .ref (md 0)), (1, .int p0), (2, .int p1), (3, .int p2), (4, .int ((0 : Int32)))] [1, 2, 3, 4, 0] dX8_actAt_1 (by decide) rfl ?_
  refine x_iconst hC (0 : Int32) dX8_actAt_3 (by decide) ?_
  refine x_istore hC [(0, .ref (md 0)), (1, .int p0), (2, .int p1), (3, .int p2), (4, .int ((0 : Int32))), (5, .int ((0 : Int32)))] [1, 2, 3, 4, 5, 0] dX8_actAt_4 (by decide) rfl ?_
  obtain ⟨n_14, hm⟩ := hm
  exact B_6  n_14 p0 p1 p2 ((0 : Int32)) ((0 : Int32)) hm

def wpL_X8_acts_19 (md_forms : Nat → Int32) (md_formMany : Nat → Int32) (md_seats : Nat → Int32) (md_now : Int32) (md_barAlways : Int32) (md_noPut : Int32)  (post : Int32 → Int32 → Prop) : Nat → Int32 → Int32 → Int32 → Int32 → Prop
  | 0, _, _, _, _ => False
  | n + 1, md_thrown_3, x1_4, x2_5, x3_6 => (((20 : Int32)) ≤ x3_6 → post x2_5 md_thrown_3) ∧ (¬ ((20 : Int32)) ≤ x3_6 → wp_X8_whyNot md_forms md_formMany md_seats md_barAlways md_noPut md_now x1_4 ((((100 : Int32)) * (x3_6 / ((4 : Int32)))) + (((10 : Int32)) * (x3_6 - x3_6 / ((4 : Int32)) * ((4 : Int32))))) (fun (r_8 : Int32) => (¬ r_8 = 0 → ∀ x2_10 : Int32, x2_10 = x2_5 + ((0 : Int32)) → ∀ x3_11 : Int32, x3_11 = x3_6 + (1 : Int32) → (wpL_X8_acts_19 md_forms md_formMany md_seats md_now md_barAlways md_noPut  post n) md_thrown_3 x1_4 x2_10 x3_11) ∧ (r_8 = 0 → ∀ x2_12 : Int32, x2_12 = x2_5 + ((1 : Int32)) → ∀ x3_13 : Int32, x3_13 = x3_6 + (1 : Int32) → (wpL_X8_acts_19 md_forms md_formMany md_seats md_now md_barAlways md_noPut  post n) md_thrown_3 x1_4 x2_12 x3_13)))
def wp_X8_acts (md_thrown : Int32) (md_forms : Nat → Int32) (md_formMany : Nat → Int32) (md_seats : Nat → Int32) (md_now : Int32) (md_barAlways : Int32) (md_noPut : Int32) (p0 : Int32) (post : Int32 → Int32 → Prop) : Prop := wp_X8_noSet  p0 (fun (r_1 : Int32) => (r_1 = 0 → ∃ k19, wpL_X8_acts_19 md_forms md_formMany md_seats md_now md_barAlways md_noPut  post k19 ((0 : Int32)) p0 ((0 : Int32)) ((0 : Int32))) ∧ (¬ r_1 = 0 → post ((-2 : Int32)) ((0 : Int32))))
set_option maxHeartbeats 4000000 in
set_option maxRecDepth 100000 in
theorem c_X8_acts (l : Launch) (D : va_G) (cI cZ : ClassId) (md : Nat → Nat) (md_thrown : Int32) (md_text : Nat → Int32) (md_textSize : Int32) (md_place : Int32) (md_letter : Int32) (md_first : Int32) (md_second : Int32) (md_third : Int32) (md_side : Int32) (md_hang : Int32) (md_forms : Nat → Int32) (md_formMany : Nat → Int32) (md_seats : Nat → Int32) (md_now : Int32) (md_barAlways : Int32) (md_noPut : Int32) (md_far : Nat → Int32) (md_queue : Nat → Int32) (md_from : Nat → Int32) (md_by : Nat → Int32) (md_many : Int32) (md_is : Nat → Int32) (md_next : Nat → Int32) (md_rollSet : Nat → Int32) (md_rollAct : Nat → Int32) (md_rolls : Int32) (md_slots : Nat → Int32) (md_isKept : Nat → Int32) (p0 : Int32) (post : Int32 → Int32 → Prop) (hm : wp_X8_acts md_thrown md_forms md_formMany md_seats md_now md_barAlways md_noPut p0 post) : Mi l D cI cZ yX8_acts cX8_acts 4 .int 5 120 [.ref (md 0), .int p0] (W_md cI cZ md md_thrown md_text md_textSize md_place md_letter md_first md_second md_third md_side md_hang md_forms md_formMany md_seats md_now md_barAlways md_noPut md_far md_queue md_from md_by md_many md_is md_next md_rollSet md_rollAct md_rolls md_slots md_isKept) (S := Int32) (fun u => W_md cI cZ md u md_text md_textSize md_place md_letter md_first md_second md_third md_side md_hang md_forms md_formMany md_seats md_now md_barAlways md_noPut md_far md_queue md_from md_by md_many md_is md_next md_rollSet md_rollAct md_rolls md_slots md_isKept) (fun r u => post r u) := by
  refine mk_Mi (by decide +kernel) (Nat.le_of_ble_eq_true rfl) ?_
  intro Γ hl0 hD0 hC hR
  subst hl0
  subst hD0
  have hC : CX Γ cI cZ cX8_acts RX8 4 5 120 := hC
  show VV Γ (W_md cI cZ md md_thrown md_text md_textSize md_place md_letter md_first md_second md_third md_side md_hang md_forms md_formMany md_seats md_now md_barAlways md_noPut md_far md_queue md_from md_by md_many md_is md_next md_rollSet md_rollAct md_rolls md_slots md_isKept) [(0, .ref (md 0)), (1, .int p0)] 0 []
  have B_19 : ∀ (n : Nat) (md_thrown_3 : Int32) (x1_4 : Int32) (x2_5 : Int32) (x3_6 : Int32), wpL_X8_acts_19 md_forms md_formMany md_seats md_now md_barAlways md_noPut  post n md_thrown_3 x1_4 x2_5 x3_6 → VV Γ (W_md cI cZ md md_thrown_3 md_text md_textSize md_place md_letter md_first md_second md_third md_side md_hang md_forms md_formMany md_seats md_now md_barAlways md_noPut md_far md_queue md_from md_by md_many md_is md_next md_rollSet md_rollAct md_rolls md_slots md_isKept) [(0, .ref (md 0)), (1, .int x1_4), (2, .int x2_5), (3, .int x3_6)] 19 [] := by
    intro  n
    induction n with
    | zero => intro md_thrown_3 x1_4 x2_5 x3_6 hm; rw [wpL_X8_acts_19] at hm; exact hm.elim
    | succ n ih =>
      intro md_thrown_3 x1_4 x2_5 x3_6 hm
      rw [wpL_X8_acts_19] at hm
      refine x_iload_n hC 3 dX8_acts_19 rfl ?_
      refine x_bipush hC (20 : Int32) dX8_acts_20 (by decide) ?_
      refine x_icmp_ge hC 64 dX8_acts_22 (by decide) (fun c_7 => ?_) (fun c_7 => ?_)
      · replace hm := hm.1 c_7
        refine x_iload_n hC 2 dX8_acts_64 rfl ?_
        exact hR x2_5 md_thrown_3 [(0, .ref (md 0)), (1, .int x1_4), (2, .int x2_5), (3, .int x3_6)] 65 hm rfl dX8_acts_65
      · replace hm := hm.2 c_7
        refine x_iload_n hC 2 dX8_acts_25 rfl ?_
        refine x_aload_n hC 0 dX8_acts_26 rfl ?_
        refine x_aload_n hC 0 dX8_acts_27 rfl ?_
        refine x_get hC 5 inX8g 0 rfl rfl 13 (by decide) fl_X8_140 rfl dX8_acts_28 ?_
        refine x_iload_n hC 1 dX8_acts_31 rfl ?_
        refine x_bipush hC (100 : Int32) dX8_acts_32 (by decide) ?_
        refine x_iload_n hC 3 dX8_acts_34 rfl ?_
        refine x_iconst hC (4 : Int32) dX8_acts_35 (by decide) ?_
        refine x_idiv hC dX8_acts_36 (by decide) ?_
        refine x_imul hC dX8_acts_37 ?_
        refine x_bipush hC (10 : Int32) dX8_acts_38 (by decide) ?_
        refine x_iload_n hC 3 dX8_acts_40 rfl ?_
        refine x_iconst hC (4 : Int32) dX8_acts_41 (by decide) ?_
        refine x_irem hC dX8_acts_42 (by decide) ?_
        refine x_imul hC dX8_acts_43 ?_
        refine x_iadd hC dX8_acts_44 ?_
        refine x_callVi hC _ [0, 1, 2, 3, 4, 5, 6, 7, 8, 9, 10, 11, 12, 13, 14] [] [0, 1, 2, 3, 4, 5, 6, 7, 8, 9, 10, 11, 12, 13, 14] (([] : va_W)) (fun _ => W_md cI cZ md md_thrown_3 md_text md_textSize md_place md_letter md_first md_second md_third md_side md_hang md_forms md_formMany md_seats md_now md_barAlways md_noPut md_far md_queue md_from md_by md_many md_is md_next md_rollSet md_rollAct md_rolls md_slots md_isKept) ok_X8_whyNot ml_X8_186 0 5 (c_X8_whyNot (gl Γ) (gD Γ) cI cZ md md_thrown_3 md_text md_textSize md_place md_letter md_first md_second md_third md_side md_hang md_forms md_formMany md_seats md_now md_barAlways md_noPut md_far md_queue md_from md_by md_many md_is md_next md_rollSet md_rollAct md_rolls md_slots md_isKept md_now x1_4 ((((100 : Int32)) * (x3_6 / ((4 : Int32)))) + (((10 : Int32)) * (x3_6 - x3_6 / ((4 : Int32)) * ((4 : Int32))))) _ hm) (by decide) (by decide) rfl (Nat.le_of_ble_eq_true rfl) rfl rfl rfl rfl (by decide) rfl (fun _ => rfl) rfl rfl rfl rfl dX8_acts_45 ?_
        rintro r_8 _ hm
        refine x_if_ne hC 55 dX8_acts_48 (by decide) (fun c_9 => ?_) (fun c_9 => ?_)
        · replace hm := hm.1 c_9
          refine x_iconst hC (0 : Int32) dX8_acts_55 (by decide) ?_
          refine x_iadd hC dX8_acts_56 ?_
          refine x_top (fun x2_10 ex2_10 => ?_)
          replace hm := hm x2_10 ex2_10
          refine x_istore_n hC [(0, .ref (md 0)), (1, .int x1_4), (2, .int x2_10), (3, .int x3_6)] [1, 2, 0, 3] dX8_acts_57 (by decide) rfl ?_
          obtain ⟨x3_11, ex3_11⟩ : ∃ y : Int32, y = x3_6 + (1 : Int32) := ⟨_, rfl⟩
          replace hm := hm x3_11 ex3_11
          refine x_iinc hC 3 x3_11 [(0, .ref (md 0)), (1, .int x1_4), (2, .int x2_10), (3, .int x3_11)] [1, 2, 3, 0] dX8_acts_58 rfl (by rw [ex3_11]; rfl) (by decide) rfl ?_
          refine x_goto hC 19 dX8_acts_61 (by decide) ?_
          exact ih md_thrown_3 x1_4 x2_10 x3_11 hm
        · replace hm := hm.2 c_9
          refine x_iconst hC (1 : Int32) dX8_acts_51 (by decide) ?_
          refine x_goto hC 56 dX8_acts_52 (by decide) ?_
          refine x_iadd hC dX8_acts_56 ?_
          refine x_top (fun x2_12 ex2_12 => ?_)
          replace hm := hm x2_12 ex2_12
          refine x_istore_n hC [(0, .ref (md 0)), (1, .int x1_4), (2, .int x2_12), (3, .int x3_6)] [1, 2, 0, 3] dX8_acts_57 (by decide) rfl ?_
          obtain ⟨x3_13, ex3_13⟩ : ∃ y : Int32, y = x3_6 + (1 : Int32) := ⟨_, rfl⟩
          replace hm := hm x3_13 ex3_13
          refine x_iinc hC 3 x3_13 [(0, .ref (md 0)), (1, .int x1_4), (2, .int x2_12), (3, .int x3_13)] [1, 2, 3, 0] dX8_acts_58 rfl (by rw [ex3_13]; rfl) (by decide) rfl ?_
          refine x_goto hC 19 dX8_acts_61 (by decide) ?_
          exact ih md_thrown_3 x1_4 x2_12 x3_13 hm
  unfold wp_X8_acts at hm
  refine x_aload_n hC 0 dX8_acts_0 rfl ?_
  refine x_iconst hC (0 : Int32) dX8_acts_1 (by decide) ?_
  refine x_put hC 5 tyX8_ok nmX8 inX8g 0 rfl rfl 0 (by decide) fl_X8_60 rfl (ty := .int) (by decide +kernel) rfl rfl (Nat.le_of_ble_eq_true rfl) (W_md cI cZ md ((0 : Int32)) md_text md_textSize md_place md_letter md_first md_second md_third md_side md_hang md_forms md_formMany md_seats md_now md_barAlways md_noPut md_far md_queue md_from md_by md_many md_is md_next md_rollSet md_rollAct md_rolls md_slots md_isKept) rfl dX8_acts_2 ?_
  refine x_iload_n hC 1 dX8_acts_5 rfl ?_
  refine x_callSi hC _ [] [0, 1, 2, 3, 4, 5, 6, 7, 8, 9, 10, 11, 12, 13, 14] [0, 1, 2, 3, 4, 5, 6, 7, 8, 9, 10, 11, 12, 13, 14] (W_md cI cZ md ((0 : Int32)) md_text md_textSize md_place md_letter md_first md_second md_third md_side md_hang md_forms md_formMany md_seats md_now md_barAlways md_noPut md_far md_queue md_from md_by md_many md_is md_next md_rollSet md_rollAct md_rolls md_slots md_isKept) (fun _ => W_md cI cZ md ((0 : Int32)) md_text md_textSize md_place md_letter md_first md_second md_third md_side md_hang md_forms md_formMany md_seats md_now md_barAlways md_noPut md_far md_queue md_from md_by md_many md_is md_next md_rollSet md_rollAct md_rolls md_slots md_isKept) ok_X8_noSet ml_X8_171 (c_X8_noSet (gl Γ) (gD Γ) cI cZ   p0 _ hm) (by decide) (by decide) rfl (Nat.le_of_ble_eq_true rfl) rfl rfl rfl rfl (by decide) rfl (fun _ => rfl) rfl dX8_acts_6 ?_
  rintro r_1 _ hm
  refine x_if_eq hC 15 dX8_acts_9 (by decide) (fun c_2 => ?_) (fun c_2 => ?_)
  · replace hm := hm.1 c_2
    refine x_iconst hC (0 : Int32) dX8_acts_15 (by decide) ?_
    refine x_istore_n hC [(0, .ref (md 0)), (1, .int p0), (2, .int ((0 : Int32)))] [1, 2, 0] dX8_acts_16 (by decide) rfl ?_
    refine x_iconst hC (0 : Int32) dX8_acts_17 (by decide) ?_
    refine x_istore_n hC [(0, .ref (md 0)), (1, .int p0), (2, .int ((0 : Int32))), (3, .int ((0 : Int32)))] [1, 2, 3, 0] dX8_acts_18 (by decide) rfl ?_
    obtain ⟨n_14, hm⟩ := hm
    exact B_19  n_14 ((0 : Int32)) p0 ((0 : Int32)) ((0 : Int32)) hm
  · replace hm := hm.2 c_2
    refine x_bipush hC (-2 : Int32) dX8_acts_12 (by decide) ?_
    exact hR ((-2 : Int32)) (0 : Int32) [(0, .ref (md 0)), (1, .int p0)] 14 hm rfl dX8_acts_14

def wpL_X8_again_112 (md_formMany : Nat → Int32) (md_slots : Nat → Int32) (md_isKept : Nat → Int32)  (post : Int32 → Int32 → Int32 → Prop) : Nat → Int32 → Int32 → Int32 → Int32 → Int32 → Prop
  | 0, _, _, _, _, _ => False
  | n + 1, md_thrown_11, md_now_12, x2_13, x3_14, x4_15 => (((4 : Int32)) ≤ x4_15 → post x3_14 md_thrown_11 x2_13) ∧ (¬ ((4 : Int32)) ≤ x4_15 → (¬ ((x2_13 >>> (x4_15 &&& 31)) &&& ((1 : Int32))) = ((md_now_12 >>> (x4_15 &&& 31)) &&& ((1 : Int32))) → ∀ x3_18 : Int32, x3_18 = x3_14 + ((1 : Int32)) → ∀ x4_19 : Int32, x4_19 = x4_15 + (1 : Int32) → (wpL_X8_again_112 md_formMany md_slots md_isKept  post n) md_thrown_11 md_now_12 x2_13 x3_18 x4_19) ∧ (((x2_13 >>> (x4_15 &&& 31)) &&& ((1 : Int32))) = ((md_now_12 >>> (x4_15 &&& 31)) &&& ((1 : Int32))) → ∀ x3_20 : Int32, x3_20 = x3_14 + ((0 : Int32)) → ∀ x4_21 : Int32, x4_21 = x4_15 + (1 : Int32) → (wpL_X8_again_112 md_formMany md_slots md_isKept  post n) md_thrown_11 md_now_12 x2_13 x3_20 x4_21))
def wpJ_X8_again_76 (md_formMany : Nat → Int32) (md_slots : Nat → Int32) (md_isKept : Nat → Int32) (K_43 : Int32 → Int32 → Int32 → Int32 → Int32 → Prop) (post : Int32 → Int32 → Int32 → Prop) (md_thrown_25 : Int32) (md_now_26 : Int32) (x3_27 : Int32) (x4_28 : Int32) (s0_29 : Int32) : Prop := wp_X8_formOf  s0_29 x4_28 (fun (r_30 : Int32) => wp_X8_formOf  md_now_26 x4_28 (fun (r_31 : Int32) => (¬ r_30 = r_31 → ∀ x3_33 : Int32, x3_33 = x3_27 + ((1 : Int32)) → ∀ x4_34 : Int32, x4_34 = x4_28 + (1 : Int32) → K_43 md_thrown_25 md_now_26 s0_29 x3_33 x4_34) ∧ (r_30 = r_31 → ∀ x3_35 : Int32, x3_35 = x3_27 + ((0 : Int32)) → ∀ x4_36 : Int32, x4_36 = x4_28 + (1 : Int32) → K_43 md_thrown_25 md_now_26 s0_29 x3_35 x4_36)))
def wpL_X8_again_43 (md_formMany : Nat → Int32) (md_slots : Nat → Int32) (md_isKept : Nat → Int32)  (post : Int32 → Int32 → Int32 → Prop) : Nat → Int32 → Int32 → Int32 → Int32 → Int32 → Prop
  | 0, _, _, _, _, _ => False
  | n + 1, md_thrown_5, md_now_6, x2_7, x3_8, x4_9 => (((5 : Int32)) ≤ x4_9 → ∃ k112, wpL_X8_again_112 md_formMany md_slots md_isKept  post k112 md_thrown_5 md_now_6 x2_7 x3_8 ((0 : Int32))) ∧ (¬ ((5 : Int32)) ≤ x4_9 → wp_X8_formOf  x2_7 x4_9 (fun (r_23 : Int32) => vp_in x4_9 5 ∧ ((r_23 ≤ (md_formMany x4_9.toNatClampNeg) → wpJ_X8_again_76 md_formMany md_slots md_isKept (fun y0 y1 y2 y3 y4 => wpL_X8_again_43 md_formMany md_slots md_isKept  post n y0 y1 y2 y3 y4) post md_thrown_5 md_now_6 x3_8 x4_9 x2_7) ∧ (¬ r_23 ≤ (md_formMany x4_9.toNatClampNeg) → wp_X8_put  x2_7 x4_9 ((0 : Int32)) (fun (r_37 : Int32) => wpJ_X8_again_76 md_formMany md_slots md_isKept (fun y0 y1 y2 y3 y4 => wpL_X8_again_43 md_formMany md_slots md_isKept  post n y0 y1 y2 y3 y4) post md_thrown_5 md_now_6 x3_8 x4_9 r_37)))))
def wp_X8_again (md_thrown : Int32) (md_formMany : Nat → Int32) (md_now : Int32) (md_slots : Nat → Int32) (md_isKept : Nat → Int32) (p0 : Int32) (post : Int32 → Int32 → Int32 → Prop) : Prop := wp_X8_in  p0.toInt64 ((0 : Int64)) ((2 : Int64)) (fun (r_1 : Int32) => (¬ r_1 = 0 → vp_in p0 3 ∧ ((¬ (md_isKept p0.toNatClampNeg) = 0 → vp_in p0 3 ∧ (∀ x2_4 : Int32, x2_4 = md_slots p0.toNatClampNeg → ∃ k43, wpL_X8_again_43 md_formMany md_slots md_isKept  post k43 ((0 : Int32)) md_now x2_4 ((0 : Int32)) ((0 : Int32)))) ∧ ((md_isKept p0.toNatClampNeg) = 0 → post ((-3 : Int32)) ((0 : Int32)) md_now))) ∧ (r_1 = 0 → post ((-1 : Int32)) ((0 : Int32)) md_now))
set_option maxHeartbeats 4000000 in
set_option maxRecDepth 100000 in
theorem c_X8_again (l : Launch) (D : va_G) (cI cZ : ClassId) (md : Nat → Nat) (md_thrown : Int32) (md_text : Nat → Int32) (md_textSize : Int32) (md_place : Int32) (md_letter : Int32) (md_first : Int32) (md_second : Int32) (md_third : Int32) (md_side : Int32) (md_hang : Int32) (md_forms : Nat → Int32) (md_formMany : Nat → Int32) (md_seats : Nat → Int32) (md_now : Int32) (md_barAlways : Int32) (md_noPut : Int32) (md_far : Nat → Int32) (md_queue : Nat → Int32) (md_from : Nat → Int32) (md_by : Nat → Int32) (md_many : Int32) (md_is : Nat → Int32) (md_next : Nat → Int32) (md_rollSet : Nat → Int32) (md_rollAct : Nat → Int32) (md_rolls : Int32) (md_slots : Nat → Int32) (md_isKept : Nat → Int32) (p0 : Int32) (post : Int32 → Int32 → Int32 → Prop) (hm : wp_X8_again md_thrown md_formMany md_now md_slots md_isKept p0 post) : Mi l D cI cZ yX8_again cX8_again 5 .int 1 25 [.ref (md 0), .int p0] (W_md cI cZ md md_thrown md_text md_textSize md_place md_letter md_first md_second md_third md_side md_hang md_forms md_formMany md_seats md_now md_barAlways md_noPut md_far md_queue md_from md_by md_many md_is md_next md_rollSet md_rollAct md_rolls md_slots md_isKept) (S := Int32 × Int32) (fun u => W_md cI cZ md (u.1) md_text md_textSize md_place md_letter md_first md_second md_third md_side md_hang md_forms md_formMany md_seats (u.2) md_barAlways md_noPut md_far md_queue md_from md_by md_many md_is md_next md_rollSet md_rollAct md_rolls md_slots md_isKept) (fun r u => post r u.1 u.2) := by
  refine mk_Mi (by decide +kernel) (Nat.le_of_ble_eq_true rfl) ?_
  intro Γ hl0 hD0 hC hR
  subst hl0
  subst hD0
  have hC : CX Γ cI cZ cX8_again RX8 5 1 25 := hC
  show VV Γ (W_md cI cZ md md_thrown md_text md_textSize md_place md_letter md_first md_second md_third md_side md_hang md_forms md_formMany md_seats md_now md_barAlways md_noPut md_far md_queue md_from md_by md_many md_is md_next md_rollSet md_rollAct md_rolls md_slots md_isKept) [(0, .ref (md 0)), (1, .int p0)] 0 []
  have B_112 : ∀ (n : Nat) (md_thrown_11 : Int32) (md_now_12 : Int32) (x2_13 : Int32) (x3_14 : Int32) (x4_15 : Int32), wpL_X8_again_112 md_formMany md_slots md_isKept  post n md_thrown_11 md_now_12 x2_13 x3_14 x4_15 → VV Γ (W_md cI cZ md md_thrown_11 md_text md_textSize md_place md_letter md_first md_second md_third md_side md_hang md_forms md_formMany md_seats md_now_12 md_barAlways md_noPut md_far md_queue md_from md_by md_many md_is md_next md_rollSet md_rollAct md_rolls md_slots md_isKept) [(0, .ref (md 0)), (2, .int x2_13), (3, .int x3_14), (4, .int x4_15)] 112 [] := by
    intro  n
    induction n with
    | zero => intro md_thrown_11 md_now_12 x2_13 x3_14 x4_15 hm; rw [wpL_X8_again_112] at hm; exact hm.elim
    | succ n ih =>
      intro md_thrown_11 md_now_12 x2_13 x3_14 x4_15 hm
      rw [wpL_X8_again_112] at hm
      refine x_iload hC 3 dX8_again_112 rfl ?_
      refine x_iconst hC (4 : Int32) dX8_again_114 (by decide) ?_
      refine x_icmp_ge hC 150 dX8_again_115 (by decide) (fun c_16 => ?_) (fun c_16 => ?_)
      · replace hm := hm.1 c_16
        refine x_aload_n hC 0 dX8_again_150 rfl ?_
        refine x_iload_n hC 1 dX8_again_151 rfl ?_
        refine x_put hC 5 tyX8_ok nmX8 inX8g 0 rfl rfl 13 (by decide) fl_X8_140 rfl (ty := .int) (by decide +kernel) rfl rfl (Nat.le_of_ble_eq_true rfl) (W_md cI cZ md md_thrown_11 md_text md_textSize md_place md_letter md_first md_second md_third md_side md_hang md_forms md_formMany md_seats x2_13 md_barAlways md_noPut md_far md_queue md_from md_by md_many md_is md_next md_rollSet md_rollAct md_rolls md_slots md_isKept) rfl dX8_again_152 ?_
        refine x_iload_n hC 2 dX8_again_155 rfl ?_
        exact hR x3_14 (md_thrown_11, x2_13) [(0, .ref (md 0)), (2, .int x2_13), (3, .int x3_14), (4, .int x4_15)] 156 hm rfl dX8_again_156
      · replace hm := hm.2 c_16
        refine x_iload_n hC 2 dX8_again_118 rfl ?_
        refine x_iload_n hC 1 dX8_again_119 rfl ?_
        refine x_iload hC 3 dX8_again_120 rfl ?_
        refine x_ishr hC dX8_again_122 ?_
        refine x_iconst hC (1 : Int32) dX8_again_123 (by decide) ?_
        refine x_iand hC dX8_again_124 ?_
        refine x_aload_n hC 0 dX8_again_125 rfl ?_
        refine x_get hC 5 inX8g 0 rfl rfl 13 (by decide) fl_X8_140 rfl dX8_again_126 ?_
        refine x_iload hC 3 dX8_again_129 rfl ?_
        refine x_ishr hC dX8_again_131 ?_
        refine x_iconst hC (1 : Int32) dX8_again_132 (by decide) ?_
        refine x_iand hC dX8_again_133 ?_
        refine x_icmp_ne hC 141 dX8_again_134 (by decide) (fun c_17 => ?_) (fun c_17 => ?_)
        · replace hm := hm.1 c_17
          refine x_iconst hC (1 : Int32) dX8_again_141 (by decide) ?_
          refine x_iadd hC dX8_again_142 ?_
          refine x_top (fun x3_18 ex3_18 => ?_)
          replace hm := hm x3_18 ex3_18
          refine x_istore_n hC [(0, .ref (md 0)), (2, .int x2_13), (3, .int x3_18), (4, .int x4_15)] [1, 2, 0, 3] dX8_again_143 (by decide) rfl ?_
          obtain ⟨x4_19, ex4_19⟩ : ∃ y : Int32, y = x4_15 + (1 : Int32) := ⟨_, rfl⟩
          replace hm := hm x4_19 ex4_19
          refine x_iinc hC 3 x4_19 [(0, .ref (md 0)), (2, .int x2_13), (3, .int x3_18), (4, .int x4_19)] [1, 2, 3, 0] dX8_again_144 rfl (by rw [ex4_19]; rfl) (by decide) rfl ?_
          refine x_goto hC 112 dX8_again_147 (by decide) ?_
          exact ih md_thrown_11 md_now_12 x2_13 x3_18 x4_19 hm
        · replace hm := hm.2 c_17
          refine x_iconst hC (0 : Int32) dX8_again_137 (by decide) ?_
          refine x_goto hC 142 dX8_again_138 (by decide) ?_
          refine x_iadd hC dX8_again_142 ?_
          refine x_top (fun x3_20 ex3_20 => ?_)
          replace hm := hm x3_20 ex3_20
          refine x_istore_n hC [(0, .ref (md 0)), (2, .int x2_13), (3, .int x3_20), (4, .int x4_15)] [1, 2, 0, 3] dX8_again_143 (by decide) rfl ?_
          obtain ⟨x4_21, ex4_21⟩ : ∃ y : Int32, y = x4_15 + (1 : Int32) := ⟨_, rfl⟩
          replace hm := hm x4_21 ex4_21
          refine x_iinc hC 3 x4_21 [(0, .ref (md 0)), (2, .int x2_13), (3, .int x3_20), (4, .int x4_21)] [1, 2, 3, 0] dX8_again_144 rfl (by rw [ex4_21]; rfl) (by decide) rfl ?_
          refine x_goto hC 112 dX8_again_147 (by decide) ?_
          exact ih md_thrown_11 md_now_12 x2_13 x3_20 x4_21 hm
  have B_76 : ∀ (K_43 : Int32 → Int32 → Int32 → Int32 → Int32 → Prop) (hK_43 : ∀ (md_thrown_5 : Int32) (md_now_6 : Int32) (x2_7 : Int32) (x3_8 : Int32) (x4_9 : Int32), K_43 md_thrown_5 md_now_6 x2_7 x3_8 x4_9 → VV Γ (W_md cI cZ md md_thrown_5 md_text md_textSize md_place md_letter md_first md_second md_third md_side md_hang md_forms md_formMany md_seats md_now_6 md_barAlways md_noPut md_far md_queue md_from md_by md_many md_is md_next md_rollSet md_rollAct md_rolls md_slots md_isKept) [(0, .ref (md 0)), (2, .int x2_7), (3, .int x3_8), (4, .int x4_9)] 43 []) (md_thrown_25 : Int32) (md_now_26 : Int32) (x3_27 : Int32) (x4_28 : Int32) (s0_29 : Int32), wpJ_X8_again_76 md_formMany md_slots md_isKept K_43 post md_thrown_25 md_now_26 x3_27 x4_28 s0_29 → VV Γ (W_md cI cZ md md_thrown_25 md_text md_textSize md_place md_letter md_first md_second md_third md_side md_hang md_forms md_formMany md_seats md_now_26 md_barAlways md_noPut md_far md_queue md_from md_by md_many md_is md_next md_rollSet md_rollAct md_rolls md_slots md_isKept) [(0, .ref (md 0)), (3, .int x3_27), (4, .int x4_28)] 76 [.int s0_29] := by
    intro K_43 hK_43 md_thrown_25 md_now_26 x3_27 x4_28 s0_29 hm
    unfold wpJ_X8_again_76 at hm
    refine x_istore_n hC [(0, .ref (md 0)), (2, .int s0_29), (3, .int x3_27), (4, .int x4_28)] [1, 0, 2, 3] dX8_again_76 (by decide) rfl ?_
    refine x_iload_n hC 2 dX8_again_77 rfl ?_
    refine x_iload_n hC 1 dX8_again_78 rfl ?_
    refine x_iload hC 3 dX8_again_79 rfl ?_
    refine x_callSi hC _ [] [0, 1, 2, 3, 4, 5, 6, 7, 8, 9, 10, 11, 12, 13, 14] [0, 1, 2, 3, 4, 5, 6, 7, 8, 9, 10, 11, 12, 13, 14] (W_md cI cZ md md_thrown_25 md_text md_textSize md_place md_letter md_first md_second md_third md_side md_hang md_forms md_formMany md_seats md_now_26 md_barAlways md_noPut md_far md_queue md_from md_by md_many md_is md_next md_rollSet md_rollAct md_rolls md_slots md_isKept) (fun _ => W_md cI cZ md md_thrown_25 md_text md_textSize md_place md_letter md_first md_second md_third md_side md_hang md_forms md_formMany md_seats md_now_26 md_barAlways md_noPut md_far md_queue md_from md_by md_many md_is md_next md_rollSet md_rollAct md_rolls md_slots md_isKept) ok_X8_formOf ml_X8_155 (c_X8_formOf (gl Γ) (gD Γ) cI cZ   s0_29 x4_28 _ hm) (by decide) (by decide) rfl (Nat.le_of_ble_eq_true rfl) rfl rfl rfl rfl (by decide) rfl (fun _ => rfl) rfl dX8_again_81 ?_
    rintro r_30 _ hm
    refine x_aload_n hC 0 dX8_again_84 rfl ?_
    refine x_get hC 5 inX8g 0 rfl rfl 13 (by decide) fl_X8_140 rfl dX8_again_85 ?_
    refine x_iload hC 3 dX8_again_88 rfl ?_
    refine x_callSi hC _ [] [0, 1, 2, 3, 4, 5, 6, 7, 8, 9, 10, 11, 12, 13, 14] [0, 1, 2, 3, 4, 5, 6, 7, 8, 9, 10, 11, 12, 13, 14] (W_md cI cZ md md_thrown_25 md_text md_textSize md_place md_letter md_first md_second md_third md_side md_hang md_forms md_formMany md_seats md_now_26 md_barAlways md_noPut md_far md_queue md_from md_by md_many md_is md_next md_rollSet md_rollAct md_rolls md_slots md_isKept) (fun _ => W_md cI cZ md md_thrown_25 md_text md_textSize md_place md_letter md_first md_second md_third md_side md_hang md_forms md_formMany md_seats md_now_26 md_barAlways md_noPut md_far md_queue md_from md_by md_many md_is md_next md_rollSet md_rollAct md_rolls md_slots md_isKept) ok_X8_formOf ml_X8_155 (c_X8_formOf (gl Γ) (gD Γ) cI cZ   md_now_26 x4_28 _ hm) (by decide) (by decide) rfl (Nat.le_of_ble_eq_true rfl) rfl rfl rfl rfl (by decide) rfl (fun _ => rfl) rfl dX8_again_90 ?_
    rintro r_31 _ hm
    refine x_icmp_ne hC 100 dX8_again_93 (by decide) (fun c_32 => ?_) (fun c_32 => ?_)
    · replace hm := hm.1 c_32
      refine x_iconst hC (1 : Int32) dX8_again_100 (by decide) ?_
      refine x_iadd hC dX8_again_101 ?_
      refine x_top (fun x3_33 ex3_33 => ?_)
      replace hm := hm x3_33 ex3_33
      refine x_istore_n hC [(0, .ref (md 0)), (2, .int s0_29), (3, .int x3_33), (4, .int x4_28)] [1, 2, 0, 3] dX8_again_102 (by decide) rfl ?_
      obtain ⟨x4_34, ex4_34⟩ : ∃ y : Int32, y = x4_28 + (1 : Int32) := ⟨_, rfl⟩
      replace hm := hm x4_34 ex4_34
      refine x_iinc hC 3 x4_34 [(0, .ref (md 0)), (2, .int s0_29), (3, .int x3_33), (4, .int x4_34)] [1, 2, 3, 0] dX8_again_103 rfl (by rw [ex4_34]; rfl) (by decide) rfl ?_
      refine x_goto hC 43 dX8_again_106 (by decide) ?_
      exact hK_43 md_thrown_25 md_now_26 s0_29 x3_33 x4_34 hm
    · replace hm := hm.2 c_32
      refine x_iconst hC (0 : Int32) dX8_again_96 (by decide) ?_
      refine x_goto hC 101 dX8_again_97 (by decide) ?_
      refine x_iadd hC dX8_again_101 ?_
      refine x_top (fun x3_35 ex3_35 => ?_)
      replace hm := hm x3_35 ex3_35
      refine x_istore_n hC [(0, .ref (md 0)), (2, .int s0_29), (3, .int x3_35), (4, .int x4_28)] [1, 2, 0, 3] dX8_again_102 (by decide) rfl ?_
      obtain ⟨x4_36, ex4_36⟩ : ∃ y : Int32, y = x4_28 + (1 : Int32) := ⟨_, rfl⟩
      replace hm := hm x4_36 ex4_36
      refine x_iinc hC 3 x4_36 [(0, .ref (md 0)), (2, .int s0_29), (3, .int x3_35), (4, .int x4_36)] [1, 2, 3, 0] dX8_again_103 rfl (by rw [ex4_36]; rfl) (by decide) rfl ?_
      refine x_goto hC 43 dX8_again_106 (by decide) ?_
      exact hK_43 md_thrown_25 md_now_26 s0_29 x3_35 x4_36 hm
  have B_43 : ∀ (n : Nat) (md_thrown_5 : Int32) (md_now_6 : Int32) (x2_7 : Int32) (x3_8 : Int32) (x4_9 : Int32), wpL_X8_again_43 md_formMany md_slots md_isKept  post n md_thrown_5 md_now_6 x2_7 x3_8 x4_9 → VV Γ (W_md cI cZ md md_thrown_5 md_text md_textSize md_place md_letter md_first md_second md_third md_side md_hang md_forms md_formMany md_seats md_now_6 md_barAlways md_noPut md_far md_queue md_from md_by md_many md_is md_next md_rollSet md_rollAct md_rolls md_slots md_isKept) [(0, .ref (md 0)), (2, .int x2_7), (3, .int x3_8), (4, .int x4_9)] 43 [] := by
    intro  n
    induction n with
    | zero => intro md_thrown_5 md_now_6 x2_7 x3_8 x4_9 hm; rw [wpL_X8_again_43] at hm; exact hm.elim
    | succ n ih =>
      intro md_thrown_5 md_now_6 x2_7 x3_8 x4_9 hm
      rw [wpL_X8_again_43] at hm
      refine x_iload hC 3 dX8_again_43 rfl ?_
      refine x_iconst hC (5 : Int32) dX8_again_45 (by decide) ?_
      refine x_icmp_ge hC 109 dX8_again_46 (by decide) (fun c_10 => ?_) (fun c_10 => ?_)
      · replace hm := hm.1 c_10
        refine x_iconst hC (0 : Int32) dX8_again_109 (by decide) ?_
        refine x_istore hC [(0, .ref (md 0)), (2, .int x2_7), (3, .int x3_8), (4, .int ((0 : Int32)))] [1, 2, 3, 0] dX8_again_110 (by decide) rfl ?_
        obtain ⟨n_22, hm⟩ := hm
        exact B_112  n_22 md_thrown_5 md_now_6 x2_7 x3_8 ((0 : Int32)) hm
      · replace hm := hm.2 c_10
        refine x_iload_n hC 1 dX8_again_49 rfl ?_
        refine x_iload hC 3 dX8_again_50 rfl ?_
        refine x_callSi hC _ [] [0, 1, 2, 3, 4, 5, 6, 7, 8, 9, 10, 11, 12, 13, 14] [0, 1, 2, 3, 4, 5, 6, 7, 8, 9, 10, 11, 12, 13, 14] (W_md cI cZ md md_thrown_5 md_text md_textSize md_place md_letter md_first md_second md_third md_side md_hang md_forms md_formMany md_seats md_now_6 md_barAlways md_noPut md_far md_queue md_from md_by md_many md_is md_next md_rollSet md_rollAct md_rolls md_slots md_isKept) (fun _ => W_md cI cZ md md_thrown_5 md_text md_textSize md_place md_letter md_first md_second md_third md_side md_hang md_forms md_formMany md_seats md_now_6 md_barAlways md_noPut md_far md_queue md_from md_by md_many md_is md_next md_rollSet md_rollAct md_rolls md_slots md_isKept) ok_X8_formOf ml_X8_155 (c_X8_formOf (gl Γ) (gD Γ) cI cZ   x2_7 x4_9 _ hm) (by decide) (by decide) rfl (Nat.le_of_ble_eq_true rfl) rfl rfl rfl rfl (by decide) rfl (fun _ => rfl) rfl dX8_again_52 ?_
        rintro r_23 _ hm
        refine x_aload_n hC 0 dX8_again_55 rfl ?_
        refine x_get hC 5 inX8g 0 rfl rfl 11 (by decide) fl_X8_16 rfl dX8_again_56 ?_
        refine x_iload hC 3 dX8_again_59 rfl ?_
        refine x_iald hC 3 rfl hm.1 dX8_again_61 ?_
        replace hm := hm.2
        refine x_icmp_le hC 75 dX8_again_62 (by decide) (fun c_24 => ?_) (fun c_24 => ?_)
        · replace hm := hm.1 c_24
          refine x_iload_n hC 1 dX8_again_75 rfl ?_
          refine x_lsub [0, 2, 3] rfl ?_
          exact B_76 (fun y0 y1 y2 y3 y4 => wpL_X8_again_43 md_formMany md_slots md_isKept  post n y0 y1 y2 y3 y4) ih  md_thrown_5 md_now_6 x3_8 x4_9 x2_7 hm
        · replace hm := hm.2 c_24
          refine x_iload_n hC 1 dX8_again_65 rfl ?_
          refine x_iload hC 3 dX8_again_66 rfl ?_
          refine x_iconst hC (0 : Int32) dX8_again_68 (by decide) ?_
          refine x_callSi hC _ [] [0, 1, 2, 3, 4, 5, 6, 7, 8, 9, 10, 11, 12, 13, 14] [0, 1, 2, 3, 4, 5, 6, 7, 8, 9, 10, 11, 12, 13, 14] (W_md cI cZ md md_thrown_5 md_text md_textSize md_place md_letter md_first md_second md_third md_side md_hang md_forms md_formMany md_seats md_now_6 md_barAlways md_noPut md_far md_queue md_from md_by md_many md_is md_next md_rollSet md_rollAct md_rolls md_slots md_isKept) (fun _ => W_md cI cZ md md_thrown_5 md_text md_textSize md_place md_letter md_first md_second md_third md_side md_hang md_forms md_formMany md_seats md_now_6 md_barAlways md_noPut md_far md_queue md_from md_by md_many md_is md_next md_rollSet md_rollAct md_rolls md_slots md_isKept) ok_X8_put ml_X8_143 (c_X8_put (gl Γ) (gD Γ) cI cZ   x2_7 x4_9 ((0 : Int32)) _ hm) (by decide) (by decide) rfl (Nat.le_of_ble_eq_true rfl) rfl rfl rfl rfl (by decide) rfl (fun _ => rfl) rfl dX8_again_69 ?_
          rintro r_37 _ hm
          refine x_goto hC 76 dX8_again_72 (by decide) ?_
          refine x_lsub [0, 2, 3] rfl ?_
          exact B_76 (fun y0 y1 y2 y3 y4 => wpL_X8_again_43 md_formMany md_slots md_isKept  post n y0 y1 y2 y3 y4) ih  md_thrown_5 md_now_6 x3_8 x4_9 r_37 hm
  unfold wp_X8_again at hm
  refine x_aload_n hC 0 dX8_again_0 rfl ?_
  refine x_iconst hC (0 : Int32) dX8_again_1 (by decide) ?_
  refine x_put hC 5 tyX8_ok nmX8 inX8g 0 rfl rfl 0 (by decide) fl_X8_60 rfl (ty := .int) (by decide +kernel) rfl rfl (Nat.le_of_ble_eq_true rfl) (W_md cI cZ md ((0 : Int32)) md_text md_textSize md_place md_letter md_first md_second md_third md_side md_hang md_forms md_formMany md_seats md_now md_barAlways md_noPut md_far md_queue md_from md_by md_many md_is md_next md_rollSet md_rollAct md_rolls md_slots md_isKept) rfl dX8_again_2 ?_
  refine x_iload_n hC 1 dX8_again_5 rfl ?_
  refine x_i2l hC dX8_again_6 ?_
  refine x_lconst hC (0 : Int64) dX8_again_7 (by decide) ?_
  refine x_ldc2 hC kl_X8_149 dX8_again_8 ?_
  refine x_callSi hC _ [] [0, 1, 2, 3, 4, 5, 6, 7, 8, 9, 10, 11, 12, 13, 14] [0, 1, 2, 3, 4, 5, 6, 7, 8, 9, 10, 11, 12, 13, 14] (W_md cI cZ md ((0 : Int32)) md_text md_textSize md_place md_letter md_first md_second md_third md_side md_hang md_forms md_formMany md_seats md_now md_barAlways md_noPut md_far md_queue md_from md_by md_many md_is md_next md_rollSet md_rollAct md_rolls md_slots md_isKept) (fun _ => W_md cI cZ md ((0 : Int32)) md_text md_textSize md_place md_letter md_first md_second md_third md_side md_hang md_forms md_formMany md_seats md_now md_barAlways md_noPut md_far md_queue md_from md_by md_many md_is md_next md_rollSet md_rollAct md_rolls md_slots md_isKept) ok_X8_in ml_X8_65 (c_X8_in (gl Γ) (gD Γ) cI cZ   p0.toInt64 ((0 : Int64)) ((2 : Int64)) _ hm) (by decide) (by decide) rfl (Nat.le_of_ble_eq_true rfl) rfl rfl rfl rfl (by decide) rfl (fun _ => rfl) rfl dX8_again_11 ?_
  rintro r_1 _ hm
  refine x_if_ne hC 19 dX8_again_14 (by decide) (fun c_2 => ?_) (fun c_2 => ?_)
  · replace hm := hm.1 c_2
    refine x_aload_n hC 0 dX8_again_19 rfl ?_
    refine x_get hC 5 inX8g 0 rfl rfl 27 (by decide) fl_X8_57 rfl dX8_again_20 ?_
    refine x_iload_n hC 1 dX8_again_23 rfl ?_
    refine x_zald hC 14 rfl hm.1 dX8_again_24 ?_
    replace hm := hm.2
    refine x_if_ne hC 31 dX8_again_25 (by decide) (fun c_3 => ?_) (fun c_3 => ?_)
    · replace hm := hm.1 c_3
      refine x_aload_n hC 0 dX8_again_31 rfl ?_
      refine x_get hC 5 inX8g 0 rfl rfl 26 (by decide) fl_X8_54 rfl dX8_again_32 ?_
      refine x_iload_n hC 1 dX8_again_35 rfl ?_
      refine x_iald hC 13 rfl hm.1 dX8_again_36 ?_
      replace hm := hm.2
      refine x_top (fun x2_4 ex2_4 => ?_)
      replace hm := hm x2_4 ex2_4
      refine x_istore_n hC [(0, .ref (md 0)), (1, .int p0), (2, .int x2_4)] [1, 2, 0] dX8_again_37 (by decide) rfl ?_
      refine x_iconst hC (0 : Int32) dX8_again_38 (by decide) ?_
      refine x_istore_n hC [(0, .ref (md 0)), (1, .int p0), (2, .int x2_4), (3, .int ((0 : Int32)))] [1, 2, 3, 0] dX8_again_39 (by decide) rfl ?_
      refine x_iconst hC (0 : Int32) dX8_again_40 (by decide) ?_
      refine x_istore hC [(0, .ref (md 0)), (1, .int p0), (2, .int x2_4), (3, .int ((0 : Int32))), (4, .int ((0 : Int32)))] [1, 2, 3, 4, 0] dX8_again_41 (by decide) rfl ?_
      obtain ⟨n_38, hm⟩ := hm
      refine x_lsub [0, 2, 3, 4] rfl ?_
      exact B_43  n_38 ((0 : Int32)) md_now x2_4 ((0 : Int32)) ((0 : Int32)) hm
    · replace hm := hm.2 c_3
      refine x_bipush hC (-3 : Int32) dX8_again_28 (by decide) ?_
      exact hR ((-3 : Int32)) ((0 : Int32), md_now) [(0, .ref (md 0)), (1, .int p0)] 30 hm rfl dX8_again_30
  · replace hm := hm.2 c_2
    refine x_iconst hC (-1 : Int32) dX8_again_17 (by decide) ?_
    exact hR ((-1 : Int32)) ((0 : Int32), md_now) [(0, .ref (md 0)), (1, .int p0)] 18 hm rfl dX8_again_18

def wpL_X8_always_10 (md_forms : Nat → Int32) (md_formMany : Nat → Int32) (md_seats : Nat → Int32) (md_barAlways : Int32) (md_noPut : Int32) (md_is : Nat → Int32)  (post : Int32 → Prop) : Nat → Int32 → Int32 → Int32 → Int32 → Prop
  | 0, _, _, _, _ => False
  | n + 1, x1_2, x2_3, x3_4, x4_5 => (((20 : Int32)) ≤ x4_5 → isB x3_4 ∧ post x3_4 ) ∧ (¬ ((20 : Int32)) ≤ x4_5 → (x3_4 = 0 → isB x3_4 ∧ post x3_4 ) ∧ (¬ x3_4 = 0 → ∀ x5_8 : Int32, x5_8 = (((100 : Int32)) * (x4_5 / ((4 : Int32)))) + (((10 : Int32)) * (x4_5 - x4_5 / ((4 : Int32)) * ((4 : Int32)))) → wp_X8_whyNot md_forms md_formMany md_seats md_barAlways md_noPut x1_2 x2_3 x5_8 (fun (r_9 : Int32) => (¬ r_9 = 0 → ∀ x4_11 : Int32, x4_11 = x4_5 + (1 : Int32) → (wpL_X8_always_10 md_forms md_formMany md_seats md_barAlways md_noPut md_is  post n) x1_2 x2_3 ((1 : Int32)) x4_11) ∧ (r_9 = 0 → wp_X8_done md_forms x1_2 x5_8 (fun (r_12 : Int32) => vp_in r_12 16384 ∧ (((md_is r_12.toNatClampNeg) = 0 → ∀ x4_14 : Int32, x4_14 = x4_5 + (1 : Int32) → (wpL_X8_always_10 md_forms md_formMany md_seats md_barAlways md_noPut md_is  post n) x1_2 x2_3 ((0 : Int32)) x4_14) ∧ (¬ (md_is r_12.toNatClampNeg) = 0 → ∀ x4_15 : Int32, x4_15 = x4_5 + (1 : Int32) → (wpL_X8_always_10 md_forms md_formMany md_seats md_barAlways md_noPut md_is  post n) x1_2 x2_3 ((1 : Int32)) x4_15)))))))
def wp_X8_always (md_forms : Nat → Int32) (md_formMany : Nat → Int32) (md_seats : Nat → Int32) (md_barAlways : Int32) (md_noPut : Int32) (md_is : Nat → Int32) (p0 : Int32) (p1 : Int32) (post : Int32 → Prop) : Prop := vp_in p0 16384 ∧ (∀ x3_1 : Int32, x3_1 = md_is p0.toNatClampNeg → ∃ k10, wpL_X8_always_10 md_forms md_formMany md_seats md_barAlways md_noPut md_is  post k10 p0 p1 x3_1 ((0 : Int32)))
set_option maxHeartbeats 4000000 in
set_option maxRecDepth 100000 in
theorem c_X8_always (l : Launch) (D : va_G) (cI cZ : ClassId) (md : Nat → Nat) (md_thrown : Int32) (md_text : Nat → Int32) (md_textSize : Int32) (md_place : Int32) (md_letter : Int32) (md_first : Int32) (md_second : Int32) (md_third : Int32) (md_side : Int32) (md_hang : Int32) (md_forms : Nat → Int32) (md_formMany : Nat → Int32) (md_seats : Nat → Int32) (md_now : Int32) (md_barAlways : Int32) (md_noPut : Int32) (md_far : Nat → Int32) (md_queue : Nat → Int32) (md_from : Nat → Int32) (md_by : Nat → Int32) (md_many : Int32) (md_is : Nat → Int32) (md_next : Nat → Int32) (md_rollSet : Nat → Int32) (md_rollAct : Nat → Int32) (md_rolls : Int32) (md_slots : Nat → Int32) (md_isKept : Nat → Int32) (p0 : Int32) (p1 : Int32) (post : Int32 → Prop) (hm : wp_X8_always md_forms md_formMany md_seats md_barAlways md_noPut md_is p0 p1 post) : Mi l D cI cZ yX8_always cX8_always 6 .boolean 5 120 [.ref (md 0), .int p0, .int p1] (W_md cI cZ md md_thrown md_text md_textSize md_place md_letter md_first md_second md_third md_side md_hang md_forms md_formMany md_seats md_now md_barAlways md_noPut md_far md_queue md_from md_by md_many md_is md_next md_rollSet md_rollAct md_rolls md_slots md_isKept) (S := Unit) (fun _ => W_md cI cZ md md_thrown md_text md_textSize md_place md_letter md_first md_second md_third md_side md_hang md_forms md_formMany md_seats md_now md_barAlways md_noPut md_far md_queue md_from md_by md_many md_is md_next md_rollSet md_rollAct md_rolls md_slots md_isKept) (fun r _ => post r ) := by
  refine mk_Mi (by decide +kernel) (Nat.le_of_ble_eq_true rfl) ?_
  intro Γ hl0 hD0 hC hR
  subst hl0
  subst hD0
  have hC : CX Γ cI cZ cX8_always RX8 6 5 120 := hC
  show VV Γ (W_md cI cZ md md_thrown md_text md_textSize md_place md_letter md_first md_second md_third md_side md_hang md_forms md_formMany md_seats md_now md_barAlways md_noPut md_far md_queue md_from md_by md_many md_is md_next md_rollSet md_rollAct md_rolls md_slots md_isKept) [(0, .ref (md 0)), (1, .int p0), (2, .int p1)] 0 []
  have B_10 : ∀ (n : Nat) (x1_2 : Int32) (x2_3 : Int32) (x3_4 : Int32) (x4_5 : Int32), wpL_X8_always_10 md_forms md_formMany md_seats md_barAlways md_noPut md_is  post n x1_2 x2_3 x3_4 x4_5 → VV Γ (W_md cI cZ md md_thrown md_text md_textSize md_place md_letter md_first md_second md_third md_side md_hang md_forms md_formMany md_seats md_now md_barAlways md_noPut md_far md_queue md_from md_by md_many md_is md_next md_rollSet md_rollAct md_rolls md_slots md_isKept) [(0, .ref (md 0)), (1, .int x1_2), (2, .int x2_3), (3, .int x3_4), (4, .int x4_5)] 10 [] := by
    intro  n
    induction n with
    | zero => intro x1_2 x2_3 x3_4 x4_5 hm; rw [wpL_X8_always_10] at hm; exact hm.elim
    | succ n ih =>
      intro x1_2 x2_3 x3_4 x4_5 hm
      rw [wpL_X8_always_10] at hm
      refine x_iload hC 4 dX8_always_10 rfl ?_
      refine x_bipush hC (20 : Int32) dX8_always_12 (by decide) ?_
      refine x_icmp_ge hC 76 dX8_always_14 (by decide) (fun c_6 => ?_) (fun c_6 => ?_)
      · replace hm := hm.1 c_6
        refine x_iload_n hC 3 dX8_always_76 rfl ?_
        exact hR x3_4 () [(0, .ref (md 0)), (1, .int x1_2), (2, .int x2_3), (3, .int x3_4), (4, .int x4_5)] 77 hm.2 hm.1 dX8_always_77
      · replace hm := hm.2 c_6
        refine x_iload_n hC 3 dX8_always_17 rfl ?_
        refine x_if_eq hC 76 dX8_always_18 (by decide) (fun c_7 => ?_) (fun c_7 => ?_)
        · replace hm := hm.1 c_7
          refine x_iload_n hC 3 dX8_always_76 rfl ?_
          exact hR x3_4 () [(0, .ref (md 0)), (1, .int x1_2), (2, .int x2_3), (3, .int x3_4), (4, .int x4_5)] 77 hm.2 hm.1 dX8_always_77
        · replace hm := hm.2 c_7
          refine x_bipush hC (100 : Int32) dX8_always_21 (by decide) ?_
          refine x_iload hC 4 dX8_always_23 rfl ?_
          refine x_iconst hC (4 : Int32) dX8_always_25 (by decide) ?_
          refine x_idiv hC dX8_always_26 (by decide) ?_
          refine x_imul hC dX8_always_27 ?_
          refine x_bipush hC (10 : Int32) dX8_always_28 (by decide) ?_
          refine x_iload hC 4 dX8_always_30 rfl ?_
          refine x_iconst hC (4 : Int32) dX8_always_32 (by decide) ?_
          refine x_irem hC dX8_always_33 (by decide) ?_
          refine x_imul hC dX8_always_34 ?_
          refine x_iadd hC dX8_always_35 ?_
          refine x_top (fun x5_8 ex5_8 => ?_)
          replace hm := hm x5_8 ex5_8
          refine x_istore hC [(0, .ref (md 0)), (1, .int x1_2), (2, .int x2_3), (3, .int x3_4), (4, .int x4_5), (5, .int x5_8)] [1, 2, 3, 4, 5, 0] dX8_always_36 (by decide) rfl ?_
          refine x_aload_n hC 0 dX8_always_38 rfl ?_
          refine x_iload_n hC 1 dX8_always_39 rfl ?_
          refine x_iload_n hC 2 dX8_always_40 rfl ?_
          refine x_iload hC 5 dX8_always_41 rfl ?_
          refine x_callVi hC _ [0, 1, 2, 3, 4, 5, 6, 7, 8, 9, 10, 11, 12, 13, 14] [] [0, 1, 2, 3, 4, 5, 6, 7, 8, 9, 10, 11, 12, 13, 14] (([] : va_W)) (fun _ => W_md cI cZ md md_thrown md_text md_textSize md_place md_letter md_first md_second md_third md_side md_hang md_forms md_formMany md_seats md_now md_barAlways md_noPut md_far md_queue md_from md_by md_many md_is md_next md_rollSet md_rollAct md_rolls md_slots md_isKept) ok_X8_whyNot ml_X8_186 0 5 (c_X8_whyNot (gl Γ) (gD Γ) cI cZ md md_thrown md_text md_textSize md_place md_letter md_first md_second md_third md_side md_hang md_forms md_formMany md_seats md_now md_barAlways md_noPut md_far md_queue md_from md_by md_many md_is md_next md_rollSet md_rollAct md_rolls md_slots md_isKept x1_2 x2_3 x5_8 _ hm) (by decide) (by decide) rfl (Nat.le_of_ble_eq_true rfl) rfl rfl rfl rfl (by decide) rfl (fun _ => rfl) rfl rfl rfl rfl dX8_always_43 ?_
          rintro r_9 _ hm
          refine x_if_ne hC 64 dX8_always_46 (by decide) (fun c_10 => ?_) (fun c_10 => ?_)
          · replace hm := hm.1 c_10
            refine x_iconst hC (1 : Int32) dX8_always_64 (by decide) ?_
            refine x_goto hC 69 dX8_always_65 (by decide) ?_
            refine x_istore_n hC [(0, .ref (md 0)), (1, .int x1_2), (2, .int x2_3), (3, .int ((1 : Int32))), (4, .int x4_5), (5, .int x5_8)] [1, 2, 3, 0, 4, 5] dX8_always_69 (by decide) rfl ?_
            obtain ⟨x4_11, ex4_11⟩ : ∃ y : Int32, y = x4_5 + (1 : Int32) := ⟨_, rfl⟩
            replace hm := hm x4_11 ex4_11
            refine x_iinc hC 4 x4_11 [(0, .ref (md 0)), (1, .int x1_2), (2, .int x2_3), (3, .int ((1 : Int32))), (4, .int x4_11), (5, .int x5_8)] [1, 2, 3, 4, 0, 5] dX8_always_70 rfl (by rw [ex4_11]; rfl) (by decide) rfl ?_
            refine x_goto hC 10 dX8_always_73 (by decide) ?_
            refine x_lsub [0, 1, 2, 3, 4] rfl ?_
            exact ih x1_2 x2_3 ((1 : Int32)) x4_11 hm
          · replace hm := hm.2 c_10
            refine x_aload_n hC 0 dX8_always_49 rfl ?_
            refine x_get hC 5 inX8g 0 rfl rfl 21 (by decide) fl_X8_41 rfl dX8_always_50 ?_
            refine x_aload_n hC 0 dX8_always_53 rfl ?_
            refine x_iload_n hC 1 dX8_always_54 rfl ?_
            refine x_iload hC 5 dX8_always_55 rfl ?_
            refine x_callVi hC _ [0, 1, 2, 3, 4, 5, 6, 7, 8, 9, 10, 11, 12, 13, 14] [] [0, 1, 2, 3, 4, 5, 6, 7, 8, 9, 10, 11, 12, 13, 14] (([] : va_W)) (fun _ => W_md cI cZ md md_thrown md_text md_textSize md_place md_letter md_first md_second md_third md_side md_hang md_forms md_formMany md_seats md_now md_barAlways md_noPut md_far md_queue md_from md_by md_many md_is md_next md_rollSet md_rollAct md_rolls md_slots md_isKept) ok_X8_done ml_X8_183 0 5 (c_X8_done (gl Γ) (gD Γ) cI cZ md md_thrown md_text md_textSize md_place md_letter md_first md_second md_third md_side md_hang md_forms md_formMany md_seats md_now md_barAlways md_noPut md_far md_queue md_from md_by md_many md_is md_next md_rollSet md_rollAct md_rolls md_slots md_isKept x1_2 x5_8 _ hm) (by decide) (by decide) rfl (Nat.le_of_ble_eq_true rfl) rfl rfl rfl rfl (by decide) rfl (fun _ => rfl) rfl rfl rfl rfl dX8_always_57 ?_
            rintro r_12 _ hm
            refine x_zald hC 9 rfl hm.1 dX8_always_60 ?_
            replace hm := hm.2
            refine x_if_eq hC 68 dX8_always_61 (by decide) (fun c_13 => ?_) (fun c_13 => ?_)
            · replace hm := hm.1 c_13
              refine x_iconst hC (0 : Int32) dX8_always_68 (by decide) ?_
              refine x_istore_n hC [(0, .ref (md 0)), (1, .int x1_2), (2, .int x2_3), (3, .int ((0 : Int32))), (4, .int x4_5), (5, .int x5_8)] [1, 2, 3, 0, 4, 5] dX8_always_69 (by decide) rfl ?_
              obtain ⟨x4_14, ex4_14⟩ : ∃ y : Int32, y = x4_5 + (1 : Int32) := ⟨_, rfl⟩
              replace hm := hm x4_14 ex4_14
              refine x_iinc hC 4 x4_14 [(0, .ref (md 0)), (1, .int x1_2), (2, .int x2_3), (3, .int ((0 : Int32))), (4, .int x4_14), (5, .int x5_8)] [1, 2, 3, 4, 0, 5] dX8_always_70 rfl (by rw [ex4_14]; rfl) (by decide) rfl ?_
              refine x_goto hC 10 dX8_always_73 (by decide) ?_
              refine x_lsub [0, 1, 2, 3, 4] rfl ?_
              exact ih x1_2 x2_3 ((0 : Int32)) x4_14 hm
            · replace hm := hm.2 c_13
              refine x_iconst hC (1 : Int32) dX8_always_64 (by decide) ?_
              refine x_goto hC 69 dX8_always_65 (by decide) ?_
              refine x_istore_n hC [(0, .ref (md 0)), (1, .int x1_2), (2, .int x2_3), (3, .int ((1 : Int32))), (4, .int x4_5), (5, .int x5_8)] [1, 2, 3, 0, 4, 5] dX8_always_69 (by decide) rfl ?_
              obtain ⟨x4_15, ex4_15⟩ : ∃ y : Int32, y = x4_5 + (1 : Int32) := ⟨_, rfl⟩
              replace hm := hm x4_15 ex4_15
              refine x_iinc hC 4 x4_15 [(0, .ref (md 0)), (1, .int x1_2), (2, .int x2_3), (3, .int ((1 : Int32))), (4, .int x4_15), (5, .int x5_8)] [1, 2, 3, 4, 0, 5] dX8_always_70 rfl (by rw [ex4_15]; rfl) (by decide) rfl ?_
              refine x_goto hC 10 dX8_always_73 (by decide) ?_
              refine x_lsub [0, 1, 2, 3, 4] rfl ?_
              exact ih x1_2 x2_3 ((1 : Int32)) x4_15 hm
  unfold wp_X8_always at hm
  refine x_aload_n hC 0 dX8_always_0 rfl ?_
  refine x_get hC 5 inX8g 0 rfl rfl 21 (by decide) fl_X8_41 rfl dX8_always_1 ?_
  refine x_iload_n hC 1 dX8_always_4 rfl ?_
  refine x_zald hC 9 rfl hm.1 dX8_always_5 ?_
  replace hm := hm.2
  refine x_top (fun x3_1 ex3_1 => ?_)
  replace hm := hm x3_1 ex3_1
  refine x_istore_n hC [(0, .ref (md 0)), (1, .int p0), (2, .int p1), (3, .int x3_1)] [1, 2, 3, 0] dX8_always_6 (by decide) rfl ?_
  refine x_iconst hC (0 : Int32) dX8_always_7 (by decide) ?_
  refine x_istore hC [(0, .ref (md 0)), (1, .int p0), (2, .int p1), (3, .int x3_1), (4, .int ((0 : Int32)))] [1, 2, 3, 4, 0] dX8_always_8 (by decide) rfl ?_
  obtain ⟨n_16, hm⟩ := hm
  exact B_10  n_16 p0 p1 x3_1 ((0 : Int32)) hm

def wpJ_X8_noGoal_53   (post : Int32 → Prop) (x1_9 : Int32) (s0_10 : Int32) : Prop := (¬ x1_9 = 0 → post ((0 : Int32)) ) ∧ (x1_9 = 0 → (¬ s0_10 = 0 → post ((0 : Int32)) ) ∧ (s0_10 = 0 → post ((1 : Int32)) ))
def wpJ_X8_noGoal_52   (post : Int32 → Prop) (x1_8 : Int32) : Prop := wpJ_X8_noGoal_53   post x1_8 ((0 : Int32))
def wpJ_X8_noGoal_25   (post : Int32 → Prop) (x0_4 : Int32) (s0_5 : Int32) : Prop := wp_X8_in  x0_4.toInt64 ((100 : Int64)) ((143 : Int64)) (fun (r_6 : Int32) => (r_6 = 0 → wpJ_X8_noGoal_52   post s0_5) ∧ (¬ r_6 = 0 → (((4 : Int32)) ≤ (x0_4 - x0_4 / ((10 : Int32)) * ((10 : Int32))) → wpJ_X8_noGoal_52   post s0_5) ∧ (¬ ((4 : Int32)) ≤ (x0_4 - x0_4 / ((10 : Int32)) * ((10 : Int32))) → wpJ_X8_noGoal_53   post s0_5 ((1 : Int32)))))
def wpJ_X8_noGoal_24   (post : Int32 → Prop) (x0_3 : Int32) : Prop := wpJ_X8_noGoal_25   post x0_3 ((0 : Int32))
def wp_X8_noGoal  (p0 : Int32) (post : Int32 → Prop) : Prop := wp_X8_in  p0.toInt64 ((0 : Int64)) ((31 : Int64)) (fun (r_1 : Int32) => (r_1 = 0 → wpJ_X8_noGoal_24   post p0) ∧ (¬ r_1 = 0 → (((2 : Int32)) ≤ (p0 - p0 / ((10 : Int32)) * ((10 : Int32))) → wpJ_X8_noGoal_24   post p0) ∧ (¬ ((2 : Int32)) ≤ (p0 - p0 / ((10 : Int32)) * ((10 : Int32))) → wpJ_X8_noGoal_25   post p0 ((1 : Int32)))))
set_option maxHeartbeats 4000000 in
set_option maxRecDepth 100000 in
theorem c_X8_noGoal (l : Launch) (D : va_G) (cI cZ : ClassId)   (p0 : Int32) (post : Int32 → Prop) (hm : wp_X8_noGoal  p0 post) : Mi l D cI cZ yX8_noGoal cX8_noGoal 3 .boolean 1 25 [.int p0] (([] : va_W)) (S := Unit) (fun _ => ([] : va_W)) (fun r _ => post r ) := by
  refine mk_Mi (by decide +kernel) (Nat.le_of_ble_eq_true rfl) ?_
  intro Γ hl0 hD0 hC hR
  subst hl0
  subst hD0
  have hC : CX Γ cI cZ cX8_noGoal RX8 3 1 25 := hC
  show VV Γ (([] : va_W)) [(0, .int p0)] 0 []
  have B_53 : ∀ (x1_9 : Int32) (s0_10 : Int32), wpJ_X8_noGoal_53   post x1_9 s0_10 → VV Γ (([] : va_W)) [(1, .int x1_9)] 53 [.int s0_10] := by
    intro  x1_9 s0_10 hm
    unfold wpJ_X8_noGoal_53 at hm
    refine x_istore_n hC [(1, .int x1_9), (2, .int s0_10)] [1, 0] dX8_noGoal_53 (by decide) rfl ?_
    refine x_iload_n hC 0 dX8_noGoal_54 rfl ?_
    refine x_if_ne hC 66 dX8_noGoal_55 (by decide) (fun c_11 => ?_) (fun c_11 => ?_)
    · replace hm := hm.1 c_11
      refine x_iconst hC (0 : Int32) dX8_noGoal_66 (by decide) ?_
      exact hR ((0 : Int32)) () [(1, .int x1_9), (2, .int s0_10)] 67 hm rfl dX8_noGoal_67
    · replace hm := hm.2 c_11
      refine x_iload_n hC 1 dX8_noGoal_58 rfl ?_
      refine x_if_ne hC 66 dX8_noGoal_59 (by decide) (fun c_12 => ?_) (fun c_12 => ?_)
      · replace hm := hm.1 c_12
        refine x_iconst hC (0 : Int32) dX8_noGoal_66 (by decide) ?_
        exact hR ((0 : Int32)) () [(1, .int x1_9), (2, .int s0_10)] 67 hm rfl dX8_noGoal_67
      · replace hm := hm.2 c_12
        refine x_iconst hC (1 : Int32) dX8_noGoal_62 (by decide) ?_
        refine x_goto hC 67 dX8_noGoal_63 (by decide) ?_
        exact hR ((1 : Int32)) () [(1, .int x1_9), (2, .int s0_10)] 67 hm rfl dX8_noGoal_67
  have B_52 : ∀ (x1_8 : Int32), wpJ_X8_noGoal_52   post x1_8 → VV Γ (([] : va_W)) [(1, .int x1_8)] 52 [] := by
    intro  x1_8 hm
    unfold wpJ_X8_noGoal_52 at hm
    refine x_iconst hC (0 : Int32) dX8_noGoal_52 (by decide) ?_
    exact B_53   x1_8 ((0 : Int32)) hm
  have B_25 : ∀ (x0_4 : Int32) (s0_5 : Int32), wpJ_X8_noGoal_25   post x0_4 s0_5 → VV Γ (([] : va_W)) [(0, .int x0_4)] 25 [.int s0_5] := by
    intro  x0_4 s0_5 hm
    unfold wpJ_X8_noGoal_25 at hm
    refine x_istore_n hC [(0, .int x0_4), (1, .int s0_5)] [1, 0] dX8_noGoal_25 (by decide) rfl ?_
    refine x_iload_n hC 0 dX8_noGoal_26 rfl ?_
    refine x_i2l hC dX8_noGoal_27 ?_
    refine x_ldc2 hC kl_X8_75 dX8_noGoal_28 ?_
    refine x_ldc2 hC kl_X8_77 dX8_noGoal_31 ?_
    refine x_callSi hC _ [] [] [] (([] : va_W)) (fun _ => ([] : va_W)) ok_X8_in ml_X8_65 (c_X8_in (gl Γ) (gD Γ) cI cZ   x0_4.toInt64 ((100 : Int64)) ((143 : Int64)) _ hm) (by decide) (by decide) rfl (Nat.le_of_ble_eq_true rfl) rfl rfl rfl rfl (by decide) rfl (fun _ => rfl) rfl dX8_noGoal_34 ?_
    rintro r_6 _ hm
    refine x_if_eq hC 52 dX8_noGoal_37 (by decide) (fun c_7 => ?_) (fun c_7 => ?_)
    · replace hm := hm.1 c_7
      refine x_lsub [1] rfl ?_
      exact B_52   s0_5 hm
    · replace hm := hm.2 c_7
      refine x_iload_n hC 0 dX8_noGoal_40 rfl ?_
      refine x_bipush hC (10 : Int32) dX8_noGoal_41 (by decide) ?_
      refine x_irem hC dX8_noGoal_43 (by decide) ?_
      refine x_iconst hC (4 : Int32) dX8_noGoal_44 (by decide) ?_
      refine x_icmp_ge hC 52 dX8_noGoal_45 (by decide) (fun c_13 => ?_) (fun c_13 => ?_)
      · replace hm := hm.1 c_13
        refine x_lsub [1] rfl ?_
        exact B_52   s0_5 hm
      · replace hm := hm.2 c_13
        refine x_iconst hC (1 : Int32) dX8_noGoal_48 (by decide) ?_
        refine x_goto hC 53 dX8_noGoal_49 (by decide) ?_
        refine x_lsub [1] rfl ?_
        exact B_53   s0_5 ((1 : Int32)) hm
  have B_24 : ∀ (x0_3 : Int32), wpJ_X8_noGoal_24   post x0_3 → VV Γ (([] : va_W)) [(0, .int x0_3)] 24 [] := by
    intro  x0_3 hm
    unfold wpJ_X8_noGoal_24 at hm
    refine x_iconst hC (0 : Int32) dX8_noGoal_24 (by decide) ?_
    exact B_25   x0_3 ((0 : Int32)) hm
  unfold wp_X8_noGoal at hm
  refine x_iload_n hC 0 dX8_noGoal_0 rfl ?_
  refine x_i2l hC dX8_noGoal_1 ?_
  refine x_lconst hC (0 : Int64) dX8_noGoal_2 (by decide) ?_
  refine x_ldc2 hC kl_X8_73 dX8_noGoal_3 ?_
  refine x_callSi hC _ [] [] [] (([] : va_W)) (fun _ => ([] : va_W)) ok_X8_in ml_X8_65 (c_X8_in (gl Γ) (gD Γ) cI cZ   p0.toInt64 ((0 : Int64)) ((31 : Int64)) _ hm) (by decide) (by decide) rfl (Nat.le_of_ble_eq_true rfl) rfl rfl rfl rfl (by decide) rfl (fun _ => rfl) rfl dX8_noGoal_6 ?_
  rintro r_1 _ hm
  refine x_if_eq hC 24 dX8_noGoal_9 (by decide) (fun c_2 => ?_) (fun c_2 => ?_)
  · replace hm := hm.1 c_2
    exact B_24   p0 hm
  · replace hm := hm.2 c_2
    refine x_iload_n hC 0 dX8_noGoal_12 rfl ?_
    refine x_bipush hC (10 : Int32) dX8_noGoal_13 (by decide) ?_
    refine x_irem hC dX8_noGoal_15 (by decide) ?_
    refine x_iconst hC (2 : Int32) dX8_noGoal_16 (by decide) ?_
    refine x_icmp_ge hC 24 dX8_noGoal_17 (by decide) (fun c_14 => ?_) (fun c_14 => ?_)
    · replace hm := hm.1 c_14
      exact B_24   p0 hm
    · replace hm := hm.2 c_14
      refine x_iconst hC (1 : Int32) dX8_noGoal_20 (by decide) ?_
      refine x_goto hC 25 dX8_noGoal_21 (by decide) ?_
      exact B_25   p0 ((1 : Int32)) hm

def wpJ_X8_wave_122 (md_forms : Nat → Int32) (md_formMany : Nat → Int32) (md_seats : Nat → Int32) (md_barAlways : Int32) (md_noPut : Int32) (K_48 : (Nat → Int32) → (Nat → Int32) → (Nat → Int32) → (Nat → Int32) → Int32 → Int32 → Int32 → Int32 → Prop) (K_69 : (Nat → Int32) → (Nat → Int32) → (Nat → Int32) → (Nat → Int32) → Int32 → Int32 → Int32 → Int32 → Int32 → Int32 → Prop) (post : (Nat → Int32) → (Nat → Int32) → (Nat → Int32) → (Nat → Int32) → Int32 → Prop) (md_far_46 : Nat → Int32) (md_queue_47 : Nat → Int32) (md_from_48 : Nat → Int32) (md_by_49 : Nat → Int32) (md_many_50 : Int32) (x2_51 : Int32) (x3_52 : Int32) (x4_53 : Int32) (x5_54 : Int32) (x6_55 : Int32) (x7_56 : Int32) : Prop := wp_X8_done md_forms x5_54 x7_56 (fun (r_57 : Int32) => vp_in r_57 16384 ∧ ((¬ (md_far_46 r_57.toNatClampNeg) = ((-9 : Int32)) → ∀ x6_59 : Int32, x6_59 = x6_55 + (1 : Int32) → K_69 md_far_46 md_queue_47 md_from_48 md_by_49 md_many_50 x2_51 x3_52 x4_53 x5_54 x6_59) ∧ ((md_far_46 r_57.toNatClampNeg) = ((-9 : Int32)) → vp_in x5_54 16384 ∧ (vp_in r_57 16384 ∧ ∀ md_far_60 : Nat → Int32, md_far_60 = upd md_far_46 r_57.toNatClampNeg ((md_far_46 x5_54.toNatClampNeg) + ((1 : Int32))) → vp_in r_57 16384 ∧ ∀ md_from_61 : Nat → Int32, md_from_61 = upd md_from_48 r_57.toNatClampNeg x5_54 → vp_in r_57 16384 ∧ ∀ md_by_62 : Nat → Int32, md_by_62 = upd md_by_49 r_57.toNatClampNeg x7_56 → vp_in md_many_50 16384 ∧ ∀ md_queue_63 : Nat → Int32, md_queue_63 = upd md_queue_47 md_many_50.toNatClampNeg r_57 → ∀ v_64 : Int32, v_64 = md_many_50 + ((1 : Int32)) → ∀ x6_65 : Int32, x6_65 = x6_55 + (1 : Int32) → K_69 md_far_60 md_queue_63 md_from_61 md_by_62 v_64 x2_51 x3_52 x4_53 x5_54 x6_65))))
def wpL_X8_wave_69 (md_forms : Nat → Int32) (md_formMany : Nat → Int32) (md_seats : Nat → Int32) (md_barAlways : Int32) (md_noPut : Int32) (K_48 : (Nat → Int32) → (Nat → Int32) → (Nat → Int32) → (Nat → Int32) → Int32 → Int32 → Int32 → Int32 → Prop) (post : (Nat → Int32) → (Nat → Int32) → (Nat → Int32) → (Nat → Int32) → Int32 → Prop) : Nat → (Nat → Int32) → (Nat → Int32) → (Nat → Int32) → (Nat → Int32) → Int32 → Int32 → Int32 → Int32 → Int32 → Int32 → Prop
  | 0, _, _, _, _, _, _, _, _, _, _ => False
  | n + 1, md_far_31, md_queue_32, md_from_33, md_by_34, md_many_35, x2_36, x3_37, x4_38, x5_39, x6_40 => (((20 : Int32)) ≤ x6_40 → ∀ x4_42 : Int32, x4_42 = x4_38 + (1 : Int32) → K_48 md_far_31 md_queue_32 md_from_33 md_by_34 md_many_35 x2_36 x3_37 x4_42) ∧ (¬ ((20 : Int32)) ≤ x6_40 → ∀ x7_43 : Int32, x7_43 = (((100 : Int32)) * (x6_40 / ((4 : Int32)))) + (((10 : Int32)) * (x6_40 - x6_40 / ((4 : Int32)) * ((4 : Int32)))) → wp_X8_whyNot md_forms md_formMany md_seats md_barAlways md_noPut x5_39 x2_36 x7_43 (fun (r_44 : Int32) => (r_44 = 0 → wpJ_X8_wave_122 md_forms md_formMany md_seats md_barAlways md_noPut K_48 (fun y0 y1 y2 y3 y4 y5 y6 y7 y8 y9 => wpL_X8_wave_69 md_forms md_formMany md_seats md_barAlways md_noPut K_48 post n y0 y1 y2 y3 y4 y5 y6 y7 y8 y9) post md_far_31 md_queue_32 md_from_33 md_by_34 md_many_35 x2_36 x3_37 x4_38 x5_39 x6_40 x7_43) ∧ (¬ r_44 = 0 → (x3_37 = x2_36 → ∀ x6_67 : Int32, x6_67 = x6_40 + (1 : Int32) → (wpL_X8_wave_69 md_forms md_formMany md_seats md_barAlways md_noPut K_48 post n) md_far_31 md_queue_32 md_from_33 md_by_34 md_many_35 x2_36 x3_37 x4_38 x5_39 x6_67) ∧ (¬ x3_37 = x2_36 → wp_X8_whyNot md_forms md_formMany md_seats md_barAlways md_noPut x5_39 x3_37 x7_43 (fun (r_68 : Int32) => (¬ r_68 = 0 → ∀ x6_70 : Int32, x6_70 = x6_40 + (1 : Int32) → (wpL_X8_wave_69 md_forms md_formMany md_seats md_barAlways md_noPut K_48 post n) md_far_31 md_queue_32 md_from_33 md_by_34 md_many_35 x2_36 x3_37 x4_38 x5_39 x6_70) ∧ (r_68 = 0 → wpJ_X8_wave_122 md_forms md_formMany md_seats md_barAlways md_noPut K_48 (fun y0 y1 y2 y3 y4 y5 y6 y7 y8 y9 => wpL_X8_wave_69 md_forms md_formMany md_seats md_barAlways md_noPut K_48 post n y0 y1 y2 y3 y4 y5 y6 y7 y8 y9) post md_far_31 md_queue_32 md_from_33 md_by_34 md_many_35 x2_36 x3_37 x4_38 x5_39 x6_40 x7_43))))))
def wpL_X8_wave_48 (md_forms : Nat → Int32) (md_formMany : Nat → Int32) (md_seats : Nat → Int32) (md_barAlways : Int32) (md_noPut : Int32)  (post : (Nat → Int32) → (Nat → Int32) → (Nat → Int32) → (Nat → Int32) → Int32 → Prop) : Nat → (Nat → Int32) → (Nat → Int32) → (Nat → Int32) → (Nat → Int32) → Int32 → Int32 → Int32 → Int32 → Prop
  | 0, _, _, _, _, _, _, _, _ => False
  | n + 1, md_far_21, md_queue_22, md_from_23, md_by_24, md_many_25, x2_26, x3_27, x4_28 => (md_many_25 ≤ x4_28 → post md_far_21 md_queue_22 md_from_23 md_by_24 md_many_25) ∧ (¬ md_many_25 ≤ x4_28 → vp_in x4_28 16384 ∧ (∀ x5_30 : Int32, x5_30 = md_queue_22 x4_28.toNatClampNeg → ∃ k69, wpL_X8_wave_69 md_forms md_formMany md_seats md_barAlways md_noPut (fun y0 y1 y2 y3 y4 y5 y6 y7 => wpL_X8_wave_48 md_forms md_formMany md_seats md_barAlways md_noPut  post n y0 y1 y2 y3 y4 y5 y6 y7) post k69 md_far_21 md_queue_22 md_from_23 md_by_24 md_many_25 x2_26 x3_27 x4_28 x5_30 ((0 : Int32))))
def wpJ_X8_wave_26 (md_forms : Nat → Int32) (md_formMany : Nat → Int32) (md_seats : Nat → Int32) (md_barAlways : Int32) (md_noPut : Int32)  (post : (Nat → Int32) → (Nat → Int32) → (Nat → Int32) → (Nat → Int32) → Int32 → Prop) (md_far_11 : Nat → Int32) (md_queue_12 : Nat → Int32) (md_from_13 : Nat → Int32) (md_by_14 : Nat → Int32) (md_many_15 : Int32) (x1_16 : Int32) (x2_17 : Int32) (x3_18 : Int32) : Prop := vp_in x1_16 16384 ∧ ∀ md_far_19 : Nat → Int32, md_far_19 = upd md_far_11 x1_16.toNatClampNeg ((0 : Int32)) → vp_in ((0 : Int32)) 16384 ∧ ∀ md_queue_20 : Nat → Int32, md_queue_20 = upd md_queue_12 ((0 : Int32)).toNatClampNeg x1_16 → ∃ k48, wpL_X8_wave_48 md_forms md_formMany md_seats md_barAlways md_noPut  post k48 md_far_19 md_queue_20 md_from_13 md_by_14 ((1 : Int32)) x2_17 x3_18 ((0 : Int32))
def wpL_X8_wave_3 (md_forms : Nat → Int32) (md_formMany : Nat → Int32) (md_seats : Nat → Int32) (md_barAlways : Int32) (md_noPut : Int32)  (post : (Nat → Int32) → (Nat → Int32) → (Nat → Int32) → (Nat → Int32) → Int32 → Prop) : Nat → (Nat → Int32) → (Nat → Int32) → (Nat → Int32) → (Nat → Int32) → Int32 → Int32 → Int32 → Int32 → Int32 → Prop
  | 0, _, _, _, _, _, _, _, _, _ => False
  | n + 1, md_far_1, md_queue_2, md_from_3, md_by_4, md_many_5, x1_6, x2_7, x3_8, x4_9 => (((16384 : Int32)) ≤ x4_9 → wpJ_X8_wave_26 md_forms md_formMany md_seats md_barAlways md_noPut  post md_far_1 md_queue_2 md_from_3 md_by_4 md_many_5 x1_6 x2_7 x3_8) ∧ (¬ ((16384 : Int32)) ≤ x4_9 → vp_in x4_9 16384 ∧ ∀ md_far_73 : Nat → Int32, md_far_73 = upd md_far_1 x4_9.toNatClampNeg ((-9 : Int32)) → ∀ x4_74 : Int32, x4_74 = x4_9 + (1 : Int32) → (wpL_X8_wave_3 md_forms md_formMany md_seats md_barAlways md_noPut  post n) md_far_73 md_queue_2 md_from_3 md_by_4 md_many_5 x1_6 x2_7 x3_8 x4_74)
def wp_X8_wave (md_forms : Nat → Int32) (md_formMany : Nat → Int32) (md_seats : Nat → Int32) (md_barAlways : Int32) (md_noPut : Int32) (md_far : Nat → Int32) (md_queue : Nat → Int32) (md_from : Nat → Int32) (md_by : Nat → Int32) (md_many : Int32) (p0 : Int32) (p1 : Int32) (p2 : Int32) (post : (Nat → Int32) → (Nat → Int32) → (Nat → Int32) → (Nat → Int32) → Int32 → Prop) : Prop := ∃ k3, wpL_X8_wave_3 md_forms md_formMany md_seats md_barAlways md_noPut  post k3 md_far md_queue md_from md_by md_many p0 p1 p2 ((0 : Int32))
set_option maxHeartbeats 4000000 in
set_option maxRecDepth 100000 in
theorem c_X8_wave (l : Launch) (D : va_G) (cI cZ : ClassId) (md : Nat → Nat) (md_thrown : Int32) (md_text : Nat → Int32) (md_textSize : Int32) (md_place : Int32) (md_letter : Int32) (md_first : Int32) (md_second : Int32) (md_third : Int32) (md_side : Int32) (md_hang : Int32) (md_forms : Nat → Int32) (md_formMany : Nat → Int32) (md_seats : Nat → Int32) (md_now : Int32) (md_barAlways : Int32) (md_noPut : Int32) (md_far : Nat → Int32) (md_queue : Nat → Int32) (md_from : Nat → Int32) (md_by : Nat → Int32) (md_many : Int32) (md_is : Nat → Int32) (md_next : Nat → Int32) (md_rollSet : Nat → Int32) (md_rollAct : Nat → Int32) (md_rolls : Int32) (md_slots : Nat → Int32) (md_isKept : Nat → Int32) (p0 : Int32) (p1 : Int32) (p2 : Int32) (post : (Nat → Int32) → (Nat → Int32) → (Nat → Int32) → (Nat → Int32) → Int32 → Prop) (hm : wp_X8_wave md_forms md_formMany md_seats md_barAlways md_noPut md_far md_queue md_from md_by md_many p0 p1 p2 post) : Mv l D cI cZ yX8_wave cX8_wave 9 5 120 [.ref (md 0), .int p0, .int p1, .int p2] (W_md cI cZ md md_thrown md_text md_textSize md_place md_letter md_first md_second md_third md_side md_hang md_forms md_formMany md_seats md_now md_barAlways md_noPut md_far md_queue md_from md_by md_many md_is md_next md_rollSet md_rollAct md_rolls md_slots md_isKept) (S := (Nat → Int32) × (Nat → Int32) × (Nat → Int32) × (Nat → Int32) × Int32) (fun u => W_md cI cZ md md_thrown md_text md_textSize md_place md_letter md_first md_second md_third md_side md_hang md_forms md_formMany md_seats md_now md_barAlways md_noPut (u.1) (u.2.1) (u.2.2.1) (u.2.2.2.1) (u.2.2.2.2) md_is md_next md_rollSet md_rollAct md_rolls md_slots md_isKept) (fun u => post u.1 u.2.1 u.2.2.1 u.2.2.2.1 u.2.2.2.2) := by
  refine mk_Mv (by decide +kernel) (Nat.le_of_ble_eq_true rfl) ?_
  intro Γ hl0 hD0 hC hR
  subst hl0
  subst hD0
  have hC : CX Γ cI cZ cX8_wave RX8 9 5 120 := hC
  show VV Γ (W_md cI cZ md md_thrown md_text md_textSize md_place md_letter md_first md_second md_third md_side md_hang md_forms md_formMany md_seats md_now md_barAlways md_noPut md_far md_queue md_from md_by md_many md_is md_next md_rollSet md_rollAct md_rolls md_slots md_isKept) [(0, .ref (md 0)), (1, .int p0), (2, .int p1), (3, .int p2)] 0 []
  have B_122 : ∀ (K_48 : (Nat → Int32) → (Nat → Int32) → (Nat → Int32) → (Nat → Int32) → Int32 → Int32 → Int32 → Int32 → Prop) (hK_48 : ∀ (md_far_21 : Nat → Int32) (md_queue_22 : Nat → Int32) (md_from_23 : Nat → Int32) (md_by_24 : Nat → Int32) (md_many_25 : Int32) (x2_26 : Int32) (x3_27 : Int32) (x4_28 : Int32), K_48 md_far_21 md_queue_22 md_from_23 md_by_24 md_many_25 x2_26 x3_27 x4_28 → VV Γ (W_md cI cZ md md_thrown md_text md_textSize md_place md_letter md_first md_second md_third md_side md_hang md_forms md_formMany md_seats md_now md_barAlways md_noPut md_far_21 md_queue_22 md_from_23 md_by_24 md_many_25 md_is md_next md_rollSet md_rollAct md_rolls md_slots md_isKept) [(0, .ref (md 0)), (2, .int x2_26), (3, .int x3_27), (4, .int x4_28)] 48 []) (K_69 : (Nat → Int32) → (Nat → Int32) → (Nat → Int32) → (Nat → Int32) → Int32 → Int32 → Int32 → Int32 → Int32 → Int32 → Prop) (hK_69 : ∀ (md_far_31 : Nat → Int32) (md_queue_32 : Nat → Int32) (md_from_33 : Nat → Int32) (md_by_34 : Nat → Int32) (md_many_35 : Int32) (x2_36 : Int32) (x3_37 : Int32) (x4_38 : Int32) (x5_39 : Int32) (x6_40 : Int32), K_69 md_far_31 md_queue_32 md_from_33 md_by_34 md_many_35 x2_36 x3_37 x4_38 x5_39 x6_40 → VV Γ (W_md cI cZ md md_thrown md_text md_textSize md_place md_letter md_first md_second md_third md_side md_hang md_forms md_formMany md_seats md_now md_barAlways md_noPut md_far_31 md_queue_32 md_from_33 md_by_34 md_many_35 md_is md_next md_rollSet md_rollAct md_rolls md_slots md_isKept) [(0, .ref (md 0)), (2, .int x2_36), (3, .int x3_37), (4, .int x4_38), (5, .int x5_39), (6, .int x6_40)] 69 []) (md_far_46 : Nat → Int32) (md_queue_47 : Nat → Int32) (md_from_48 : Nat → Int32) (md_by_49 : Nat → Int32) (md_many_50 : Int32) (x2_51 : Int32) (x3_52 : Int32) (x4_53 : Int32) (x5_54 : Int32) (x6_55 : Int32) (x7_56 : Int32), wpJ_X8_wave_122 md_forms md_formMany md_seats md_barAlways md_noPut K_48 K_69 post md_far_46 md_queue_47 md_from_48 md_by_49 md_many_50 x2_51 x3_52 x4_53 x5_54 x6_55 x7_56 → VV Γ (W_md cI cZ md md_thrown md_text md_textSize md_place md_letter md_first md_second md_third md_side md_hang md_forms md_formMany md_seats md_now md_barAlways md_noPut md_far_46 md_queue_47 md_from_48 md_by_49 md_many_50 md_is md_next md_rollSet md_rollAct md_rolls md_slots md_isKept) [(0, .ref (md 0)), (2, .int x2_51), (3, .int x3_52), (4, .int x4_53), (5, .int x5_54), (6, .int x6_55), (7, .int x7_56)] 122 [] := by
    intro K_48 hK_48 K_69 hK_69 md_far_46 md_queue_47 md_from_48 md_by_49 md_many_50 x2_51 x3_52 x4_53 x5_54 x6_55 x7_56 hm
    unfold wpJ_X8_wave_122 at hm
    refine x_aload_n hC 0 dX8_wave_122 rfl ?_
    refine x_iload hC 4 dX8_wave_123 rfl ?_
    refine x_iload hC 6 dX8_wave_125 rfl ?_
    refine x_callVi hC _ [0, 1, 2, 3, 4, 5, 6, 7, 8, 9, 10, 11, 12, 13, 14] [] [0, 1, 2, 3, 4, 5, 6, 7, 8, 9, 10, 11, 12, 13, 14] (([] : va_W)) (fun _ => W_md cI cZ md md_thrown md_text md_textSize md_place md_letter md_first md_second md_third md_side md_hang md_forms md_formMany md_seats md_now md_barAlways md_noPut md_far_46 md_queue_47 md_from_48 md_by_49 md_many_50 md_is md_next md_rollSet md_rollAct md_rolls md_slots md_isKept) ok_X8_done ml_X8_183 0 5 (c_X8_done (gl Γ) (gD Γ) cI cZ md md_thrown md_text md_textSize md_place md_letter md_first md_second md_third md_side md_hang md_forms md_formMany md_seats md_now md_barAlways md_noPut md_far_46 md_queue_47 md_from_48 md_by_49 md_many_50 md_is md_next md_rollSet md_rollAct md_rolls md_slots md_isKept x5_54 x7_56 _ hm) (by decide) (by decide) rfl (Nat.le_of_ble_eq_true rfl) rfl rfl rfl rfl (by decide) rfl (fun _ => rfl) rfl rfl rfl rfl dX8_wave_127 ?_
    rintro r_57 _ hm
    refine x_istore hC [(0, .ref (md 0)), (2, .int x2_51), (3, .int x3_52), (4, .int x4_53), (5, .int x5_54), (6, .int x6_55), (7, .int x7_56), (8, .int r_57)] [1, 2, 3, 4, 5, 6, 7, 0] dX8_wave_130 (by decide) rfl ?_
    refine x_aload_n hC 0 dX8_wave_132 rfl ?_
    refine x_get hC 5 inX8g 0 rfl rfl 16 (by decide) fl_X8_29 rfl dX8_wave_133 ?_
    refine x_iload hC 7 dX8_wave_136 rfl ?_
    refine x_iald hC 5 rfl hm.1 dX8_wave_138 ?_
    replace hm := hm.2
    refine x_bipush hC (-9 : Int32) dX8_wave_139 (by decide) ?_
    refine x_icmp_ne hC 199 dX8_wave_141 (by decide) (fun c_58 => ?_) (fun c_58 => ?_)
    · replace hm := hm.1 c_58
      obtain ⟨x6_59, ex6_59⟩ : ∃ y : Int32, y = x6_55 + (1 : Int32) := ⟨_, rfl⟩
      replace hm := hm x6_59 ex6_59
      refine x_iinc hC 5 x6_59 [(0, .ref (md 0)), (2, .int x2_51), (3, .int x3_52), (4, .int x4_53), (5, .int x5_54), (6, .int x6_59), (7, .int x7_56), (8, .int r_57)] [1, 2, 3, 4, 5, 0, 6, 7] dX8_wave_199 rfl (by rw [ex6_59]; rfl) (by decide) rfl ?_
      refine x_goto hC 69 dX8_wave_202 (by decide) ?_
      refine x_lsub [0, 1, 2, 3, 4, 5] rfl ?_
      exact hK_69 md_far_46 md_queue_47 md_from_48 md_by_49 md_many_50 x2_51 x3_52 x4_53 x5_54 x6_59 hm
    · replace hm := hm.2 c_58
      refine x_aload_n hC 0 dX8_wave_144 rfl ?_
      refine x_get hC 5 inX8g 0 rfl rfl 16 (by decide) fl_X8_29 rfl dX8_wave_145 ?_
      refine x_iload hC 7 dX8_wave_148 rfl ?_
      refine x_aload_n hC 0 dX8_wave_150 rfl ?_
      refine x_get hC 5 inX8g 0 rfl rfl 16 (by decide) fl_X8_29 rfl dX8_wave_151 ?_
      refine x_iload hC 4 dX8_wave_154 rfl ?_
      refine x_iald hC 5 rfl hm.1 dX8_wave_156 ?_
      replace hm := hm.2
      refine x_iconst hC (1 : Int32) dX8_wave_157 (by decide) ?_
      refine x_iadd hC dX8_wave_158 ?_
      refine x_iastN hC 5 rfl hm.1 (fun md_far_60 => W_md cI cZ md md_thrown md_text md_textSize md_place md_letter md_first md_second md_third md_side md_hang md_forms md_formMany md_seats md_now md_barAlways md_noPut md_far_60 md_queue_47 md_from_48 md_by_49 md_many_50 md_is md_next md_rollSet md_rollAct md_rolls md_slots md_isKept) (fun _ => rfl) dX8_wave_159 (fun md_far_60 emd_far_60 => ?_)
      replace hm := hm.2 md_far_60 emd_far_60
      refine x_aload_n hC 0 dX8_wave_160 rfl ?_
      refine x_get hC 5 inX8g 0 rfl rfl 18 (by decide) fl_X8_35 rfl dX8_wave_161 ?_
      refine x_iload hC 7 dX8_wave_164 rfl ?_
      refine x_iload hC 4 dX8_wave_166 rfl ?_
      refine x_iastN hC 7 rfl hm.1 (fun md_from_61 => W_md cI cZ md md_thrown md_text md_textSize md_place md_letter md_first md_second md_third md_side md_hang md_forms md_formMany md_seats md_now md_barAlways md_noPut md_far_60 md_queue_47 md_from_61 md_by_49 md_many_50 md_is md_next md_rollSet md_rollAct md_rolls md_slots md_isKept) (fun _ => rfl) dX8_wave_168 (fun md_from_61 emd_from_61 => ?_)
      replace hm := hm.2 md_from_61 emd_from_61
      refine x_aload_n hC 0 dX8_wave_169 rfl ?_
      refine x_get hC 5 inX8g 0 rfl rfl 19 (by decide) fl_X8_38 rfl dX8_wave_170 ?_
      refine x_iload hC 7 dX8_wave_173 rfl ?_
      refine x_iload hC 6 dX8_wave_175 rfl ?_
      refine x_iastN hC 8 rfl hm.1 (fun md_by_62 => W_md cI cZ md md_thrown md_text md_textSize md_place md_letter md_first md_second md_third md_side md_hang md_forms md_formMany md_seats md_now md_barAlways md_noPut md_far_60 md_queue_47 md_from_61 md_by_62 md_many_50 md_is md_next md_rollSet md_rollAct md_rolls md_slots md_isKept) (fun _ => rfl) dX8_wave_177 (fun md_by_62 emd_by_62 => ?_)
      replace hm := hm.2 md_by_62 emd_by_62
      refine x_aload_n hC 0 dX8_wave_178 rfl ?_
      refine x_get hC 5 inX8g 0 rfl rfl 17 (by decide) fl_X8_32 rfl dX8_wave_179 ?_
      refine x_aload_n hC 0 dX8_wave_182 rfl ?_
      refine x_get hC 5 inX8g 0 rfl rfl 20 (by decide) fl_X8_195 rfl dX8_wave_183 ?_
      refine x_iload hC 7 dX8_wave_186 rfl ?_
      refine x_iastN hC 6 rfl hm.1 (fun md_queue_63 => W_md cI cZ md md_thrown md_text md_textSize md_place md_letter md_first md_second md_third md_side md_hang md_forms md_formMany md_seats md_now md_barAlways md_noPut md_far_60 md_queue_63 md_from_61 md_by_62 md_many_50 md_is md_next md_rollSet md_rollAct md_rolls md_slots md_isKept) (fun _ => rfl) dX8_wave_188 (fun md_queue_63 emd_queue_63 => ?_)
      replace hm := hm.2 md_queue_63 emd_queue_63
      refine x_aload_n hC 0 dX8_wave_189 rfl ?_
      refine x_dup hC dX8_wave_190 rfl ?_
      refine x_get hC 5 inX8g 0 rfl rfl 20 (by decide) fl_X8_195 rfl dX8_wave_191 ?_
      refine x_iconst hC (1 : Int32) dX8_wave_194 (by decide) ?_
      refine x_iadd hC dX8_wave_195 ?_
      refine x_top (fun v_64 ev_64 => ?_)
      replace hm := hm v_64 ev_64
      refine x_put hC 5 tyX8_ok nmX8 inX8g 0 rfl rfl 20 (by decide) fl_X8_195 rfl (ty := .int) (by decide +kernel) rfl rfl (Nat.le_of_ble_eq_true rfl) (W_md cI cZ md md_thrown md_text md_textSize md_place md_letter md_first md_second md_third md_side md_hang md_forms md_formMany md_seats md_now md_barAlways md_noPut md_far_60 md_queue_63 md_from_61 md_by_62 v_64 md_is md_next md_rollSet md_rollAct md_rolls md_slots md_isKept) rfl dX8_wave_196 ?_
      obtain ⟨x6_65, ex6_65⟩ : ∃ y : Int32, y = x6_55 + (1 : Int32) := ⟨_, rfl⟩
      replace hm := hm x6_65 ex6_65
      refine x_iinc hC 5 x6_65 [(0, .ref (md 0)), (2, .int x2_51), (3, .int x3_52), (4, .int x4_53), (5, .int x5_54), (6, .int x6_65), (7, .int x7_56), (8, .int r_57)] [1, 2, 3, 4, 5, 0, 6, 7] dX8_wave_199 rfl (by rw [ex6_65]; rfl) (by decide) rfl ?_
      refine x_goto hC 69 dX8_wave_202 (by decide) ?_
      refine x_lsub [0, 1, 2, 3, 4, 5] rfl ?_
      exact hK_69 md_far_60 md_queue_63 md_from_61 md_by_62 v_64 x2_51 x3_52 x4_53 x5_54 x6_65 hm
  have B_69 : ∀ (K_48 : (Nat → Int32) → (Nat → Int32) → (Nat → Int32) → (Nat → Int32) → Int32 → Int32 → Int32 → Int32 → Prop) (hK_48 : ∀ (md_far_21 : Nat → Int32) (md_queue_22 : Nat → Int32) (md_from_23 : Nat → Int32) (md_by_24 : Nat → Int32) (md_many_25 : Int32) (x2_26 : Int32) (x3_27 : Int32) (x4_28 : Int32), K_48 md_far_21 md_queue_22 md_from_23 md_by_24 md_many_25 x2_26 x3_27 x4_28 → VV Γ (W_md cI cZ md md_thrown md_text md_textSize md_place md_letter md_first md_second md_third md_side md_hang md_forms md_formMany md_seats md_now md_barAlways md_noPut md_far_21 md_queue_22 md_from_23 md_by_24 md_many_25 md_is md_next md_rollSet md_rollAct md_rolls md_slots md_isKept) [(0, .ref (md 0)), (2, .int x2_26), (3, .int x3_27), (4, .int x4_28)] 48 []) (n : Nat) (md_far_31 : Nat → Int32) (md_queue_32 : Nat → Int32) (md_from_33 : Nat → Int32) (md_by_34 : Nat → Int32) (md_many_35 : Int32) (x2_36 : Int32) (x3_37 : Int32) (x4_38 : Int32) (x5_39 : Int32) (x6_40 : Int32), wpL_X8_wave_69 md_forms md_formMany md_seats md_barAlways md_noPut K_48 post n md_far_31 md_queue_32 md_from_33 md_by_34 md_many_35 x2_36 x3_37 x4_38 x5_39 x6_40 → VV Γ (W_md cI cZ md md_thrown md_text md_textSize md_place md_letter md_first md_second md_third md_side md_hang md_forms md_formMany md_seats md_now md_barAlways md_noPut md_far_31 md_queue_32 md_from_33 md_by_34 md_many_35 md_is md_next md_rollSet md_rollAct md_rolls md_slots md_isKept) [(0, .ref (md 0)), (2, .int x2_36), (3, .int x3_37), (4, .int x4_38), (5, .int x5_39), (6, .int x6_40)] 69 [] := by
    intro K_48 hK_48 n
    induction n with
    | zero => intro md_far_31 md_queue_32 md_from_33 md_by_34 md_many_35 x2_36 x3_37 x4_38 x5_39 x6_40 hm; rw [wpL_X8_wave_69] at hm; exact hm.elim
    | succ n ih =>
      intro md_far_31 md_queue_32 md_from_33 md_by_34 md_many_35 x2_36 x3_37 x4_38 x5_39 x6_40 hm
      rw [wpL_X8_wave_69] at hm
      refine x_iload hC 5 dX8_wave_69 rfl ?_
      refine x_bipush hC (20 : Int32) dX8_wave_71 (by decide) ?_
      refine x_icmp_ge hC 205 dX8_wave_73 (by decide) (fun c_41 => ?_) (fun c_41 => ?_)
      · replace hm := hm.1 c_41
        obtain ⟨x4_42, ex4_42⟩ : ∃ y : Int32, y = x4_38 + (1 : Int32) := ⟨_, rfl⟩
        replace hm := hm x4_42 ex4_42
        refine x_iinc hC 3 x4_42 [(0, .ref (md 0)), (2, .int x2_36), (3, .int x3_37), (4, .int x4_42), (5, .int x5_39), (6, .int x6_40)] [1, 2, 3, 0, 4, 5] dX8_wave_205 rfl (by rw [ex4_42]; rfl) (by decide) rfl ?_
        refine x_goto hC 48 dX8_wave_208 (by decide) ?_
        refine x_lsub [0, 1, 2, 3] rfl ?_
        exact hK_48 md_far_31 md_queue_32 md_from_33 md_by_34 md_many_35 x2_36 x3_37 x4_42 hm
      · replace hm := hm.2 c_41
        refine x_bipush hC (100 : Int32) dX8_wave_76 (by decide) ?_
        refine x_iload hC 5 dX8_wave_78 rfl ?_
        refine x_iconst hC (4 : Int32) dX8_wave_80 (by decide) ?_
        refine x_idiv hC dX8_wave_81 (by decide) ?_
        refine x_imul hC dX8_wave_82 ?_
        refine x_bipush hC (10 : Int32) dX8_wave_83 (by decide) ?_
        refine x_iload hC 5 dX8_wave_85 rfl ?_
        refine x_iconst hC (4 : Int32) dX8_wave_87 (by decide) ?_
        refine x_irem hC dX8_wave_88 (by decide) ?_
        refine x_imul hC dX8_wave_89 ?_
        refine x_iadd hC dX8_wave_90 ?_
        refine x_top (fun x7_43 ex7_43 => ?_)
        replace hm := hm x7_43 ex7_43
        refine x_istore hC [(0, .ref (md 0)), (2, .int x2_36), (3, .int x3_37), (4, .int x4_38), (5, .int x5_39), (6, .int x6_40), (7, .int x7_43)] [1, 2, 3, 4, 5, 6, 0] dX8_wave_91 (by decide) rfl ?_
        refine x_aload_n hC 0 dX8_wave_93 rfl ?_
        refine x_iload hC 4 dX8_wave_94 rfl ?_
        refine x_iload_n hC 1 dX8_wave_96 rfl ?_
        refine x_iload hC 6 dX8_wave_97 rfl ?_
        refine x_callVi hC _ [0, 1, 2, 3, 4, 5, 6, 7, 8, 9, 10, 11, 12, 13, 14] [] [0, 1, 2, 3, 4, 5, 6, 7, 8, 9, 10, 11, 12, 13, 14] (([] : va_W)) (fun _ => W_md cI cZ md md_thrown md_text md_textSize md_place md_letter md_first md_second md_third md_side md_hang md_forms md_formMany md_seats md_now md_barAlways md_noPut md_far_31 md_queue_32 md_from_33 md_by_34 md_many_35 md_is md_next md_rollSet md_rollAct md_rolls md_slots md_isKept) ok_X8_whyNot ml_X8_186 0 5 (c_X8_whyNot (gl Γ) (gD Γ) cI cZ md md_thrown md_text md_textSize md_place md_letter md_first md_second md_third md_side md_hang md_forms md_formMany md_seats md_now md_barAlways md_noPut md_far_31 md_queue_32 md_from_33 md_by_34 md_many_35 md_is md_next md_rollSet md_rollAct md_rolls md_slots md_isKept x5_39 x2_36 x7_43 _ hm) (by decide) (by decide) rfl (Nat.le_of_ble_eq_true rfl) rfl rfl rfl rfl (by decide) rfl (fun _ => rfl) rfl rfl rfl rfl dX8_wave_99 ?_
        rintro r_44 _ hm
        refine x_if_eq hC 122 dX8_wave_102 (by decide) (fun c_45 => ?_) (fun c_45 => ?_)
        · replace hm := hm.1 c_45
          exact B_122 K_48 hK_48 (fun y0 y1 y2 y3 y4 y5 y6 y7 y8 y9 => wpL_X8_wave_69 md_forms md_formMany md_seats md_barAlways md_noPut K_48 post n y0 y1 y2 y3 y4 y5 y6 y7 y8 y9) ih  md_far_31 md_queue_32 md_from_33 md_by_34 md_many_35 x2_36 x3_37 x4_38 x5_39 x6_40 x7_43 hm
        · replace hm := hm.2 c_45
          refine x_iload_n hC 2 dX8_wave_105 rfl ?_
          refine x_iload_n hC 1 dX8_wave_106 rfl ?_
          refine x_icmp_eq hC 199 dX8_wave_107 (by decide) (fun c_66 => ?_) (fun c_66 => ?_)
          · replace hm := hm.1 c_66
            obtain ⟨x6_67, ex6_67⟩ : ∃ y : Int32, y = x6_40 + (1 : Int32) := ⟨_, rfl⟩
            replace hm := hm x6_67 ex6_67
            refine x_iinc hC 5 x6_67 [(0, .ref (md 0)), (2, .int x2_36), (3, .int x3_37), (4, .int x4_38), (5, .int x5_39), (6, .int x6_67), (7, .int x7_43)] [1, 2, 3, 4, 5, 0, 6] dX8_wave_199 rfl (by rw [ex6_67]; rfl) (by decide) rfl ?_
            refine x_goto hC 69 dX8_wave_202 (by decide) ?_
            refine x_lsub [0, 1, 2, 3, 4, 5] rfl ?_
            exact ih md_far_31 md_queue_32 md_from_33 md_by_34 md_many_35 x2_36 x3_37 x4_38 x5_39 x6_67 hm
          · replace hm := hm.2 c_66
            refine x_aload_n hC 0 dX8_wave_110 rfl ?_
            refine x_iload hC 4 dX8_wave_111 rfl ?_
            refine x_iload_n hC 2 dX8_wave_113 rfl ?_
            refine x_iload hC 6 dX8_wave_114 rfl ?_
            refine x_callVi hC _ [0, 1, 2, 3, 4, 5, 6, 7, 8, 9, 10, 11, 12, 13, 14] [] [0, 1, 2, 3, 4, 5, 6, 7, 8, 9, 10, 11, 12, 13, 14] (([] : va_W)) (fun _ => W_md cI cZ md md_thrown md_text md_textSize md_place md_letter md_first md_second md_third md_side md_hang md_forms md_formMany md_seats md_now md_barAlways md_noPut md_far_31 md_queue_32 md_from_33 md_by_34 md_many_35 md_is md_next md_rollSet md_rollAct md_rolls md_slots md_isKept) ok_X8_whyNot ml_X8_186 0 5 (c_X8_whyNot (gl Γ) (gD Γ) cI cZ md md_thrown md_text md_textSize md_place md_letter md_first md_second md_third md_side md_hang md_forms md_formMany md_seats md_now md_barAlways md_noPut md_far_31 md_queue_32 md_from_33 md_by_34 md_many_35 md_is md_next md_rollSet md_rollAct md_rolls md_slots md_isKept x5_39 x3_37 x7_43 _ hm) (by decide) (by decide) rfl (Nat.le_of_ble_eq_true rfl) rfl rfl rfl rfl (by decide) rfl (fun _ => rfl) rfl rfl rfl rfl dX8_wave_116 ?_
            rintro r_68 _ hm
            refine x_if_ne hC 199 dX8_wave_119 (by decide) (fun c_69 => ?_) (fun c_69 => ?_)
            · replace hm := hm.1 c_69
              obtain ⟨x6_70, ex6_70⟩ : ∃ y : Int32, y = x6_40 + (1 : Int32) := ⟨_, rfl⟩
              replace hm := hm x6_70 ex6_70
              refine x_iinc hC 5 x6_70 [(0, .ref (md 0)), (2, .int x2_36), (3, .int x3_37), (4, .int x4_38), (5, .int x5_39), (6, .int x6_70), (7, .int x7_43)] [1, 2, 3, 4, 5, 0, 6] dX8_wave_199 rfl (by rw [ex6_70]; rfl) (by decide) rfl ?_
              refine x_goto hC 69 dX8_wave_202 (by decide) ?_
              refine x_lsub [0, 1, 2, 3, 4, 5] rfl ?_
              exact ih md_far_31 md_queue_32 md_from_33 md_by_34 md_many_35 x2_36 x3_37 x4_38 x5_39 x6_70 hm
            · replace hm := hm.2 c_69
              exact B_122 K_48 hK_48 (fun y0 y1 y2 y3 y4 y5 y6 y7 y8 y9 => wpL_X8_wave_69 md_forms md_formMany md_seats md_barAlways md_noPut K_48 post n y0 y1 y2 y3 y4 y5 y6 y7 y8 y9) ih  md_far_31 md_queue_32 md_from_33 md_by_34 md_many_35 x2_36 x3_37 x4_38 x5_39 x6_40 x7_43 hm
  have B_48 : ∀ (n : Nat) (md_far_21 : Nat → Int32) (md_queue_22 : Nat → Int32) (md_from_23 : Nat → Int32) (md_by_24 : Nat → Int32) (md_many_25 : Int32) (x2_26 : Int32) (x3_27 : Int32) (x4_28 : Int32), wpL_X8_wave_48 md_forms md_formMany md_seats md_barAlways md_noPut  post n md_far_21 md_queue_22 md_from_23 md_by_24 md_many_25 x2_26 x3_27 x4_28 → VV Γ (W_md cI cZ md md_thrown md_text md_textSize md_place md_letter md_first md_second md_third md_side md_hang md_forms md_formMany md_seats md_now md_barAlways md_noPut md_far_21 md_queue_22 md_from_23 md_by_24 md_many_25 md_is md_next md_rollSet md_rollAct md_rolls md_slots md_isKept) [(0, .ref (md 0)), (2, .int x2_26), (3, .int x3_27), (4, .int x4_28)] 48 [] := by
    intro  n
    induction n with
    | zero => intro md_far_21 md_queue_22 md_from_23 md_by_24 md_many_25 x2_26 x3_27 x4_28 hm; rw [wpL_X8_wave_48] at hm; exact hm.elim
    | succ n ih =>
      intro md_far_21 md_queue_22 md_from_23 md_by_24 md_many_25 x2_26 x3_27 x4_28 hm
      rw [wpL_X8_wave_48] at hm
      refine x_iload hC 3 dX8_wave_48 rfl ?_
      refine x_aload_n hC 0 dX8_wave_50 rfl ?_
      refine x_get hC 5 inX8g 0 rfl rfl 20 (by decide) fl_X8_195 rfl dX8_wave_51 ?_
      refine x_icmp_ge hC 211 dX8_wave_54 (by decide) (fun c_29 => ?_) (fun c_29 => ?_)
      · replace hm := hm.1 c_29
        exact hR (md_far_21, md_queue_22, md_from_23, md_by_24, md_many_25) [(0, .ref (md 0)), (2, .int x2_26), (3, .int x3_27), (4, .int x4_28)] 211 hm dX8_wave_211
      · replace hm := hm.2 c_29
        refine x_aload_n hC 0 dX8_wave_57 rfl ?_
        refine x_get hC 5 inX8g 0 rfl rfl 17 (by decide) fl_X8_32 rfl dX8_wave_58 ?_
        refine x_iload hC 3 dX8_wave_61 rfl ?_
        refine x_iald hC 6 rfl hm.1 dX8_wave_63 ?_
        replace hm := hm.2
        refine x_top (fun x5_30 ex5_30 => ?_)
        replace hm := hm x5_30 ex5_30
        refine x_istore hC [(0, .ref (md 0)), (2, .int x2_26), (3, .int x3_27), (4, .int x4_28), (5, .int x5_30)] [1, 2, 3, 4, 0] dX8_wave_64 (by decide) rfl ?_
        refine x_iconst hC (0 : Int32) dX8_wave_66 (by decide) ?_
        refine x_istore hC [(0, .ref (md 0)), (2, .int x2_26), (3, .int x3_27), (4, .int x4_28), (5, .int x5_30), (6, .int ((0 : Int32)))] [1, 2, 3, 4, 5, 0] dX8_wave_67 (by decide) rfl ?_
        obtain ⟨n_71, hm⟩ := hm
        exact B_69 (fun y0 y1 y2 y3 y4 y5 y6 y7 => wpL_X8_wave_48 md_forms md_formMany md_seats md_barAlways md_noPut  post n y0 y1 y2 y3 y4 y5 y6 y7) ih n_71 md_far_21 md_queue_22 md_from_23 md_by_24 md_many_25 x2_26 x3_27 x4_28 x5_30 ((0 : Int32)) hm
  have B_26 : ∀ (md_far_11 : Nat → Int32) (md_queue_12 : Nat → Int32) (md_from_13 : Nat → Int32) (md_by_14 : Nat → Int32) (md_many_15 : Int32) (x1_16 : Int32) (x2_17 : Int32) (x3_18 : Int32), wpJ_X8_wave_26 md_forms md_formMany md_seats md_barAlways md_noPut  post md_far_11 md_queue_12 md_from_13 md_by_14 md_many_15 x1_16 x2_17 x3_18 → VV Γ (W_md cI cZ md md_thrown md_text md_textSize md_place md_letter md_first md_second md_third md_side md_hang md_forms md_formMany md_seats md_now md_barAlways md_noPut md_far_11 md_queue_12 md_from_13 md_by_14 md_many_15 md_is md_next md_rollSet md_rollAct md_rolls md_slots md_isKept) [(0, .ref (md 0)), (1, .int x1_16), (2, .int x2_17), (3, .int x3_18)] 26 [] := by
    intro  md_far_11 md_queue_12 md_from_13 md_by_14 md_many_15 x1_16 x2_17 x3_18 hm
    unfold wpJ_X8_wave_26 at hm
    refine x_aload_n hC 0 dX8_wave_26 rfl ?_
    refine x_get hC 5 inX8g 0 rfl rfl 16 (by decide) fl_X8_29 rfl dX8_wave_27 ?_
    refine x_iload_n hC 1 dX8_wave_30 rfl ?_
    refine x_iconst hC (0 : Int32) dX8_wave_31 (by decide) ?_
    refine x_iastN hC 5 rfl hm.1 (fun md_far_19 => W_md cI cZ md md_thrown md_text md_textSize md_place md_letter md_first md_second md_third md_side md_hang md_forms md_formMany md_seats md_now md_barAlways md_noPut md_far_19 md_queue_12 md_from_13 md_by_14 md_many_15 md_is md_next md_rollSet md_rollAct md_rolls md_slots md_isKept) (fun _ => rfl) dX8_wave_32 (fun md_far_19 emd_far_19 => ?_)
    replace hm := hm.2 md_far_19 emd_far_19
    refine x_aload_n hC 0 dX8_wave_33 rfl ?_
    refine x_get hC 5 inX8g 0 rfl rfl 17 (by decide) fl_X8_32 rfl dX8_wave_34 ?_
    refine x_iconst hC (0 : Int32) dX8_wave_37 (by decide) ?_
    refine x_iload_n hC 1 dX8_wave_38 rfl ?_
    refine x_iastN hC 6 rfl hm.1 (fun md_queue_20 => W_md cI cZ md md_thrown md_text md_textSize md_place md_letter md_first md_second md_third md_side md_hang md_forms md_formMany md_seats md_now md_barAlways md_noPut md_far_19 md_queue_20 md_from_13 md_by_14 md_many_15 md_is md_next md_rollSet md_rollAct md_rolls md_slots md_isKept) (fun _ => rfl) dX8_wave_39 (fun md_queue_20 emd_queue_20 => ?_)
    replace hm := hm.2 md_queue_20 emd_queue_20
    refine x_aload_n hC 0 dX8_wave_40 rfl ?_
    refine x_iconst hC (1 : Int32) dX8_wave_41 (by decide) ?_
    refine x_put hC 5 tyX8_ok nmX8 inX8g 0 rfl rfl 20 (by decide) fl_X8_195 rfl (ty := .int) (by decide +kernel) rfl rfl (Nat.le_of_ble_eq_true rfl) (W_md cI cZ md md_thrown md_text md_textSize md_place md_letter md_first md_second md_third md_side md_hang md_forms md_formMany md_seats md_now md_barAlways md_noPut md_far_19 md_queue_20 md_from_13 md_by_14 ((1 : Int32)) md_is md_next md_rollSet md_rollAct md_rolls md_slots md_isKept) rfl dX8_wave_42 ?_
    refine x_iconst hC (0 : Int32) dX8_wave_45 (by decide) ?_
    refine x_istore hC [(0, .ref (md 0)), (1, .int x1_16), (2, .int x2_17), (3, .int x3_18), (4, .int ((0 : Int32)))] [1, 2, 3, 4, 0] dX8_wave_46 (by decide) rfl ?_
    obtain ⟨n_72, hm⟩ := hm
    refine x_lsub [0, 2, 3, 4] rfl ?_
    exact B_48  n_72 md_far_19 md_queue_20 md_from_13 md_by_14 ((1 : Int32)) x2_17 x3_18 ((0 : Int32)) hm
  have B_3 : ∀ (n : Nat) (md_far_1 : Nat → Int32) (md_queue_2 : Nat → Int32) (md_from_3 : Nat → Int32) (md_by_4 : Nat → Int32) (md_many_5 : Int32) (x1_6 : Int32) (x2_7 : Int32) (x3_8 : Int32) (x4_9 : Int32), wpL_X8_wave_3 md_forms md_formMany md_seats md_barAlways md_noPut  post n md_far_1 md_queue_2 md_from_3 md_by_4 md_many_5 x1_6 x2_7 x3_8 x4_9 → VV Γ (W_md cI cZ md md_thrown md_text md_textSize md_place md_letter md_first md_second md_third md_side md_hang md_forms md_formMany md_seats md_now md_barAlways md_noPut md_far_1 md_queue_2 md_from_3 md_by_4 md_many_5 md_is md_next md_rollSet md_rollAct md_rolls md_slots md_isKept) [(0, .ref (md 0)), (1, .int x1_6), (2, .int x2_7), (3, .int x3_8), (4, .int x4_9)] 3 [] := by
    intro  n
    induction n with
    | zero => intro md_far_1 md_queue_2 md_from_3 md_by_4 md_many_5 x1_6 x2_7 x3_8 x4_9 hm; rw [wpL_X8_wave_3] at hm; exact hm.elim
    | succ n ih =>
      intro md_far_1 md_queue_2 md_from_3 md_by_4 md_many_5 x1_6 x2_7 x3_8 x4_9 hm
      rw [wpL_X8_wave_3] at hm
      refine x_iload hC 4 dX8_wave_3 rfl ?_
      refine x_sipush hC (16384 : Int32) dX8_wave_5 (by decide) ?_
      refine x_icmp_ge hC 26 dX8_wave_8 (by decide) (fun c_10 => ?_) (fun c_10 => ?_)
      · replace hm := hm.1 c_10
        refine x_lsub [0, 1, 2, 3] rfl ?_
        exact B_26   md_far_1 md_queue_2 md_from_3 md_by_4 md_many_5 x1_6 x2_7 x3_8 hm
      · replace hm := hm.2 c_10
        refine x_aload_n hC 0 dX8_wave_11 rfl ?_
        refine x_get hC 5 inX8g 0 rfl rfl 16 (by decide) fl_X8_29 rfl dX8_wave_12 ?_
        refine x_iload hC 4 dX8_wave_15 rfl ?_
        refine x_bipush hC (-9 : Int32) dX8_wave_17 (by decide) ?_
        refine x_iastN hC 5 rfl hm.1 (fun md_far_73 => W_md cI cZ md md_thrown md_text md_textSize md_place md_letter md_first md_second md_third md_side md_hang md_forms md_formMany md_seats md_now md_barAlways md_noPut md_far_73 md_queue_2 md_from_3 md_by_4 md_many_5 md_is md_next md_rollSet md_rollAct md_rolls md_slots md_isKept) (fun _ => rfl) dX8_wave_19 (fun md_far_73 emd_far_73 => ?_)
        replace hm := hm.2 md_far_73 emd_far_73
        obtain ⟨x4_74, ex4_74⟩ : ∃ y : Int32, y = x4_9 + (1 : Int32) := ⟨_, rfl⟩
        replace hm := hm x4_74 ex4_74
        refine x_iinc hC 4 x4_74 [(0, .ref (md 0)), (1, .int x1_6), (2, .int x2_7), (3, .int x3_8), (4, .int x4_74)] [1, 2, 3, 4, 0] dX8_wave_20 rfl (by rw [ex4_74]; rfl) (by decide) rfl ?_
        refine x_goto hC 3 dX8_wave_23 (by decide) ?_
        exact ih md_far_73 md_queue_2 md_from_3 md_by_4 md_many_5 x1_6 x2_7 x3_8 x4_74 hm
  unfold wp_X8_wave at hm
  refine x_iconst hC (0 : Int32) dX8_wave_0 (by decide) ?_
  refine x_istore hC [(0, .ref (md 0)), (1, .int p0), (2, .int p1), (3, .int p2), (4, .int ((0 : Int32)))] [1, 2, 3, 4, 0] dX8_wave_1 (by decide) rfl ?_
  obtain ⟨n_75, hm⟩ := hm
  exact B_3  n_75 md_far md_queue md_from md_by md_many p0 p1 p2 ((0 : Int32)) hm

def wpL_X8_soMany_4 (md_queue : Nat → Int32) (md_many : Int32)  (post : Int32 → Prop) : Nat → Int32 → Int32 → Int32 → Prop
  | 0, _, _, _ => False
  | n + 1, x1_1, x2_2, x3_3 => (md_many ≤ x3_3 → post x2_2 ) ∧ (¬ md_many ≤ x3_3 → vp_in x3_3 16384 ∧ (wp_X8_isSo  (md_queue x3_3.toNatClampNeg) x1_1 (fun (r_5 : Int32) => (r_5 = 0 → ∀ x2_7 : Int32, x2_7 = x2_2 + ((0 : Int32)) → ∀ x3_8 : Int32, x3_8 = x3_3 + (1 : Int32) → (wpL_X8_soMany_4 md_queue md_many  post n) x1_1 x2_7 x3_8) ∧ (¬ r_5 = 0 → ∀ x2_9 : Int32, x2_9 = x2_2 + ((1 : Int32)) → ∀ x3_10 : Int32, x3_10 = x3_3 + (1 : Int32) → (wpL_X8_soMany_4 md_queue md_many  post n) x1_1 x2_9 x3_10))))
def wp_X8_soMany (md_queue : Nat → Int32) (md_many : Int32) (p0 : Int32) (post : Int32 → Prop) : Prop := ∃ k4, wpL_X8_soMany_4 md_queue md_many  post k4 p0 ((0 : Int32)) ((0 : Int32))
set_option maxHeartbeats 4000000 in
set_option maxRecDepth 100000 in
theorem c_X8_soMany (l : Launch) (D : va_G) (cI cZ : ClassId) (md : Nat → Nat) (md_thrown : Int32) (md_text : Nat → Int32) (md_textSize : Int32) (md_place : Int32) (md_letter : Int32) (md_first : Int32) (md_second : Int32) (md_third : Int32) (md_side : Int32) (md_hang : Int32) (md_forms : Nat → Int32) (md_formMany : Nat → Int32) (md_seats : Nat → Int32) (md_now : Int32) (md_barAlways : Int32) (md_noPut : Int32) (md_far : Nat → Int32) (md_queue : Nat → Int32) (md_from : Nat → Int32) (md_by : Nat → Int32) (md_many : Int32) (md_is : Nat → Int32) (md_next : Nat → Int32) (md_rollSet : Nat → Int32) (md_rollAct : Nat → Int32) (md_rolls : Int32) (md_slots : Nat → Int32) (md_isKept : Nat → Int32) (p0 : Int32) (post : Int32 → Prop) (hm : wp_X8_soMany md_queue md_many p0 post) : Mi l D cI cZ yX8_soMany cX8_soMany 4 .int 2 42 [.ref (md 0), .int p0] (W_md cI cZ md md_thrown md_text md_textSize md_place md_letter md_first md_second md_third md_side md_hang md_forms md_formMany md_seats md_now md_barAlways md_noPut md_far md_queue md_from md_by md_many md_is md_next md_rollSet md_rollAct md_rolls md_slots md_isKept) (S := Unit) (fun _ => W_md cI cZ md md_thrown md_text md_textSize md_place md_letter md_first md_second md_third md_side md_hang md_forms md_formMany md_seats md_now md_barAlways md_noPut md_far md_queue md_from md_by md_many md_is md_next md_rollSet md_rollAct md_rolls md_slots md_isKept) (fun r _ => post r ) := by
  refine mk_Mi (by decide +kernel) (Nat.le_of_ble_eq_true rfl) ?_
  intro Γ hl0 hD0 hC hR
  subst hl0
  subst hD0
  have hC : CX Γ cI cZ cX8_soMany RX8 4 2 42 := hC
  show VV Γ (W_md cI cZ md md_thrown md_text md_textSize md_place md_letter md_first md_second md_third md_side md_hang md_forms md_formMany md_seats md_now md_barAlways md_noPut md_far md_queue md_from md_by md_many md_is md_next md_rollSet md_rollAct md_rolls md_slots md_isKept) [(0, .ref (md 0)), (1, .int p0)] 0 []
  have B_4 : ∀ (n : Nat) (x1_1 : Int32) (x2_2 : Int32) (x3_3 : Int32), wpL_X8_soMany_4 md_queue md_many  post n x1_1 x2_2 x3_3 → VV Γ (W_md cI cZ md md_thrown md_text md_textSize md_place md_letter md_first md_second md_third md_side md_hang md_forms md_formMany md_seats md_now md_barAlways md_noPut md_far md_queue md_from md_by md_many md_is md_next md_rollSet md_rollAct md_rolls md_slots md_isKept) [(0, .ref (md 0)), (1, .int x1_1), (2, .int x2_2), (3, .int x3_3)] 4 [] := by
    intro  n
    induction n with
    | zero => intro x1_1 x2_2 x3_3 hm; rw [wpL_X8_soMany_4] at hm; exact hm.elim
    | succ n ih =>
      intro x1_1 x2_2 x3_3 hm
      rw [wpL_X8_soMany_4] at hm
      refine x_iload_n hC 3 dX8_soMany_4 rfl ?_
      refine x_aload_n hC 0 dX8_soMany_5 rfl ?_
      refine x_get hC 5 inX8g 0 rfl rfl 20 (by decide) fl_X8_195 rfl dX8_soMany_6 ?_
      refine x_icmp_ge hC 39 dX8_soMany_9 (by decide) (fun c_4 => ?_) (fun c_4 => ?_)
      · replace hm := hm.1 c_4
        refine x_iload_n hC 2 dX8_soMany_39 rfl ?_
        exact hR x2_2 () [(0, .ref (md 0)), (1, .int x1_1), (2, .int x2_2), (3, .int x3_3)] 40 hm rfl dX8_soMany_40
      · replace hm := hm.2 c_4
        refine x_iload_n hC 2 dX8_soMany_12 rfl ?_
        refine x_aload_n hC 0 dX8_soMany_13 rfl ?_
        refine x_get hC 5 inX8g 0 rfl rfl 17 (by decide) fl_X8_32 rfl dX8_soMany_14 ?_
        refine x_iload_n hC 3 dX8_soMany_17 rfl ?_
        refine x_iald hC 6 rfl hm.1 dX8_soMany_18 ?_
        replace hm := hm.2
        refine x_iload_n hC 1 dX8_soMany_19 rfl ?_
        refine x_callSi hC _ [] [0, 1, 2, 3, 4, 5, 6, 7, 8, 9, 10, 11, 12, 13, 14] [0, 1, 2, 3, 4, 5, 6, 7, 8, 9, 10, 11, 12, 13, 14] (W_md cI cZ md md_thrown md_text md_textSize md_place md_letter md_first md_second md_third md_side md_hang md_forms md_formMany md_seats md_now md_barAlways md_noPut md_far md_queue md_from md_by md_many md_is md_next md_rollSet md_rollAct md_rolls md_slots md_isKept) (fun _ => W_md cI cZ md md_thrown md_text md_textSize md_place md_letter md_first md_second md_third md_side md_hang md_forms md_formMany md_seats md_now md_barAlways md_noPut md_far md_queue md_from md_by md_many md_is md_next md_rollSet md_rollAct md_rolls md_slots md_isKept) ok_X8_isSo ml_X8_164 (c_X8_isSo (gl Γ) (gD Γ) cI cZ   (md_queue x3_3.toNatClampNeg) x1_1 _ hm) (by decide) (by decide) rfl (Nat.le_of_ble_eq_true rfl) rfl rfl rfl rfl (by decide) rfl (fun _ => rfl) rfl dX8_soMany_20 ?_
        rintro r_5 _ hm
        refine x_if_eq hC 30 dX8_soMany_23 (by decide) (fun c_6 => ?_) (fun c_6 => ?_)
        · replace hm := hm.1 c_6
          refine x_iconst hC (0 : Int32) dX8_soMany_30 (by decide) ?_
          refine x_iadd hC dX8_soMany_31 ?_
          refine x_top (fun x2_7 ex2_7 => ?_)
          replace hm := hm x2_7 ex2_7
          refine x_istore_n hC [(0, .ref (md 0)), (1, .int x1_1), (2, .int x2_7), (3, .int x3_3)] [1, 2, 0, 3] dX8_soMany_32 (by decide) rfl ?_
          obtain ⟨x3_8, ex3_8⟩ : ∃ y : Int32, y = x3_3 + (1 : Int32) := ⟨_, rfl⟩
          replace hm := hm x3_8 ex3_8
          refine x_iinc hC 3 x3_8 [(0, .ref (md 0)), (1, .int x1_1), (2, .int x2_7), (3, .int x3_8)] [1, 2, 3, 0] dX8_soMany_33 rfl (by rw [ex3_8]; rfl) (by decide) rfl ?_
          refine x_goto hC 4 dX8_soMany_36 (by decide) ?_
          exact ih x1_1 x2_7 x3_8 hm
        · replace hm := hm.2 c_6
          refine x_iconst hC (1 : Int32) dX8_soMany_26 (by decide) ?_
          refine x_goto hC 31 dX8_soMany_27 (by decide) ?_
          refine x_iadd hC dX8_soMany_31 ?_
          refine x_top (fun x2_9 ex2_9 => ?_)
          replace hm := hm x2_9 ex2_9
          refine x_istore_n hC [(0, .ref (md 0)), (1, .int x1_1), (2, .int x2_9), (3, .int x3_3)] [1, 2, 0, 3] dX8_soMany_32 (by decide) rfl ?_
          obtain ⟨x3_10, ex3_10⟩ : ∃ y : Int32, y = x3_3 + (1 : Int32) := ⟨_, rfl⟩
          replace hm := hm x3_10 ex3_10
          refine x_iinc hC 3 x3_10 [(0, .ref (md 0)), (1, .int x1_1), (2, .int x2_9), (3, .int x3_10)] [1, 2, 3, 0] dX8_soMany_33 rfl (by rw [ex3_10]; rfl) (by decide) rfl ?_
          refine x_goto hC 4 dX8_soMany_36 (by decide) ?_
          exact ih x1_1 x2_9 x3_10 hm
  unfold wp_X8_soMany at hm
  refine x_iconst hC (0 : Int32) dX8_soMany_0 (by decide) ?_
  refine x_istore_n hC [(0, .ref (md 0)), (1, .int p0), (2, .int ((0 : Int32)))] [1, 2, 0] dX8_soMany_1 (by decide) rfl ?_
  refine x_iconst hC (0 : Int32) dX8_soMany_2 (by decide) ?_
  refine x_istore_n hC [(0, .ref (md 0)), (1, .int p0), (2, .int ((0 : Int32))), (3, .int ((0 : Int32)))] [1, 2, 3, 0] dX8_soMany_3 (by decide) rfl ?_
  obtain ⟨n_11, hm⟩ := hm
  exact B_4  n_11 p0 ((0 : Int32)) ((0 : Int32)) hm

def wp_X8_among (md_thrown : Int32) (md_forms : Nat → Int32) (md_formMany : Nat → Int32) (md_seats : Nat → Int32) (md_now : Int32) (md_barAlways : Int32) (md_noPut : Int32) (md_far : Nat → Int32) (md_queue : Nat → Int32) (md_from : Nat → Int32) (md_by : Nat → Int32) (md_many : Int32) (p0 : Int32) (p1 : Int32) (post : Int32 → Int32 → (Nat → Int32) → (Nat → Int32) → (Nat → Int32) → (Nat → Int32) → Int32 → Prop) : Prop := wp_X8_noSet  p0 (fun (r_1 : Int32) => (¬ r_1 = 0 → post ((-2 : Int32)) ((0 : Int32)) md_far md_queue md_from md_by md_many) ∧ (r_1 = 0 → wp_X8_noGoal  p1 (fun (r_3 : Int32) => (r_3 = 0 → wp_X8_wave md_forms md_formMany md_seats md_barAlways md_noPut md_far md_queue md_from md_by md_many md_now p0 p0 (fun (md_far_5 : Nat → Int32) (md_queue_6 : Nat → Int32) (md_from_7 : Nat → Int32) (md_by_8 : Nat → Int32) (md_many_9 : Int32) => wp_X8_soMany md_queue_6 md_many_9 p1 (fun (r_10 : Int32) => post r_10 ((0 : Int32)) md_far_5 md_queue_6 md_from_7 md_by_8 md_many_9))) ∧ (¬ r_3 = 0 → post ((-2 : Int32)) ((0 : Int32)) md_far md_queue md_from md_by md_many))))
set_option maxHeartbeats 4000000 in
set_option maxRecDepth 100000 in
theorem c_X8_among (l : Launch) (D : va_G) (cI cZ : ClassId) (md : Nat → Nat) (md_thrown : Int32) (md_text : Nat → Int32) (md_textSize : Int32) (md_place : Int32) (md_letter : Int32) (md_first : Int32) (md_second : Int32) (md_third : Int32) (md_side : Int32) (md_hang : Int32) (md_forms : Nat → Int32) (md_formMany : Nat → Int32) (md_seats : Nat → Int32) (md_now : Int32) (md_barAlways : Int32) (md_noPut : Int32) (md_far : Nat → Int32) (md_queue : Nat → Int32) (md_from : Nat → Int32) (md_by : Nat → Int32) (md_many : Int32) (md_is : Nat → Int32) (md_next : Nat → Int32) (md_rollSet : Nat → Int32) (md_rollAct : Nat → Int32) (md_rolls : Int32) (md_slots : Nat → Int32) (md_isKept : Nat → Int32) (p0 : Int32) (p1 : Int32) (post : Int32 → Int32 → (Nat → Int32) → (Nat → Int32) → (Nat → Int32) → (Nat → Int32) → Int32 → Prop) (hm : wp_X8_among md_thrown md_forms md_formMany md_seats md_now md_barAlways md_noPut md_far md_queue md_from md_by md_many p0 p1 post) : Mi l D cI cZ yX8_among cX8_among 3 .int 6 148 [.ref (md 0), .int p0, .int p1] (W_md cI cZ md md_thrown md_text md_textSize md_place md_letter md_first md_second md_third md_side md_hang md_forms md_formMany md_seats md_now md_barAlways md_noPut md_far md_queue md_from md_by md_many md_is md_next md_rollSet md_rollAct md_rolls md_slots md_isKept) (S := Int32 × (Nat → Int32) × (Nat → Int32) × (Nat → Int32) × (Nat → Int32) × Int32) (fun u => W_md cI cZ md (u.1) md_text md_textSize md_place md_letter md_first md_second md_third md_side md_hang md_forms md_formMany md_seats md_now md_barAlways md_noPut (u.2.1) (u.2.2.1) (u.2.2.2.1) (u.2.2.2.2.1) (u.2.2.2.2.2) md_is md_next md_rollSet md_rollAct md_rolls md_slots md_isKept) (fun r u => post r u.1 u.2.1 u.2.2.1 u.2.2.2.1 u.2.2.2.2.1 u.2.2.2.2.2) := by
  refine mk_Mi (by decide +kernel) (Nat.le_of_ble_eq_true rfl) ?_
  intro Γ hl0 hD0 hC hR
  subst hl0
  subst hD0
  have hC : CX Γ cI cZ cX8_among RX8 3 6 148 := hC
  show VV Γ (W_md cI cZ md md_thrown md_text md_textSize md_place md_letter md_first md_second md_third md_side md_hang md_forms md_formMany md_seats md_now md_barAlways md_noPut md_far md_queue md_from md_by md_many md_is md_next md_rollSet md_rollAct md_rolls md_slots md_isKept) [(0, .ref (md 0)), (1, .int p0), (2, .int p1)] 0 []
  unfold wp_X8_among at hm
  refine x_aload_n hC 0 dX8_among_0 rfl ?_
  refine x_iconst hC (0 : Int32) dX8_among_1 (by decide) ?_
  refine x_put hC 5 tyX8_ok nmX8 inX8g 0 rfl rfl 0 (by decide) fl_X8_60 rfl (ty := .int) (by decide +kernel) rfl rfl (Nat.le_of_ble_eq_true rfl) (W_md cI cZ md ((0 : Int32)) md_text md_textSize md_place md_letter md_first md_second md_third md_side md_hang md_forms md_formMany md_seats md_now md_barAlways md_noPut md_far md_queue md_from md_by md_many md_is md_next md_rollSet md_rollAct md_rolls md_slots md_isKept) rfl dX8_among_2 ?_
  refine x_iload_n hC 1 dX8_among_5 rfl ?_
  refine x_callSi hC _ [] [0, 1, 2, 3, 4, 5, 6, 7, 8, 9, 10, 11, 12, 13, 14] [0, 1, 2, 3, 4, 5, 6, 7, 8, 9, 10, 11, 12, 13, 14] (W_md cI cZ md ((0 : Int32)) md_text md_textSize md_place md_letter md_first md_second md_third md_side md_hang md_forms md_formMany md_seats md_now md_barAlways md_noPut md_far md_queue md_from md_by md_many md_is md_next md_rollSet md_rollAct md_rolls md_slots md_isKept) (fun _ => W_md cI cZ md ((0 : Int32)) md_text md_textSize md_place md_letter md_first md_second md_third md_side md_hang md_forms md_formMany md_seats md_now md_barAlways md_noPut md_far md_queue md_from md_by md_many md_is md_next md_rollSet md_rollAct md_rolls md_slots md_isKept) ok_X8_noSet ml_X8_171 (c_X8_noSet (gl Γ) (gD Γ) cI cZ   p0 _ hm) (by decide) (by decide) rfl (Nat.le_of_ble_eq_true rfl) rfl rfl rfl rfl (by decide) rfl (fun _ => rfl) rfl dX8_among_6 ?_
  rintro r_1 _ hm
  refine x_if_ne hC 19 dX8_among_9 (by decide) (fun c_2 => ?_) (fun c_2 => ?_)
  · replace hm := hm.1 c_2
    refine x_bipush hC (-2 : Int32) dX8_among_19 (by decide) ?_
    exact hR ((-2 : Int32)) ((0 : Int32), md_far, md_queue, md_from, md_by, md_many) [(0, .ref (md 0)), (1, .int p0), (2, .int p1)] 21 hm rfl dX8_among_21
  · replace hm := hm.2 c_2
    refine x_iload_n hC 2 dX8_among_12 rfl ?_
    refine x_callSi hC _ [] [0, 1, 2, 3, 4, 5, 6, 7, 8, 9, 10, 11, 12, 13, 14] [0, 1, 2, 3, 4, 5, 6, 7, 8, 9, 10, 11, 12, 13, 14] (W_md cI cZ md ((0 : Int32)) md_text md_textSize md_place md_letter md_first md_second md_third md_side md_hang md_forms md_formMany md_seats md_now md_barAlways md_noPut md_far md_queue md_from md_by md_many md_is md_next md_rollSet md_rollAct md_rolls md_slots md_isKept) (fun _ => W_md cI cZ md ((0 : Int32)) md_text md_textSize md_place md_letter md_first md_second md_third md_side md_hang md_forms md_formMany md_seats md_now md_barAlways md_noPut md_far md_queue md_from md_by md_many md_is md_next md_rollSet md_rollAct md_rolls md_slots md_isKept) ok_X8_noGoal ml_X8_177 (c_X8_noGoal (gl Γ) (gD Γ) cI cZ   p1 _ hm) (by decide) (by decide) rfl (Nat.le_of_ble_eq_true rfl) rfl rfl rfl rfl (by decide) rfl (fun _ => rfl) rfl dX8_among_13 ?_
    rintro r_3 _ hm
    refine x_if_eq hC 22 dX8_among_16 (by decide) (fun c_4 => ?_) (fun c_4 => ?_)
    · replace hm := hm.1 c_4
      refine x_aload_n hC 0 dX8_among_22 rfl ?_
      refine x_aload_n hC 0 dX8_among_23 rfl ?_
      refine x_get hC 5 inX8g 0 rfl rfl 13 (by decide) fl_X8_140 rfl dX8_among_24 ?_
      refine x_iload_n hC 1 dX8_among_27 rfl ?_
      refine x_iload_n hC 1 dX8_among_28 rfl ?_
      refine x_callVv hC _ [0, 1, 2, 3, 4, 5, 6, 7, 8, 9, 10, 11, 12, 13, 14] [] [0, 1, 2, 3, 4, 5, 6, 7, 8, 9, 10, 11, 12, 13, 14] (([] : va_W)) (fun u => W_md cI cZ md ((0 : Int32)) md_text md_textSize md_place md_letter md_first md_second md_third md_side md_hang md_forms md_formMany md_seats md_now md_barAlways md_noPut (u.1) (u.2.1) (u.2.2.1) (u.2.2.2.1) (u.2.2.2.2) md_is md_next md_rollSet md_rollAct md_rolls md_slots md_isKept) ok_X8_wave ml_X8_198 0 5 (c_X8_wave (gl Γ) (gD Γ) cI cZ md ((0 : Int32)) md_text md_textSize md_place md_letter md_first md_second md_third md_side md_hang md_forms md_formMany md_seats md_now md_barAlways md_noPut md_far md_queue md_from md_by md_many md_is md_next md_rollSet md_rollAct md_rolls md_slots md_isKept md_now p0 p0 _ hm) (by decide) (by decide) rfl (Nat.le_of_ble_eq_true rfl) rfl rfl rfl rfl (by decide) rfl (fun _ => rfl) rfl rfl rfl rfl dX8_among_29 ?_
      rintro ⟨md_far_5, md_queue_6, md_from_7, md_by_8, md_many_9⟩ hm
      refine x_aload_n hC 0 dX8_among_32 rfl ?_
      refine x_iload_n hC 2 dX8_among_33 rfl ?_
      refine x_callVi hC _ [0, 1, 2, 3, 4, 5, 6, 7, 8, 9, 10, 11, 12, 13, 14] [] [0, 1, 2, 3, 4, 5, 6, 7, 8, 9, 10, 11, 12, 13, 14] (([] : va_W)) (fun _ => W_md cI cZ md ((0 : Int32)) md_text md_textSize md_place md_letter md_first md_second md_third md_side md_hang md_forms md_formMany md_seats md_now md_barAlways md_noPut md_far_5 md_queue_6 md_from_7 md_by_8 md_many_9 md_is md_next md_rollSet md_rollAct md_rolls md_slots md_isKept) ok_X8_soMany ml_X8_202 0 5 (c_X8_soMany (gl Γ) (gD Γ) cI cZ md ((0 : Int32)) md_text md_textSize md_place md_letter md_first md_second md_third md_side md_hang md_forms md_formMany md_seats md_now md_barAlways md_noPut md_far_5 md_queue_6 md_from_7 md_by_8 md_many_9 md_is md_next md_rollSet md_rollAct md_rolls md_slots md_isKept p1 _ hm) (by decide) (by decide) rfl (Nat.le_of_ble_eq_true rfl) rfl rfl rfl rfl (by decide) rfl (fun _ => rfl) rfl rfl rfl rfl dX8_among_34 ?_
      rintro r_10 _ hm
      exact hR r_10 ((0 : Int32), md_far_5, md_queue_6, md_from_7, md_by_8, md_many_9) [(0, .ref (md 0)), (1, .int p0), (2, .int p1)] 37 hm rfl dX8_among_37
    · replace hm := hm.2 c_4
      refine x_bipush hC (-2 : Int32) dX8_among_19 (by decide) ?_
      exact hR ((-2 : Int32)) ((0 : Int32), md_far, md_queue, md_from, md_by, md_many) [(0, .ref (md 0)), (1, .int p0), (2, .int p1)] 21 hm rfl dX8_among_21

def wp_X8_at (md_thrown : Int32) (md_now : Int32) (p0 : Int32) (post : Int32 → Int32 → Prop) : Prop := wp_X8_noClause  p0 (fun (r_1 : Int32) => (r_1 = 0 → wp_X8_formOf  md_now p0 (fun (r_3 : Int32) => post r_3 ((0 : Int32)))) ∧ (¬ r_1 = 0 → post ((-1 : Int32)) ((0 : Int32))))
set_option maxHeartbeats 4000000 in
set_option maxRecDepth 100000 in
theorem c_X8_at (l : Launch) (D : va_G) (cI cZ : ClassId) (md : Nat → Nat) (md_thrown : Int32) (md_text : Nat → Int32) (md_textSize : Int32) (md_place : Int32) (md_letter : Int32) (md_first : Int32) (md_second : Int32) (md_third : Int32) (md_side : Int32) (md_hang : Int32) (md_forms : Nat → Int32) (md_formMany : Nat → Int32) (md_seats : Nat → Int32) (md_now : Int32) (md_barAlways : Int32) (md_noPut : Int32) (md_far : Nat → Int32) (md_queue : Nat → Int32) (md_from : Nat → Int32) (md_by : Nat → Int32) (md_many : Int32) (md_is : Nat → Int32) (md_next : Nat → Int32) (md_rollSet : Nat → Int32) (md_rollAct : Nat → Int32) (md_rolls : Int32) (md_slots : Nat → Int32) (md_isKept : Nat → Int32) (p0 : Int32) (post : Int32 → Int32 → Prop) (hm : wp_X8_at md_thrown md_now p0 post) : Mi l D cI cZ yX8_at cX8_at 2 .int 2 45 [.ref (md 0), .int p0] (W_md cI cZ md md_thrown md_text md_textSize md_place md_letter md_first md_second md_third md_side md_hang md_forms md_formMany md_seats md_now md_barAlways md_noPut md_far md_queue md_from md_by md_many md_is md_next md_rollSet md_rollAct md_rolls md_slots md_isKept) (S := Int32) (fun u => W_md cI cZ md u md_text md_textSize md_place md_letter md_first md_second md_third md_side md_hang md_forms md_formMany md_seats md_now md_barAlways md_noPut md_far md_queue md_from md_by md_many md_is md_next md_rollSet md_rollAct md_rolls md_slots md_isKept) (fun r u => post r u) := by
  refine mk_Mi (by decide +kernel) (Nat.le_of_ble_eq_true rfl) ?_
  intro Γ hl0 hD0 hC hR
  subst hl0
  subst hD0
  have hC : CX Γ cI cZ cX8_at RX8 2 2 45 := hC
  show VV Γ (W_md cI cZ md md_thrown md_text md_textSize md_place md_letter md_first md_second md_third md_side md_hang md_forms md_formMany md_seats md_now md_barAlways md_noPut md_far md_queue md_from md_by md_many md_is md_next md_rollSet md_rollAct md_rolls md_slots md_isKept) [(0, .ref (md 0)), (1, .int p0)] 0 []
  unfold wp_X8_at at hm
  refine x_aload_n hC 0 dX8_at_0 rfl ?_
  refine x_iconst hC (0 : Int32) dX8_at_1 (by decide) ?_
  refine x_put hC 5 tyX8_ok nmX8 inX8g 0 rfl rfl 0 (by decide) fl_X8_60 rfl (ty := .int) (by decide +kernel) rfl rfl (Nat.le_of_ble_eq_true rfl) (W_md cI cZ md ((0 : Int32)) md_text md_textSize md_place md_letter md_first md_second md_third md_side md_hang md_forms md_formMany md_seats md_now md_barAlways md_noPut md_far md_queue md_from md_by md_many md_is md_next md_rollSet md_rollAct md_rolls md_slots md_isKept) rfl dX8_at_2 ?_
  refine x_iload_n hC 1 dX8_at_5 rfl ?_
  refine x_callSi hC _ [] [0, 1, 2, 3, 4, 5, 6, 7, 8, 9, 10, 11, 12, 13, 14] [0, 1, 2, 3, 4, 5, 6, 7, 8, 9, 10, 11, 12, 13, 14] (W_md cI cZ md ((0 : Int32)) md_text md_textSize md_place md_letter md_first md_second md_third md_side md_hang md_forms md_formMany md_seats md_now md_barAlways md_noPut md_far md_queue md_from md_by md_many md_is md_next md_rollSet md_rollAct md_rolls md_slots md_isKept) (fun _ => W_md cI cZ md ((0 : Int32)) md_text md_textSize md_place md_letter md_first md_second md_third md_side md_hang md_forms md_formMany md_seats md_now md_barAlways md_noPut md_far md_queue md_from md_by md_many md_is md_next md_rollSet md_rollAct md_rolls md_slots md_isKept) ok_X8_noClause ml_X8_137 (c_X8_noClause (gl Γ) (gD Γ) cI cZ   p0 _ hm) (by decide) (by decide) rfl (Nat.le_of_ble_eq_true rfl) rfl rfl rfl rfl (by decide) rfl (fun _ => rfl) rfl dX8_at_6 ?_
  rintro r_1 _ hm
  refine x_if_eq hC 16 dX8_at_9 (by decide) (fun c_2 => ?_) (fun c_2 => ?_)
  · replace hm := hm.1 c_2
    refine x_aload_n hC 0 dX8_at_16 rfl ?_
    refine x_get hC 5 inX8g 0 rfl rfl 13 (by decide) fl_X8_140 rfl dX8_at_17 ?_
    refine x_iload_n hC 1 dX8_at_20 rfl ?_
    refine x_callSi hC _ [] [0, 1, 2, 3, 4, 5, 6, 7, 8, 9, 10, 11, 12, 13, 14] [0, 1, 2, 3, 4, 5, 6, 7, 8, 9, 10, 11, 12, 13, 14] (W_md cI cZ md ((0 : Int32)) md_text md_textSize md_place md_letter md_first md_second md_third md_side md_hang md_forms md_formMany md_seats md_now md_barAlways md_noPut md_far md_queue md_from md_by md_many md_is md_next md_rollSet md_rollAct md_rolls md_slots md_isKept) (fun _ => W_md cI cZ md ((0 : Int32)) md_text md_textSize md_place md_letter md_first md_second md_third md_side md_hang md_forms md_formMany md_seats md_now md_barAlways md_noPut md_far md_queue md_from md_by md_many md_is md_next md_rollSet md_rollAct md_rolls md_slots md_isKept) ok_X8_formOf ml_X8_155 (c_X8_formOf (gl Γ) (gD Γ) cI cZ   md_now p0 _ hm) (by decide) (by decide) rfl (Nat.le_of_ble_eq_true rfl) rfl rfl rfl rfl (by decide) rfl (fun _ => rfl) rfl dX8_at_21 ?_
    rintro r_3 _ hm
    exact hR r_3 (0 : Int32) [(0, .ref (md 0)), (1, .int p0)] 24 hm rfl dX8_at_24
  · replace hm := hm.2 c_2
    refine x_iconst hC (-1 : Int32) dX8_at_12 (by decide) ?_
    refine x_goto hC 24 dX8_at_13 (by decide) ?_
    exact hR ((-1 : Int32)) (0 : Int32) [(0, .ref (md 0)), (1, .int p0)] 24 hm rfl dX8_at_24

def wp_X8_noTurns  (p0 : Int32) (p1 : Int32) (p2 : Int32) (p3 : Int32) (post : Int32 → Prop) : Prop := wp_X8_noSet  p0 (fun (r_1 : Int32) => (¬ r_1 = 0 → post ((1 : Int32)) ) ∧ (r_1 = 0 → wp_X8_noSet  p1 (fun (r_3 : Int32) => (¬ r_3 = 0 → post ((1 : Int32)) ) ∧ (r_3 = 0 → wp_X8_noGoal  p2 (fun (r_5 : Int32) => (¬ r_5 = 0 → post ((1 : Int32)) ) ∧ (r_5 = 0 → wp_X8_in  p3.toInt64 ((1 : Int64)) ((8 : Int64)) (fun (r_7 : Int32) => (¬ r_7 = 0 → post ((0 : Int32)) ) ∧ (r_7 = 0 → post ((1 : Int32)) ))))))))
set_option maxHeartbeats 4000000 in
set_option maxRecDepth 100000 in
theorem c_X8_noTurns (l : Launch) (D : va_G) (cI cZ : ClassId)   (p0 : Int32) (p1 : Int32) (p2 : Int32) (p3 : Int32) (post : Int32 → Prop) (hm : wp_X8_noTurns  p0 p1 p2 p3 post) : Mi l D cI cZ yX8_noTurns cX8_noTurns 4 .boolean 2 47 [.int p0, .int p1, .int p2, .int p3] (([] : va_W)) (S := Unit) (fun _ => ([] : va_W)) (fun r _ => post r ) := by
  refine mk_Mi (by decide +kernel) (Nat.le_of_ble_eq_true rfl) ?_
  intro Γ hl0 hD0 hC hR
  subst hl0
  subst hD0
  have hC : CX Γ cI cZ cX8_noTurns RX8 4 2 47 := hC
  show VV Γ (([] : va_W)) [(0, .int p0), (1, .int p1), (2, .int p2), (3, .int p3)] 0 []
  unfold wp_X8_noTurns at hm
  refine x_iload_n hC 0 dX8_noTurns_0 rfl ?_
  refine x_callSi hC _ [] [] [] (([] : va_W)) (fun _ => ([] : va_W)) ok_X8_noSet ml_X8_171 (c_X8_noSet (gl Γ) (gD Γ) cI cZ   p0 _ hm) (by decide) (by decide) rfl (Nat.le_of_ble_eq_true rfl) rfl rfl rfl rfl (by decide) rfl (fun _ => rfl) rfl dX8_noTurns_1 ?_
  rintro r_1 _ hm
  refine x_if_ne hC 33 dX8_noTurns_4 (by decide) (fun c_2 => ?_) (fun c_2 => ?_)
  · replace hm := hm.1 c_2
    refine x_iconst hC (1 : Int32) dX8_noTurns_33 (by decide) ?_
    refine x_goto hC 38 dX8_noTurns_34 (by decide) ?_
    exact hR ((1 : Int32)) () [(0, .int p0), (1, .int p1), (2, .int p2), (3, .int p3)] 38 hm rfl dX8_noTurns_38
  · replace hm := hm.2 c_2
    refine x_iload_n hC 1 dX8_noTurns_7 rfl ?_
    refine x_callSi hC _ [] [] [] (([] : va_W)) (fun _ => ([] : va_W)) ok_X8_noSet ml_X8_171 (c_X8_noSet (gl Γ) (gD Γ) cI cZ   p1 _ hm) (by decide) (by decide) rfl (Nat.le_of_ble_eq_true rfl) rfl rfl rfl rfl (by decide) rfl (fun _ => rfl) rfl dX8_noTurns_8 ?_
    rintro r_3 _ hm
    refine x_if_ne hC 33 dX8_noTurns_11 (by decide) (fun c_4 => ?_) (fun c_4 => ?_)
    · replace hm := hm.1 c_4
      refine x_iconst hC (1 : Int32) dX8_noTurns_33 (by decide) ?_
      refine x_goto hC 38 dX8_noTurns_34 (by decide) ?_
      exact hR ((1 : Int32)) () [(0, .int p0), (1, .int p1), (2, .int p2), (3, .int p3)] 38 hm rfl dX8_noTurns_38
    · replace hm := hm.2 c_4
      refine x_iload_n hC 2 dX8_noTurns_14 rfl ?_
      refine x_callSi hC _ [] [] [] (([] : va_W)) (fun _ => ([] : va_W)) ok_X8_noGoal ml_X8_177 (c_X8_noGoal (gl Γ) (gD Γ) cI cZ   p2 _ hm) (by decide) (by decide) rfl (Nat.le_of_ble_eq_true rfl) rfl rfl rfl rfl (by decide) rfl (fun _ => rfl) rfl dX8_noTurns_15 ?_
      rintro r_5 _ hm
      refine x_if_ne hC 33 dX8_noTurns_18 (by decide) (fun c_6 => ?_) (fun c_6 => ?_)
      · replace hm := hm.1 c_6
        refine x_iconst hC (1 : Int32) dX8_noTurns_33 (by decide) ?_
        refine x_goto hC 38 dX8_noTurns_34 (by decide) ?_
        exact hR ((1 : Int32)) () [(0, .int p0), (1, .int p1), (2, .int p2), (3, .int p3)] 38 hm rfl dX8_noTurns_38
      · replace hm := hm.2 c_6
        refine x_iload_n hC 3 dX8_noTurns_21 rfl ?_
        refine x_i2l hC dX8_noTurns_22 ?_
        refine x_lconst hC (1 : Int64) dX8_noTurns_23 (by decide) ?_
        refine x_ldc2 hC kl_X8_79 dX8_noTurns_24 ?_
        refine x_callSi hC _ [] [] [] (([] : va_W)) (fun _ => ([] : va_W)) ok_X8_in ml_X8_65 (c_X8_in (gl Γ) (gD Γ) cI cZ   p3.toInt64 ((1 : Int64)) ((8 : Int64)) _ hm) (by decide) (by decide) rfl (Nat.le_of_ble_eq_true rfl) rfl rfl rfl rfl (by decide) rfl (fun _ => rfl) rfl dX8_noTurns_27 ?_
        rintro r_7 _ hm
        refine x_if_ne hC 37 dX8_noTurns_30 (by decide) (fun c_8 => ?_) (fun c_8 => ?_)
        · replace hm := hm.1 c_8
          refine x_iconst hC (0 : Int32) dX8_noTurns_37 (by decide) ?_
          exact hR ((0 : Int32)) () [(0, .int p0), (1, .int p1), (2, .int p2), (3, .int p3)] 38 hm rfl dX8_noTurns_38
        · replace hm := hm.2 c_8
          refine x_iconst hC (1 : Int32) dX8_noTurns_33 (by decide) ?_
          refine x_goto hC 38 dX8_noTurns_34 (by decide) ?_
          exact hR ((1 : Int32)) () [(0, .int p0), (1, .int p1), (2, .int p2), (3, .int p3)] 38 hm rfl dX8_noTurns_38

def wpL_X8_begins_15 (md_forms : Nat → Int32) (md_formMany : Nat → Int32) (md_seats : Nat → Int32) (md_barAlways : Int32) (md_noPut : Int32) (md_is : Nat → Int32)  (post : Int32 → Prop) : Nat → Int32 → Int32 → Int32 → Int32 → Prop
  | 0, _, _, _, _ => False
  | n + 1, x1_3, x2_4, x3_5, x4_6 => (((20 : Int32)) ≤ x4_6 → post ((-2 : Int32)) ) ∧ (¬ ((20 : Int32)) ≤ x4_6 → ∀ x5_8 : Int32, x5_8 = (((100 : Int32)) * (x4_6 / ((4 : Int32)))) + (((10 : Int32)) * (x4_6 - x4_6 / ((4 : Int32)) * ((4 : Int32)))) → wp_X8_whyNot md_forms md_formMany md_seats md_barAlways md_noPut x1_3 x2_4 x5_8 (fun (r_9 : Int32) => (¬ r_9 = 0 → ∀ x4_11 : Int32, x4_11 = x4_6 + (1 : Int32) → (wpL_X8_begins_15 md_forms md_formMany md_seats md_barAlways md_noPut md_is  post n) x1_3 x2_4 x3_5 x4_11) ∧ (r_9 = 0 → wp_X8_done md_forms x1_3 x5_8 (fun (r_12 : Int32) => wp_X8_always md_forms md_formMany md_seats md_barAlways md_noPut md_is r_12 x3_5 (fun (r_13 : Int32) => (r_13 = 0 → ∀ x4_15 : Int32, x4_15 = x4_6 + (1 : Int32) → (wpL_X8_begins_15 md_forms md_formMany md_seats md_barAlways md_noPut md_is  post n) x1_3 x2_4 x3_5 x4_15) ∧ (¬ r_13 = 0 → post x5_8 ))))))
def wp_X8_begins (md_forms : Nat → Int32) (md_formMany : Nat → Int32) (md_seats : Nat → Int32) (md_barAlways : Int32) (md_noPut : Int32) (md_is : Nat → Int32) (p0 : Int32) (p1 : Int32) (p2 : Int32) (post : Int32 → Prop) : Prop := wp_X8_always md_forms md_formMany md_seats md_barAlways md_noPut md_is p0 p2 (fun (r_1 : Int32) => (r_1 = 0 → ∃ k15, wpL_X8_begins_15 md_forms md_formMany md_seats md_barAlways md_noPut md_is  post k15 p0 p1 p2 ((0 : Int32))) ∧ (¬ r_1 = 0 → post ((-9 : Int32)) ))
set_option maxHeartbeats 4000000 in
set_option maxRecDepth 100000 in
theorem c_X8_begins (l : Launch) (D : va_G) (cI cZ : ClassId) (md : Nat → Nat) (md_thrown : Int32) (md_text : Nat → Int32) (md_textSize : Int32) (md_place : Int32) (md_letter : Int32) (md_first : Int32) (md_second : Int32) (md_third : Int32) (md_side : Int32) (md_hang : Int32) (md_forms : Nat → Int32) (md_formMany : Nat → Int32) (md_seats : Nat → Int32) (md_now : Int32) (md_barAlways : Int32) (md_noPut : Int32) (md_far : Nat → Int32) (md_queue : Nat → Int32) (md_from : Nat → Int32) (md_by : Nat → Int32) (md_many : Int32) (md_is : Nat → Int32) (md_next : Nat → Int32) (md_rollSet : Nat → Int32) (md_rollAct : Nat → Int32) (md_rolls : Int32) (md_slots : Nat → Int32) (md_isKept : Nat → Int32) (p0 : Int32) (p1 : Int32) (p2 : Int32) (post : Int32 → Prop) (hm : wp_X8_begins md_forms md_formMany md_seats md_barAlways md_noPut md_is p0 p1 p2 post) : Mi l D cI cZ yX8_begins cX8_begins 6 .int 6 145 [.ref (md 0), .int p0, .int p1, .int p2] (W_md cI cZ md md_thrown md_text md_textSize md_place md_letter md_first md_second md_third md_side md_hang md_forms md_formMany md_seats md_now md_barAlways md_noPut md_far md_queue md_from md_by md_many md_is md_next md_rollSet md_rollAct md_rolls md_slots md_isKept) (S := Unit) (fun _ => W_md cI cZ md md_thrown md_text md_textSize md_place md_letter md_first md_second md_third md_side md_hang md_forms md_formMany md_seats md_now md_barAlways md_noPut md_far md_queue md_from md_by md_many md_is md_next md_rollSet md_rollAct md_rolls md_slots md_isKept) (fun r _ => post r ) := by
  refine mk_Mi (by decide +kernel) (Nat.le_of_ble_eq_true rfl) ?_
  intro Γ hl0 hD0 hC hR
  subst hl0
  subst hD0
  have hC : CX Γ cI cZ cX8_begins RX8 6 6 145 := hC
  show VV Γ (W_md cI cZ md md_thrown md_text md_textSize md_place md_letter md_first md_second md_third md_side md_hang md_forms md_formMany md_seats md_now md_barAlways md_noPut md_far md_queue md_from md_by md_many md_is md_next md_rollSet md_rollAct md_rolls md_slots md_isKept) [(0, .ref (md 0)), (1, .int p0), (2, .int p1), (3, .int p2)] 0 []
  have B_15 : ∀ (n : Nat) (x1_3 : Int32) (x2_4 : Int32) (x3_5 : Int32) (x4_6 : Int32), wpL_X8_begins_15 md_forms md_formMany md_seats md_barAlways md_noPut md_is  post n x1_3 x2_4 x3_5 x4_6 → VV Γ (W_md cI cZ md md_thrown md_text md_textSize md_place md_letter md_first md_second md_third md_side md_hang md_forms md_formMany md_seats md_now md_barAlways md_noPut md_far md_queue md_from md_by md_many md_is md_next md_rollSet md_rollAct md_rolls md_slots md_isKept) [(0, .ref (md 0)), (1, .int x1_3), (2, .int x2_4), (3, .int x3_5), (4, .int x4_6)] 15 [] := by
    intro  n
    induction n with
    | zero => intro x1_3 x2_4 x3_5 x4_6 hm; rw [wpL_X8_begins_15] at hm; exact hm.elim
    | succ n ih =>
      intro x1_3 x2_4 x3_5 x4_6 hm
      rw [wpL_X8_begins_15] at hm
      refine x_iload hC 4 dX8_begins_15 rfl ?_
      refine x_bipush hC (20 : Int32) dX8_begins_17 (by decide) ?_
      refine x_icmp_ge hC 74 dX8_begins_19 (by decide) (fun c_7 => ?_) (fun c_7 => ?_)
      · replace hm := hm.1 c_7
        refine x_bipush hC (-2 : Int32) dX8_begins_74 (by decide) ?_
        exact hR ((-2 : Int32)) () [(0, .ref (md 0)), (1, .int x1_3), (2, .int x2_4), (3, .int x3_5), (4, .int x4_6)] 76 hm rfl dX8_begins_76
      · replace hm := hm.2 c_7
        refine x_bipush hC (100 : Int32) dX8_begins_22 (by decide) ?_
        refine x_iload hC 4 dX8_begins_24 rfl ?_
        refine x_iconst hC (4 : Int32) dX8_begins_26 (by decide) ?_
        refine x_idiv hC dX8_begins_27 (by decide) ?_
        refine x_imul hC dX8_begins_28 ?_
        refine x_bipush hC (10 : Int32) dX8_begins_29 (by decide) ?_
        refine x_iload hC 4 dX8_begins_31 rfl ?_
        refine x_iconst hC (4 : Int32) dX8_begins_33 (by decide) ?_
        refine x_irem hC dX8_begins_34 (by decide) ?_
        refine x_imul hC dX8_begins_35 ?_
        refine x_iadd hC dX8_begins_36 ?_
        refine x_top (fun x5_8 ex5_8 => ?_)
        replace hm := hm x5_8 ex5_8
        refine x_istore hC [(0, .ref (md 0)), (1, .int x1_3), (2, .int x2_4), (3, .int x3_5), (4, .int x4_6), (5, .int x5_8)] [1, 2, 3, 4, 5, 0] dX8_begins_37 (by decide) rfl ?_
        refine x_aload_n hC 0 dX8_begins_39 rfl ?_
        refine x_iload_n hC 1 dX8_begins_40 rfl ?_
        refine x_iload_n hC 2 dX8_begins_41 rfl ?_
        refine x_iload hC 5 dX8_begins_42 rfl ?_
        refine x_callVi hC _ [0, 1, 2, 3, 4, 5, 6, 7, 8, 9, 10, 11, 12, 13, 14] [] [0, 1, 2, 3, 4, 5, 6, 7, 8, 9, 10, 11, 12, 13, 14] (([] : va_W)) (fun _ => W_md cI cZ md md_thrown md_text md_textSize md_place md_letter md_first md_second md_third md_side md_hang md_forms md_formMany md_seats md_now md_barAlways md_noPut md_far md_queue md_from md_by md_many md_is md_next md_rollSet md_rollAct md_rolls md_slots md_isKept) ok_X8_whyNot ml_X8_186 0 5 (c_X8_whyNot (gl Γ) (gD Γ) cI cZ md md_thrown md_text md_textSize md_place md_letter md_first md_second md_third md_side md_hang md_forms md_formMany md_seats md_now md_barAlways md_noPut md_far md_queue md_from md_by md_many md_is md_next md_rollSet md_rollAct md_rolls md_slots md_isKept x1_3 x2_4 x5_8 _ hm) (by decide) (by decide) rfl (Nat.le_of_ble_eq_true rfl) rfl rfl rfl rfl (by decide) rfl (fun _ => rfl) rfl rfl rfl rfl dX8_begins_44 ?_
        rintro r_9 _ hm
        refine x_if_ne hC 68 dX8_begins_47 (by decide) (fun c_10 => ?_) (fun c_10 => ?_)
        · replace hm := hm.1 c_10
          obtain ⟨x4_11, ex4_11⟩ : ∃ y : Int32, y = x4_6 + (1 : Int32) := ⟨_, rfl⟩
          replace hm := hm x4_11 ex4_11
          refine x_iinc hC 4 x4_11 [(0, .ref (md 0)), (1, .int x1_3), (2, .int x2_4), (3, .int x3_5), (4, .int x4_11), (5, .int x5_8)] [1, 2, 3, 4, 0, 5] dX8_begins_68 rfl (by rw [ex4_11]; rfl) (by decide) rfl ?_
          refine x_goto hC 15 dX8_begins_71 (by decide) ?_
          refine x_lsub [0, 1, 2, 3, 4] rfl ?_
          exact ih x1_3 x2_4 x3_5 x4_11 hm
        · replace hm := hm.2 c_10
          refine x_aload_n hC 0 dX8_begins_50 rfl ?_
          refine x_aload_n hC 0 dX8_begins_51 rfl ?_
          refine x_iload_n hC 1 dX8_begins_52 rfl ?_
          refine x_iload hC 5 dX8_begins_53 rfl ?_
          refine x_callVi hC _ [0, 1, 2, 3, 4, 5, 6, 7, 8, 9, 10, 11, 12, 13, 14] [] [0, 1, 2, 3, 4, 5, 6, 7, 8, 9, 10, 11, 12, 13, 14] (([] : va_W)) (fun _ => W_md cI cZ md md_thrown md_text md_textSize md_place md_letter md_first md_second md_third md_side md_hang md_forms md_formMany md_seats md_now md_barAlways md_noPut md_far md_queue md_from md_by md_many md_is md_next md_rollSet md_rollAct md_rolls md_slots md_isKept) ok_X8_done ml_X8_183 0 5 (c_X8_done (gl Γ) (gD Γ) cI cZ md md_thrown md_text md_textSize md_place md_letter md_first md_second md_third md_side md_hang md_forms md_formMany md_seats md_now md_barAlways md_noPut md_far md_queue md_from md_by md_many md_is md_next md_rollSet md_rollAct md_rolls md_slots md_isKept x1_3 x5_8 _ hm) (by decide) (by decide) rfl (Nat.le_of_ble_eq_true rfl) rfl rfl rfl rfl (by decide) rfl (fun _ => rfl) rfl rfl rfl rfl dX8_begins_55 ?_
          rintro r_12 _ hm
          refine x_iload_n hC 3 dX8_begins_58 rfl ?_
          refine x_callVi hC _ [0, 1, 2, 3, 4, 5, 6, 7, 8, 9, 10, 11, 12, 13, 14] [] [0, 1, 2, 3, 4, 5, 6, 7, 8, 9, 10, 11, 12, 13, 14] (([] : va_W)) (fun _ => W_md cI cZ md md_thrown md_text md_textSize md_place md_letter md_first md_second md_third md_side md_hang md_forms md_formMany md_seats md_now md_barAlways md_noPut md_far md_queue md_from md_by md_many md_is md_next md_rollSet md_rollAct md_rolls md_slots md_isKept) ok_X8_always ml_X8_220 0 5 (c_X8_always (gl Γ) (gD Γ) cI cZ md md_thrown md_text md_textSize md_place md_letter md_first md_second md_third md_side md_hang md_forms md_formMany md_seats md_now md_barAlways md_noPut md_far md_queue md_from md_by md_many md_is md_next md_rollSet md_rollAct md_rolls md_slots md_isKept r_12 x3_5 _ hm) (by decide) (by decide) rfl (Nat.le_of_ble_eq_true rfl) rfl rfl rfl rfl (by decide) rfl (fun _ => rfl) rfl rfl rfl rfl dX8_begins_59 ?_
          rintro r_13 _ hm
          refine x_if_eq hC 68 dX8_begins_62 (by decide) (fun c_14 => ?_) (fun c_14 => ?_)
          · replace hm := hm.1 c_14
            obtain ⟨x4_15, ex4_15⟩ : ∃ y : Int32, y = x4_6 + (1 : Int32) := ⟨_, rfl⟩
            replace hm := hm x4_15 ex4_15
            refine x_iinc hC 4 x4_15 [(0, .ref (md 0)), (1, .int x1_3), (2, .int x2_4), (3, .int x3_5), (4, .int x4_15), (5, .int x5_8)] [1, 2, 3, 4, 0, 5] dX8_begins_68 rfl (by rw [ex4_15]; rfl) (by decide) rfl ?_
            refine x_goto hC 15 dX8_begins_71 (by decide) ?_
            refine x_lsub [0, 1, 2, 3, 4] rfl ?_
            exact ih x1_3 x2_4 x3_5 x4_15 hm
          · replace hm := hm.2 c_14
            refine x_iload hC 5 dX8_begins_65 rfl ?_
            exact hR x5_8 () [(0, .ref (md 0)), (1, .int x1_3), (2, .int x2_4), (3, .int x3_5), (4, .int x4_6), (5, .int x5_8)] 67 hm rfl dX8_begins_67
  unfold wp_X8_begins at hm
  refine x_aload_n hC 0 dX8_begins_0 rfl ?_
  refine x_iload_n hC 1 dX8_begins_1 rfl ?_
  refine x_iload_n hC 3 dX8_begins_2 rfl ?_
  refine x_callVi hC _ [0, 1, 2, 3, 4, 5, 6, 7, 8, 9, 10, 11, 12, 13, 14] [] [0, 1, 2, 3, 4, 5, 6, 7, 8, 9, 10, 11, 12, 13, 14] (([] : va_W)) (fun _ => W_md cI cZ md md_thrown md_text md_textSize md_place md_letter md_first md_second md_third md_side md_hang md_forms md_formMany md_seats md_now md_barAlways md_noPut md_far md_queue md_from md_by md_many md_is md_next md_rollSet md_rollAct md_rolls md_slots md_isKept) ok_X8_always ml_X8_220 0 5 (c_X8_always (gl Γ) (gD Γ) cI cZ md md_thrown md_text md_textSize md_place md_letter md_first md_second md_third md_side md_hang md_forms md_formMany md_seats md_now md_barAlways md_noPut md_far md_queue md_from md_by md_many md_is md_next md_rollSet md_rollAct md_rolls md_slots md_isKept p0 p2 _ hm) (by decide) (by decide) rfl (Nat.le_of_ble_eq_true rfl) rfl rfl rfl rfl (by decide) rfl (fun _ => rfl) rfl rfl rfl rfl dX8_begins_3 ?_
  rintro r_1 _ hm
  refine x_if_eq hC 12 dX8_begins_6 (by decide) (fun c_2 => ?_) (fun c_2 => ?_)
  · replace hm := hm.1 c_2
    refine x_iconst hC (0 : Int32) dX8_begins_12 (by decide) ?_
    refine x_istore hC [(0, .ref (md 0)), (1, .int p0), (2, .int p1), (3, .int p2), (4, .int ((0 : Int32)))] [1, 2, 3, 4, 0] dX8_begins_13 (by decide) rfl ?_
    obtain ⟨n_16, hm⟩ := hm
    exact B_15  n_16 p0 p1 p2 ((0 : Int32)) hm
  · replace hm := hm.2 c_2
    refine x_bipush hC (-9 : Int32) dX8_begins_9 (by decide) ?_
    exact hR ((-9 : Int32)) () [(0, .ref (md 0)), (1, .int p0), (2, .int p1), (3, .int p2)] 11 hm rfl dX8_begins_11

def wpL_X8_layTurns_117 (md_forms : Nat → Int32) (md_formMany : Nat → Int32) (md_seats : Nat → Int32) (md_now : Int32) (md_barAlways : Int32) (md_noPut : Int32) (K_54 : (Nat → Int32) → (Nat → Int32) → (Nat → Int32) → (Nat → Int32) → Int32 → (Nat → Int32) → (Nat → Int32) → Int32 → Int32 → Int32 → Int32 → Prop) (post : (Nat → Int32) → (Nat → Int32) → (Nat → Int32) → (Nat → Int32) → Int32 → (Nat → Int32) → (Nat → Int32) → Prop) : Nat → (Nat → Int32) → (Nat → Int32) → (Nat → Int32) → (Nat → Int32) → Int32 → (Nat → Int32) → (Nat → Int32) → Int32 → Int32 → Int32 → Int32 → Int32 → Prop
  | 0, _, _, _, _, _, _, _, _, _, _, _, _ => False
  | n + 1, md_far_44, md_queue_45, md_from_46, md_by_47, md_many_48, md_is_49, md_next_50, x1_51, x2_52, x4_53, x5_54, x6_55 => (md_many_48 ≤ x6_55 → ∀ x5_57 : Int32, x5_57 = x5_54 + (1 : Int32) → K_54 md_far_44 md_queue_45 md_from_46 md_by_47 md_many_48 md_is_49 md_next_50 x1_51 x2_52 x4_53 x5_57) ∧ (¬ md_many_48 ≤ x6_55 → vp_in x6_55 16384 ∧ (vp_in x6_55 16384 ∧ (vp_in (md_queue_45 x6_55.toNatClampNeg) 16384 ∧ (vp_in (md_queue_45 x6_55.toNatClampNeg) 16384 ∧ ∀ md_is_58 : Nat → Int32, md_is_58 = upd md_is_49 (md_queue_45 x6_55.toNatClampNeg).toNatClampNeg (vp_nar .boolean (md_next_50 (md_queue_45 x6_55.toNatClampNeg).toNatClampNeg)) → ∀ x6_59 : Int32, x6_59 = x6_55 + (1 : Int32) → (wpL_X8_layTurns_117 md_forms md_formMany md_seats md_now md_barAlways md_noPut K_54 post n) md_far_44 md_queue_45 md_from_46 md_by_47 md_many_48 md_is_58 md_next_50 x1_51 x2_52 x4_53 x5_54 x6_59))))
def wpL_X8_layTurns_64 (md_forms : Nat → Int32) (md_formMany : Nat → Int32) (md_seats : Nat → Int32) (md_now : Int32) (md_barAlways : Int32) (md_noPut : Int32) (K_54 : (Nat → Int32) → (Nat → Int32) → (Nat → Int32) → (Nat → Int32) → Int32 → (Nat → Int32) → (Nat → Int32) → Int32 → Int32 → Int32 → Int32 → Prop) (post : (Nat → Int32) → (Nat → Int32) → (Nat → Int32) → (Nat → Int32) → Int32 → (Nat → Int32) → (Nat → Int32) → Prop) : Nat → (Nat → Int32) → (Nat → Int32) → (Nat → Int32) → (Nat → Int32) → Int32 → (Nat → Int32) → (Nat → Int32) → Int32 → Int32 → Int32 → Int32 → Int32 → Prop
  | 0, _, _, _, _, _, _, _, _, _, _, _, _ => False
  | n + 1, md_far_31, md_queue_32, md_from_33, md_by_34, md_many_35, md_is_36, md_next_37, x1_38, x2_39, x4_40, x5_41, x6_42 => (md_many_35 ≤ x6_42 → ∃ k117, wpL_X8_layTurns_117 md_forms md_formMany md_seats md_now md_barAlways md_noPut K_54 post k117 md_far_31 md_queue_32 md_from_33 md_by_34 md_many_35 md_is_36 md_next_37 x1_38 x2_39 x4_40 x5_41 ((0 : Int32))) ∧ (¬ md_many_35 ≤ x6_42 → vp_in x6_42 16384 ∧ (vp_in x6_42 16384 ∧ (wp_X8_begins md_forms md_formMany md_seats md_barAlways md_noPut md_is_36 (md_queue_32 x6_42.toNatClampNeg) x1_38 x2_39 (fun (r_61 : Int32) => (r_61 = ((-2 : Int32)) → vp_in (md_queue_32 x6_42.toNatClampNeg) 16384 ∧ ∀ md_next_63 : Nat → Int32, md_next_63 = upd md_next_37 (md_queue_32 x6_42.toNatClampNeg).toNatClampNeg (vp_nar .boolean ((0 : Int32))) → ∀ x6_64 : Int32, x6_64 = x6_42 + (1 : Int32) → (wpL_X8_layTurns_64 md_forms md_formMany md_seats md_now md_barAlways md_noPut K_54 post n) md_far_31 md_queue_32 md_from_33 md_by_34 md_many_35 md_is_36 md_next_63 x1_38 x2_39 x4_40 x5_41 x6_64) ∧ (¬ r_61 = ((-2 : Int32)) → vp_in (md_queue_32 x6_42.toNatClampNeg) 16384 ∧ ∀ md_next_65 : Nat → Int32, md_next_65 = upd md_next_37 (md_queue_32 x6_42.toNatClampNeg).toNatClampNeg (vp_nar .boolean ((1 : Int32))) → ∀ x6_66 : Int32, x6_66 = x6_42 + (1 : Int32) → (wpL_X8_layTurns_64 md_forms md_formMany md_seats md_now md_barAlways md_noPut K_54 post n) md_far_31 md_queue_32 md_from_33 md_by_34 md_many_35 md_is_36 md_next_65 x1_38 x2_39 x4_40 x5_41 x6_66)))))
def wpL_X8_layTurns_54 (md_forms : Nat → Int32) (md_formMany : Nat → Int32) (md_seats : Nat → Int32) (md_now : Int32) (md_barAlways : Int32) (md_noPut : Int32)  (post : (Nat → Int32) → (Nat → Int32) → (Nat → Int32) → (Nat → Int32) → Int32 → (Nat → Int32) → (Nat → Int32) → Prop) : Nat → (Nat → Int32) → (Nat → Int32) → (Nat → Int32) → (Nat → Int32) → Int32 → (Nat → Int32) → (Nat → Int32) → Int32 → Int32 → Int32 → Int32 → Prop
  | 0, _, _, _, _, _, _, _, _, _, _, _ => False
  | n + 1, md_far_19, md_queue_20, md_from_21, md_by_22, md_many_23, md_is_24, md_next_25, x1_26, x2_27, x4_28, x5_29 => (x4_28 ≤ x5_29 → post md_far_19 md_queue_20 md_from_21 md_by_22 md_many_23 md_is_24 md_next_25) ∧ (¬ x4_28 ≤ x5_29 → ∃ k64, wpL_X8_layTurns_64 md_forms md_formMany md_seats md_now md_barAlways md_noPut (fun y0 y1 y2 y3 y4 y5 y6 y7 y8 y9 y10 => wpL_X8_layTurns_54 md_forms md_formMany md_seats md_now md_barAlways md_noPut  post n y0 y1 y2 y3 y4 y5 y6 y7 y8 y9 y10) post k64 md_far_19 md_queue_20 md_from_21 md_by_22 md_many_23 md_is_24 md_next_25 x1_26 x2_27 x4_28 x5_29 ((0 : Int32)))
def wpL_X8_layTurns_13 (md_forms : Nat → Int32) (md_formMany : Nat → Int32) (md_seats : Nat → Int32) (md_now : Int32) (md_barAlways : Int32) (md_noPut : Int32)  (post : (Nat → Int32) → (Nat → Int32) → (Nat → Int32) → (Nat → Int32) → Int32 → (Nat → Int32) → (Nat → Int32) → Prop) : Nat → (Nat → Int32) → (Nat → Int32) → (Nat → Int32) → (Nat → Int32) → Int32 → (Nat → Int32) → (Nat → Int32) → Int32 → Int32 → Int32 → Int32 → Int32 → Prop
  | 0, _, _, _, _, _, _, _, _, _, _, _, _ => False
  | n + 1, md_far_6, md_queue_7, md_from_8, md_by_9, md_many_10, md_is_11, md_next_12, x1_13, x2_14, x3_15, x4_16, x5_17 => (md_many_10 ≤ x5_17 → ∃ k54, wpL_X8_layTurns_54 md_forms md_formMany md_seats md_now md_barAlways md_noPut  post k54 md_far_6 md_queue_7 md_from_8 md_by_9 md_many_10 md_is_11 md_next_12 x1_13 x2_14 x4_16 ((1 : Int32))) ∧ (¬ md_many_10 ≤ x5_17 → vp_in x5_17 16384 ∧ (vp_in x5_17 16384 ∧ (wp_X8_isSo  (md_queue_7 x5_17.toNatClampNeg) x3_15 (fun (r_69 : Int32) => vp_in (md_queue_7 x5_17.toNatClampNeg) 16384 ∧ ∀ md_is_70 : Nat → Int32, md_is_70 = upd md_is_11 (md_queue_7 x5_17.toNatClampNeg).toNatClampNeg (vp_nar .boolean r_69) → ∀ x5_71 : Int32, x5_71 = x5_17 + (1 : Int32) → (wpL_X8_layTurns_13 md_forms md_formMany md_seats md_now md_barAlways md_noPut  post n) md_far_6 md_queue_7 md_from_8 md_by_9 md_many_10 md_is_70 md_next_12 x1_13 x2_14 x3_15 x4_16 x5_71))))
def wp_X8_layTurns (md_forms : Nat → Int32) (md_formMany : Nat → Int32) (md_seats : Nat → Int32) (md_now : Int32) (md_barAlways : Int32) (md_noPut : Int32) (md_far : Nat → Int32) (md_queue : Nat → Int32) (md_from : Nat → Int32) (md_by : Nat → Int32) (md_many : Int32) (md_is : Nat → Int32) (md_next : Nat → Int32) (p0 : Int32) (p1 : Int32) (p2 : Int32) (p3 : Int32) (post : (Nat → Int32) → (Nat → Int32) → (Nat → Int32) → (Nat → Int32) → Int32 → (Nat → Int32) → (Nat → Int32) → Prop) : Prop := wp_X8_wave md_forms md_formMany md_seats md_barAlways md_noPut md_far md_queue md_from md_by md_many md_now p0 p1 (fun (md_far_1 : Nat → Int32) (md_queue_2 : Nat → Int32) (md_from_3 : Nat → Int32) (md_by_4 : Nat → Int32) (md_many_5 : Int32) => ∃ k13, wpL_X8_layTurns_13 md_forms md_formMany md_seats md_now md_barAlways md_noPut  post k13 md_far_1 md_queue_2 md_from_3 md_by_4 md_many_5 md_is md_next p0 p1 p2 p3 ((0 : Int32)))
set_option maxHeartbeats 4000000 in
set_option maxRecDepth 100000 in
theorem c_X8_layTurns (l : Launch) (D : va_G) (cI cZ : ClassId) (md : Nat → Nat) (md_thrown : Int32) (md_text : Nat → Int32) (md_textSize : Int32) (md_place : Int32) (md_letter : Int32) (md_first : Int32) (md_second : Int32) (md_third : Int32) (md_side : Int32) (md_hang : Int32) (md_forms : Nat → Int32) (md_formMany : Nat → Int32) (md_seats : Nat → Int32) (md_now : Int32) (md_barAlways : Int32) (md_noPut : Int32) (md_far : Nat → Int32) (md_queue : Nat → Int32) (md_from : Nat → Int32) (md_by : Nat → Int32) (md_many : Int32) (md_is : Nat → Int32) (md_next : Nat → Int32) (md_rollSet : Nat → Int32) (md_rollAct : Nat → Int32) (md_rolls : Int32) (md_slots : Nat → Int32) (md_isKept : Nat → Int32) (p0 : Int32) (p1 : Int32) (p2 : Int32) (p3 : Int32) (post : (Nat → Int32) → (Nat → Int32) → (Nat → Int32) → (Nat → Int32) → Int32 → (Nat → Int32) → (Nat → Int32) → Prop) (hm : wp_X8_layTurns md_forms md_formMany md_seats md_now md_barAlways md_noPut md_far md_queue md_from md_by md_many md_is md_next p0 p1 p2 p3 post) : Mv l D cI cZ yX8_layTurns cX8_layTurns 7 7 170 [.ref (md 0), .int p0, .int p1, .int p2, .int p3] (W_md cI cZ md md_thrown md_text md_textSize md_place md_letter md_first md_second md_third md_side md_hang md_forms md_formMany md_seats md_now md_barAlways md_noPut md_far md_queue md_from md_by md_many md_is md_next md_rollSet md_rollAct md_rolls md_slots md_isKept) (S := (Nat → Int32) × (Nat → Int32) × (Nat → Int32) × (Nat → Int32) × Int32 × (Nat → Int32) × (Nat → Int32)) (fun u => W_md cI cZ md md_thrown md_text md_textSize md_place md_letter md_first md_second md_third md_side md_hang md_forms md_formMany md_seats md_now md_barAlways md_noPut (u.1) (u.2.1) (u.2.2.1) (u.2.2.2.1) (u.2.2.2.2.1) (u.2.2.2.2.2.1) (u.2.2.2.2.2.2) md_rollSet md_rollAct md_rolls md_slots md_isKept) (fun u => post u.1 u.2.1 u.2.2.1 u.2.2.2.1 u.2.2.2.2.1 u.2.2.2.2.2.1 u.2.2.2.2.2.2) := by
  refine mk_Mv (by decide +kernel) (Nat.le_of_ble_eq_true rfl) ?_
  intro Γ hl0 hD0 hC hR
  subst hl0
  subst hD0
  have hC : CX Γ cI cZ cX8_layTurns RX8 7 7 170 := hC
  show VV Γ (W_md cI cZ md md_thrown md_text md_textSize md_place md_letter md_first md_second md_third md_side md_hang md_forms md_formMany md_seats md_now md_barAlways md_noPut md_far md_queue md_from md_by md_many md_is md_next md_rollSet md_rollAct md_rolls md_slots md_isKept) [(0, .ref (md 0)), (1, .int p0), (2, .int p1), (3, .int p2), (4, .int p3)] 0 []
  have B_117 : ∀ (K_54 : (Nat → Int32) → (Nat → Int32) → (Nat → Int32) → (Nat → Int32) → Int32 → (Nat → Int32) → (Nat → Int32) → Int32 → Int32 → Int32 → Int32 → Prop) (hK_54 : ∀ (md_far_19 : Nat → Int32) (md_queue_20 : Nat → Int32) (md_from_21 : Nat → Int32) (md_by_22 : Nat → Int32) (md_many_23 : Int32) (md_is_24 : Nat → Int32) (md_next_25 : Nat → Int32) (x1_26 : Int32) (x2_27 : Int32) (x4_28 : Int32) (x5_29 : Int32), K_54 md_far_19 md_queue_20 md_from_21 md_by_22 md_many_23 md_is_24 md_next_25 x1_26 x2_27 x4_28 x5_29 → VV Γ (W_md cI cZ md md_thrown md_text md_textSize md_place md_letter md_first md_second md_third md_side md_hang md_forms md_formMany md_seats md_now md_barAlways md_noPut md_far_19 md_queue_20 md_from_21 md_by_22 md_many_23 md_is_24 md_next_25 md_rollSet md_rollAct md_rolls md_slots md_isKept) [(0, .ref (md 0)), (1, .int x1_26), (2, .int x2_27), (4, .int x4_28), (5, .int x5_29)] 54 []) (n : Nat) (md_far_44 : Nat → Int32) (md_queue_45 : Nat → Int32) (md_from_46 : Nat → Int32) (md_by_47 : Nat → Int32) (md_many_48 : Int32) (md_is_49 : Nat → Int32) (md_next_50 : Nat → Int32) (x1_51 : Int32) (x2_52 : Int32) (x4_53 : Int32) (x5_54 : Int32) (x6_55 : Int32), wpL_X8_layTurns_117 md_forms md_formMany md_seats md_now md_barAlways md_noPut K_54 post n md_far_44 md_queue_45 md_from_46 md_by_47 md_many_48 md_is_49 md_next_50 x1_51 x2_52 x4_53 x5_54 x6_55 → VV Γ (W_md cI cZ md md_thrown md_text md_textSize md_place md_letter md_first md_second md_third md_side md_hang md_forms md_formMany md_seats md_now md_barAlways md_noPut md_far_44 md_queue_45 md_from_46 md_by_47 md_many_48 md_is_49 md_next_50 md_rollSet md_rollAct md_rolls md_slots md_isKept) [(0, .ref (md 0)), (1, .int x1_51), (2, .int x2_52), (4, .int x4_53), (5, .int x5_54), (6, .int x6_55)] 117 [] := by
    intro K_54 hK_54 n
    induction n with
    | zero => intro md_far_44 md_queue_45 md_from_46 md_by_47 md_many_48 md_is_49 md_next_50 x1_51 x2_52 x4_53 x5_54 x6_55 hm; rw [wpL_X8_layTurns_117] at hm; exact hm.elim
    | succ n ih =>
      intro md_far_44 md_queue_45 md_from_46 md_by_47 md_many_48 md_is_49 md_next_50 x1_51 x2_52 x4_53 x5_54 x6_55 hm
      rw [wpL_X8_layTurns_117] at hm
      refine x_iload hC 5 dX8_layTurns_117 rfl ?_
      refine x_aload_n hC 0 dX8_layTurns_119 rfl ?_
      refine x_get hC 5 inX8g 0 rfl rfl 20 (by decide) fl_X8_195 rfl dX8_layTurns_120 ?_
      refine x_icmp_ge hC 156 dX8_layTurns_123 (by decide) (fun c_56 => ?_) (fun c_56 => ?_)
      · replace hm := hm.1 c_56
        obtain ⟨x5_57, ex5_57⟩ : ∃ y : Int32, y = x5_54 + (1 : Int32) := ⟨_, rfl⟩
        replace hm := hm x5_57 ex5_57
        refine x_iinc hC 4 x5_57 [(0, .ref (md 0)), (1, .int x1_51), (2, .int x2_52), (4, .int x4_53), (5, .int x5_57), (6, .int x6_55)] [1, 2, 3, 4, 0, 5] dX8_layTurns_156 rfl (by rw [ex5_57]; rfl) (by decide) rfl ?_
        refine x_goto hC 54 dX8_layTurns_159 (by decide) ?_
        refine x_lsub [0, 1, 2, 3, 4] rfl ?_
        exact hK_54 md_far_44 md_queue_45 md_from_46 md_by_47 md_many_48 md_is_49 md_next_50 x1_51 x2_52 x4_53 x5_57 hm
      · replace hm := hm.2 c_56
        refine x_aload_n hC 0 dX8_layTurns_126 rfl ?_
        refine x_get hC 5 inX8g 0 rfl rfl 21 (by decide) fl_X8_41 rfl dX8_layTurns_127 ?_
        refine x_aload_n hC 0 dX8_layTurns_130 rfl ?_
        refine x_get hC 5 inX8g 0 rfl rfl 17 (by decide) fl_X8_32 rfl dX8_layTurns_131 ?_
        refine x_iload hC 5 dX8_layTurns_134 rfl ?_
        refine x_iald hC 6 rfl hm.1 dX8_layTurns_136 ?_
        replace hm := hm.2
        refine x_aload_n hC 0 dX8_layTurns_137 rfl ?_
        refine x_get hC 5 inX8g 0 rfl rfl 22 (by decide) fl_X8_45 rfl dX8_layTurns_138 ?_
        refine x_aload_n hC 0 dX8_layTurns_141 rfl ?_
        refine x_get hC 5 inX8g 0 rfl rfl 17 (by decide) fl_X8_32 rfl dX8_layTurns_142 ?_
        refine x_iload hC 5 dX8_layTurns_145 rfl ?_
        refine x_iald hC 6 rfl hm.1 dX8_layTurns_147 ?_
        replace hm := hm.2
        refine x_zald hC 10 rfl hm.1 dX8_layTurns_148 ?_
        replace hm := hm.2
        refine x_zastN hC 9 rfl hm.1 (fun md_is_58 => W_md cI cZ md md_thrown md_text md_textSize md_place md_letter md_first md_second md_third md_side md_hang md_forms md_formMany md_seats md_now md_barAlways md_noPut md_far_44 md_queue_45 md_from_46 md_by_47 md_many_48 md_is_58 md_next_50 md_rollSet md_rollAct md_rolls md_slots md_isKept) (fun _ => rfl) dX8_layTurns_149 (fun md_is_58 emd_is_58 => ?_)
        replace hm := hm.2 md_is_58 emd_is_58
        obtain ⟨x6_59, ex6_59⟩ : ∃ y : Int32, y = x6_55 + (1 : Int32) := ⟨_, rfl⟩
        replace hm := hm x6_59 ex6_59
        refine x_iinc hC 5 x6_59 [(0, .ref (md 0)), (1, .int x1_51), (2, .int x2_52), (4, .int x4_53), (5, .int x5_54), (6, .int x6_59)] [1, 2, 3, 4, 5, 0] dX8_layTurns_150 rfl (by rw [ex6_59]; rfl) (by decide) rfl ?_
        refine x_goto hC 117 dX8_layTurns_153 (by decide) ?_
        exact ih md_far_44 md_queue_45 md_from_46 md_by_47 md_many_48 md_is_58 md_next_50 x1_51 x2_52 x4_53 x5_54 x6_59 hm
  have B_64 : ∀ (K_54 : (Nat → Int32) → (Nat → Int32) → (Nat → Int32) → (Nat → Int32) → Int32 → (Nat → Int32) → (Nat → Int32) → Int32 → Int32 → Int32 → Int32 → Prop) (hK_54 : ∀ (md_far_19 : Nat → Int32) (md_queue_20 : Nat → Int32) (md_from_21 : Nat → Int32) (md_by_22 : Nat → Int32) (md_many_23 : Int32) (md_is_24 : Nat → Int32) (md_next_25 : Nat → Int32) (x1_26 : Int32) (x2_27 : Int32) (x4_28 : Int32) (x5_29 : Int32), K_54 md_far_19 md_queue_20 md_from_21 md_by_22 md_many_23 md_is_24 md_next_25 x1_26 x2_27 x4_28 x5_29 → VV Γ (W_md cI cZ md md_thrown md_text md_textSize md_place md_letter md_first md_second md_third md_side md_hang md_forms md_formMany md_seats md_now md_barAlways md_noPut md_far_19 md_queue_20 md_from_21 md_by_22 md_many_23 md_is_24 md_next_25 md_rollSet md_rollAct md_rolls md_slots md_isKept) [(0, .ref (md 0)), (1, .int x1_26), (2, .int x2_27), (4, .int x4_28), (5, .int x5_29)] 54 []) (n : Nat) (md_far_31 : Nat → Int32) (md_queue_32 : Nat → Int32) (md_from_33 : Nat → Int32) (md_by_34 : Nat → Int32) (md_many_35 : Int32) (md_is_36 : Nat → Int32) (md_next_37 : Nat → Int32) (x1_38 : Int32) (x2_39 : Int32) (x4_40 : Int32) (x5_41 : Int32) (x6_42 : Int32), wpL_X8_layTurns_64 md_forms md_formMany md_seats md_now md_barAlways md_noPut K_54 post n md_far_31 md_queue_32 md_from_33 md_by_34 md_many_35 md_is_36 md_next_37 x1_38 x2_39 x4_40 x5_41 x6_42 → VV Γ (W_md cI cZ md md_thrown md_text md_textSize md_place md_letter md_first md_second md_third md_side md_hang md_forms md_formMany md_seats md_now md_barAlways md_noPut md_far_31 md_queue_32 md_from_33 md_by_34 md_many_35 md_is_36 md_next_37 md_rollSet md_rollAct md_rolls md_slots md_isKept) [(0, .ref (md 0)), (1, .int x1_38), (2, .int x2_39), (4, .int x4_40), (5, .int x5_41), (6, .int x6_42)] 64 [] := by
    intro K_54 hK_54 n
    induction n with
    | zero => intro md_far_31 md_queue_32 md_from_33 md_by_34 md_many_35 md_is_36 md_next_37 x1_38 x2_39 x4_40 x5_41 x6_42 hm; rw [wpL_X8_layTurns_64] at hm; exact hm.elim
    | succ n ih =>
      intro md_far_31 md_queue_32 md_from_33 md_by_34 md_many_35 md_is_36 md_next_37 x1_38 x2_39 x4_40 x5_41 x6_42 hm
      rw [wpL_X8_layTurns_64] at hm
      refine x_iload hC 5 dX8_layTurns_64 rfl ?_
      refine x_aload_n hC 0 dX8_layTurns_66 rfl ?_
      refine x_get hC 5 inX8g 0 rfl rfl 20 (by decide) fl_X8_195 rfl dX8_layTurns_67 ?_
      refine x_icmp_ge hC 114 dX8_layTurns_70 (by decide) (fun c_43 => ?_) (fun c_43 => ?_)
      · replace hm := hm.1 c_43
        refine x_iconst hC (0 : Int32) dX8_layTurns_114 (by decide) ?_
        refine x_istore hC [(0, .ref (md 0)), (1, .int x1_38), (2, .int x2_39), (4, .int x4_40), (5, .int x5_41), (6, .int ((0 : Int32)))] [1, 2, 3, 4, 5, 0] dX8_layTurns_115 (by decide) rfl ?_
        obtain ⟨n_60, hm⟩ := hm
        exact B_117 K_54 hK_54 n_60 md_far_31 md_queue_32 md_from_33 md_by_34 md_many_35 md_is_36 md_next_37 x1_38 x2_39 x4_40 x5_41 ((0 : Int32)) hm
      · replace hm := hm.2 c_43
        refine x_aload_n hC 0 dX8_layTurns_73 rfl ?_
        refine x_get hC 5 inX8g 0 rfl rfl 22 (by decide) fl_X8_45 rfl dX8_layTurns_74 ?_
        refine x_aload_n hC 0 dX8_layTurns_77 rfl ?_
        refine x_get hC 5 inX8g 0 rfl rfl 17 (by decide) fl_X8_32 rfl dX8_layTurns_78 ?_
        refine x_iload hC 5 dX8_layTurns_81 rfl ?_
        refine x_iald hC 6 rfl hm.1 dX8_layTurns_83 ?_
        replace hm := hm.2
        refine x_aload_n hC 0 dX8_layTurns_84 rfl ?_
        refine x_aload_n hC 0 dX8_layTurns_85 rfl ?_
        refine x_get hC 5 inX8g 0 rfl rfl 17 (by decide) fl_X8_32 rfl dX8_layTurns_86 ?_
        refine x_iload hC 5 dX8_layTurns_89 rfl ?_
        refine x_iald hC 6 rfl hm.1 dX8_layTurns_91 ?_
        replace hm := hm.2
        refine x_iload_n hC 1 dX8_layTurns_92 rfl ?_
        refine x_iload_n hC 2 dX8_layTurns_93 rfl ?_
        refine x_callVi hC _ [0, 1, 2, 3, 4, 5, 6, 7, 8, 9, 10, 11, 12, 13, 14] [] [0, 1, 2, 3, 4, 5, 6, 7, 8, 9, 10, 11, 12, 13, 14] (([] : va_W)) (fun _ => W_md cI cZ md md_thrown md_text md_textSize md_place md_letter md_first md_second md_third md_side md_hang md_forms md_formMany md_seats md_now md_barAlways md_noPut md_far_31 md_queue_32 md_from_33 md_by_34 md_many_35 md_is_36 md_next_37 md_rollSet md_rollAct md_rolls md_slots md_isKept) ok_X8_begins ml_X8_217 0 5 (c_X8_begins (gl Γ) (gD Γ) cI cZ md md_thrown md_text md_textSize md_place md_letter md_first md_second md_third md_side md_hang md_forms md_formMany md_seats md_now md_barAlways md_noPut md_far_31 md_queue_32 md_from_33 md_by_34 md_many_35 md_is_36 md_next_37 md_rollSet md_rollAct md_rolls md_slots md_isKept (md_queue_32 x6_42.toNatClampNeg) x1_38 x2_39 _ hm) (by decide) (by decide) rfl (Nat.le_of_ble_eq_true rfl) rfl rfl rfl rfl (by decide) rfl (fun _ => rfl) rfl rfl rfl rfl dX8_layTurns_94 ?_
        rintro r_61 _ hm
        refine x_bipush hC (-2 : Int32) dX8_layTurns_97 (by decide) ?_
        refine x_icmp_eq hC 106 dX8_layTurns_99 (by decide) (fun c_62 => ?_) (fun c_62 => ?_)
        · replace hm := hm.1 c_62
          refine x_iconst hC (0 : Int32) dX8_layTurns_106 (by decide) ?_
          refine x_zastN hC 10 rfl hm.1 (fun md_next_63 => W_md cI cZ md md_thrown md_text md_textSize md_place md_letter md_first md_second md_third md_side md_hang md_forms md_formMany md_seats md_now md_barAlways md_noPut md_far_31 md_queue_32 md_from_33 md_by_34 md_many_35 md_is_36 md_next_63 md_rollSet md_rollAct md_rolls md_slots md_isKept) (fun _ => rfl) dX8_layTurns_107 (fun md_next_63 emd_next_63 => ?_)
          replace hm := hm.2 md_next_63 emd_next_63
          obtain ⟨x6_64, ex6_64⟩ : ∃ y : Int32, y = x6_42 + (1 : Int32) := ⟨_, rfl⟩
          replace hm := hm x6_64 ex6_64
          refine x_iinc hC 5 x6_64 [(0, .ref (md 0)), (1, .int x1_38), (2, .int x2_39), (4, .int x4_40), (5, .int x5_41), (6, .int x6_64)] [1, 2, 3, 4, 5, 0] dX8_layTurns_108 rfl (by rw [ex6_64]; rfl) (by decide) rfl ?_
          refine x_goto hC 64 dX8_layTurns_111 (by decide) ?_
          exact ih md_far_31 md_queue_32 md_from_33 md_by_34 md_many_35 md_is_36 md_next_63 x1_38 x2_39 x4_40 x5_41 x6_64 hm
        · replace hm := hm.2 c_62
          refine x_iconst hC (1 : Int32) dX8_layTurns_102 (by decide) ?_
          refine x_goto hC 107 dX8_layTurns_103 (by decide) ?_
          refine x_zastN hC 10 rfl hm.1 (fun md_next_65 => W_md cI cZ md md_thrown md_text md_textSize md_place md_letter md_first md_second md_third md_side md_hang md_forms md_formMany md_seats md_now md_barAlways md_noPut md_far_31 md_queue_32 md_from_33 md_by_34 md_many_35 md_is_36 md_next_65 md_rollSet md_rollAct md_rolls md_slots md_isKept) (fun _ => rfl) dX8_layTurns_107 (fun md_next_65 emd_next_65 => ?_)
          replace hm := hm.2 md_next_65 emd_next_65
          obtain ⟨x6_66, ex6_66⟩ : ∃ y : Int32, y = x6_42 + (1 : Int32) := ⟨_, rfl⟩
          replace hm := hm x6_66 ex6_66
          refine x_iinc hC 5 x6_66 [(0, .ref (md 0)), (1, .int x1_38), (2, .int x2_39), (4, .int x4_40), (5, .int x5_41), (6, .int x6_66)] [1, 2, 3, 4, 5, 0] dX8_layTurns_108 rfl (by rw [ex6_66]; rfl) (by decide) rfl ?_
          refine x_goto hC 64 dX8_layTurns_111 (by decide) ?_
          exact ih md_far_31 md_queue_32 md_from_33 md_by_34 md_many_35 md_is_36 md_next_65 x1_38 x2_39 x4_40 x5_41 x6_66 hm
  have B_54 : ∀ (n : Nat) (md_far_19 : Nat → Int32) (md_queue_20 : Nat → Int32) (md_from_21 : Nat → Int32) (md_by_22 : Nat → Int32) (md_many_23 : Int32) (md_is_24 : Nat → Int32) (md_next_25 : Nat → Int32) (x1_26 : Int32) (x2_27 : Int32) (x4_28 : Int32) (x5_29 : Int32), wpL_X8_layTurns_54 md_forms md_formMany md_seats md_now md_barAlways md_noPut  post n md_far_19 md_queue_20 md_from_21 md_by_22 md_many_23 md_is_24 md_next_25 x1_26 x2_27 x4_28 x5_29 → VV Γ (W_md cI cZ md md_thrown md_text md_textSize md_place md_letter md_first md_second md_third md_side md_hang md_forms md_formMany md_seats md_now md_barAlways md_noPut md_far_19 md_queue_20 md_from_21 md_by_22 md_many_23 md_is_24 md_next_25 md_rollSet md_rollAct md_rolls md_slots md_isKept) [(0, .ref (md 0)), (1, .int x1_26), (2, .int x2_27), (4, .int x4_28), (5, .int x5_29)] 54 [] := by
    intro  n
    induction n with
    | zero => intro md_far_19 md_queue_20 md_from_21 md_by_22 md_many_23 md_is_24 md_next_25 x1_26 x2_27 x4_28 x5_29 hm; rw [wpL_X8_layTurns_54] at hm; exact hm.elim
    | succ n ih =>
      intro md_far_19 md_queue_20 md_from_21 md_by_22 md_many_23 md_is_24 md_next_25 x1_26 x2_27 x4_28 x5_29 hm
      rw [wpL_X8_layTurns_54] at hm
      refine x_iload hC 4 dX8_layTurns_54 rfl ?_
      refine x_iload hC 3 dX8_layTurns_56 rfl ?_
      refine x_icmp_ge hC 162 dX8_layTurns_58 (by decide) (fun c_30 => ?_) (fun c_30 => ?_)
      · replace hm := hm.1 c_30
        exact hR (md_far_19, md_queue_20, md_from_21, md_by_22, md_many_23, md_is_24, md_next_25) [(0, .ref (md 0)), (1, .int x1_26), (2, .int x2_27), (4, .int x4_28), (5, .int x5_29)] 162 hm dX8_layTurns_162
      · replace hm := hm.2 c_30
        refine x_iconst hC (0 : Int32) dX8_layTurns_61 (by decide) ?_
        refine x_istore hC [(0, .ref (md 0)), (1, .int x1_26), (2, .int x2_27), (4, .int x4_28), (5, .int x5_29), (6, .int ((0 : Int32)))] [1, 2, 3, 4, 5, 0] dX8_layTurns_62 (by decide) rfl ?_
        obtain ⟨n_67, hm⟩ := hm
        exact B_64 (fun y0 y1 y2 y3 y4 y5 y6 y7 y8 y9 y10 => wpL_X8_layTurns_54 md_forms md_formMany md_seats md_now md_barAlways md_noPut  post n y0 y1 y2 y3 y4 y5 y6 y7 y8 y9 y10) ih n_67 md_far_19 md_queue_20 md_from_21 md_by_22 md_many_23 md_is_24 md_next_25 x1_26 x2_27 x4_28 x5_29 ((0 : Int32)) hm
  have B_13 : ∀ (n : Nat) (md_far_6 : Nat → Int32) (md_queue_7 : Nat → Int32) (md_from_8 : Nat → Int32) (md_by_9 : Nat → Int32) (md_many_10 : Int32) (md_is_11 : Nat → Int32) (md_next_12 : Nat → Int32) (x1_13 : Int32) (x2_14 : Int32) (x3_15 : Int32) (x4_16 : Int32) (x5_17 : Int32), wpL_X8_layTurns_13 md_forms md_formMany md_seats md_now md_barAlways md_noPut  post n md_far_6 md_queue_7 md_from_8 md_by_9 md_many_10 md_is_11 md_next_12 x1_13 x2_14 x3_15 x4_16 x5_17 → VV Γ (W_md cI cZ md md_thrown md_text md_textSize md_place md_letter md_first md_second md_third md_side md_hang md_forms md_formMany md_seats md_now md_barAlways md_noPut md_far_6 md_queue_7 md_from_8 md_by_9 md_many_10 md_is_11 md_next_12 md_rollSet md_rollAct md_rolls md_slots md_isKept) [(0, .ref (md 0)), (1, .int x1_13), (2, .int x2_14), (3, .int x3_15), (4, .int x4_16), (5, .int x5_17)] 13 [] := by
    intro  n
    induction n with
    | zero => intro md_far_6 md_queue_7 md_from_8 md_by_9 md_many_10 md_is_11 md_next_12 x1_13 x2_14 x3_15 x4_16 x5_17 hm; rw [wpL_X8_layTurns_13] at hm; exact hm.elim
    | succ n ih =>
      intro md_far_6 md_queue_7 md_from_8 md_by_9 md_many_10 md_is_11 md_next_12 x1_13 x2_14 x3_15 x4_16 x5_17 hm
      rw [wpL_X8_layTurns_13] at hm
      refine x_iload hC 5 dX8_layTurns_13 rfl ?_
      refine x_aload_n hC 0 dX8_layTurns_15 rfl ?_
      refine x_get hC 5 inX8g 0 rfl rfl 20 (by decide) fl_X8_195 rfl dX8_layTurns_16 ?_
      refine x_icmp_ge hC 51 dX8_layTurns_19 (by decide) (fun c_18 => ?_) (fun c_18 => ?_)
      · replace hm := hm.1 c_18
        refine x_iconst hC (1 : Int32) dX8_layTurns_51 (by decide) ?_
        refine x_istore hC [(0, .ref (md 0)), (1, .int x1_13), (2, .int x2_14), (3, .int x3_15), (4, .int x4_16), (5, .int ((1 : Int32)))] [1, 2, 3, 4, 5, 0] dX8_layTurns_52 (by decide) rfl ?_
        obtain ⟨n_68, hm⟩ := hm
        refine x_lsub [0, 1, 2, 4, 5] rfl ?_
        exact B_54  n_68 md_far_6 md_queue_7 md_from_8 md_by_9 md_many_10 md_is_11 md_next_12 x1_13 x2_14 x4_16 ((1 : Int32)) hm
      · replace hm := hm.2 c_18
        refine x_aload_n hC 0 dX8_layTurns_22 rfl ?_
        refine x_get hC 5 inX8g 0 rfl rfl 21 (by decide) fl_X8_41 rfl dX8_layTurns_23 ?_
        refine x_aload_n hC 0 dX8_layTurns_26 rfl ?_
        refine x_get hC 5 inX8g 0 rfl rfl 17 (by decide) fl_X8_32 rfl dX8_layTurns_27 ?_
        refine x_iload hC 5 dX8_layTurns_30 rfl ?_
        refine x_iald hC 6 rfl hm.1 dX8_layTurns_32 ?_
        replace hm := hm.2
        refine x_aload_n hC 0 dX8_layTurns_33 rfl ?_
        refine x_get hC 5 inX8g 0 rfl rfl 17 (by decide) fl_X8_32 rfl dX8_layTurns_34 ?_
        refine x_iload hC 5 dX8_layTurns_37 rfl ?_
        refine x_iald hC 6 rfl hm.1 dX8_layTurns_39 ?_
        replace hm := hm.2
        refine x_iload_n hC 3 dX8_layTurns_40 rfl ?_
        refine x_callSi hC _ [] [0, 1, 2, 3, 4, 5, 6, 7, 8, 9, 10, 11, 12, 13, 14] [0, 1, 2, 3, 4, 5, 6, 7, 8, 9, 10, 11, 12, 13, 14] (W_md cI cZ md md_thrown md_text md_textSize md_place md_letter md_first md_second md_third md_side md_hang md_forms md_formMany md_seats md_now md_barAlways md_noPut md_far_6 md_queue_7 md_from_8 md_by_9 md_many_10 md_is_11 md_next_12 md_rollSet md_rollAct md_rolls md_slots md_isKept) (fun _ => W_md cI cZ md md_thrown md_text md_textSize md_place md_letter md_first md_second md_third md_side md_hang md_forms md_formMany md_seats md_now md_barAlways md_noPut md_far_6 md_queue_7 md_from_8 md_by_9 md_many_10 md_is_11 md_next_12 md_rollSet md_rollAct md_rolls md_slots md_isKept) ok_X8_isSo ml_X8_164 (c_X8_isSo (gl Γ) (gD Γ) cI cZ   (md_queue_7 x5_17.toNatClampNeg) x3_15 _ hm) (by decide) (by decide) rfl (Nat.le_of_ble_eq_true rfl) rfl rfl rfl rfl (by decide) rfl (fun _ => rfl) rfl dX8_layTurns_41 ?_
        rintro r_69 _ hm
        refine x_zastN hC 9 rfl hm.1 (fun md_is_70 => W_md cI cZ md md_thrown md_text md_textSize md_place md_letter md_first md_second md_third md_side md_hang md_forms md_formMany md_seats md_now md_barAlways md_noPut md_far_6 md_queue_7 md_from_8 md_by_9 md_many_10 md_is_70 md_next_12 md_rollSet md_rollAct md_rolls md_slots md_isKept) (fun _ => rfl) dX8_layTurns_44 (fun md_is_70 emd_is_70 => ?_)
        replace hm := hm.2 md_is_70 emd_is_70
        obtain ⟨x5_71, ex5_71⟩ : ∃ y : Int32, y = x5_17 + (1 : Int32) := ⟨_, rfl⟩
        replace hm := hm x5_71 ex5_71
        refine x_iinc hC 5 x5_71 [(0, .ref (md 0)), (1, .int x1_13), (2, .int x2_14), (3, .int x3_15), (4, .int x4_16), (5, .int x5_71)] [1, 2, 3, 4, 5, 0] dX8_layTurns_45 rfl (by rw [ex5_71]; rfl) (by decide) rfl ?_
        refine x_goto hC 13 dX8_layTurns_48 (by decide) ?_
        exact ih md_far_6 md_queue_7 md_from_8 md_by_9 md_many_10 md_is_70 md_next_12 x1_13 x2_14 x3_15 x4_16 x5_71 hm
  unfold wp_X8_layTurns at hm
  refine x_aload_n hC 0 dX8_layTurns_0 rfl ?_
  refine x_aload_n hC 0 dX8_layTurns_1 rfl ?_
  refine x_get hC 5 inX8g 0 rfl rfl 13 (by decide) fl_X8_140 rfl dX8_layTurns_2 ?_
  refine x_iload_n hC 1 dX8_layTurns_5 rfl ?_
  refine x_iload_n hC 2 dX8_layTurns_6 rfl ?_
  refine x_callVv hC _ [0, 1, 2, 3, 4, 5, 6, 7, 8, 9, 10, 11, 12, 13, 14] [] [0, 1, 2, 3, 4, 5, 6, 7, 8, 9, 10, 11, 12, 13, 14] (([] : va_W)) (fun u => W_md cI cZ md md_thrown md_text md_textSize md_place md_letter md_first md_second md_third md_side md_hang md_forms md_formMany md_seats md_now md_barAlways md_noPut (u.1) (u.2.1) (u.2.2.1) (u.2.2.2.1) (u.2.2.2.2) md_is md_next md_rollSet md_rollAct md_rolls md_slots md_isKept) ok_X8_wave ml_X8_198 0 5 (c_X8_wave (gl Γ) (gD Γ) cI cZ md md_thrown md_text md_textSize md_place md_letter md_first md_second md_third md_side md_hang md_forms md_formMany md_seats md_now md_barAlways md_noPut md_far md_queue md_from md_by md_many md_is md_next md_rollSet md_rollAct md_rolls md_slots md_isKept md_now p0 p1 _ hm) (by decide) (by decide) rfl (Nat.le_of_ble_eq_true rfl) rfl rfl rfl rfl (by decide) rfl (fun _ => rfl) rfl rfl rfl rfl dX8_layTurns_7 ?_
  rintro ⟨md_far_1, md_queue_2, md_from_3, md_by_4, md_many_5⟩ hm
  refine x_iconst hC (0 : Int32) dX8_layTurns_10 (by decide) ?_
  refine x_istore hC [(0, .ref (md 0)), (1, .int p0), (2, .int p1), (3, .int p2), (4, .int p3), (5, .int ((0 : Int32)))] [1, 2, 3, 4, 5, 0] dX8_layTurns_11 (by decide) rfl ?_
  obtain ⟨n_72, hm⟩ := hm
  exact B_13  n_72 md_far_1 md_queue_2 md_from_3 md_by_4 md_many_5 md_is md_next p0 p1 p2 p3 ((0 : Int32)) hm

def wp_X8_begin (md_thrown : Int32) (md_forms : Nat → Int32) (md_formMany : Nat → Int32) (md_seats : Nat → Int32) (md_now : Int32) (md_barAlways : Int32) (md_noPut : Int32) (md_far : Nat → Int32) (md_queue : Nat → Int32) (md_from : Nat → Int32) (md_by : Nat → Int32) (md_many : Int32) (md_is : Nat → Int32) (md_next : Nat → Int32) (p0 : Int32) (p1 : Int32) (p2 : Int32) (p3 : Int32) (post : Int32 → Int32 → (Nat → Int32) → (Nat → Int32) → (Nat → Int32) → (Nat → Int32) → Int32 → (Nat → Int32) → (Nat → Int32) → Prop) : Prop := wp_X8_noTurns  p0 p1 p2 p3 (fun (r_1 : Int32) => (r_1 = 0 → wp_X8_layTurns md_forms md_formMany md_seats md_now md_barAlways md_noPut md_far md_queue md_from md_by md_many md_is md_next p0 p1 p2 p3 (fun (md_far_3 : Nat → Int32) (md_queue_4 : Nat → Int32) (md_from_5 : Nat → Int32) (md_by_6 : Nat → Int32) (md_many_7 : Int32) (md_is_8 : Nat → Int32) (md_next_9 : Nat → Int32) => wp_X8_begins md_forms md_formMany md_seats md_barAlways md_noPut md_is_8 md_now p0 p1 (fun (r_10 : Int32) => (¬ r_10 = ((-2 : Int32)) → post r_10 ((0 : Int32)) md_far_3 md_queue_4 md_from_5 md_by_6 md_many_7 md_is_8 md_next_9) ∧ (r_10 = ((-2 : Int32)) → post ((-9 : Int32)) ((0 : Int32)) md_far_3 md_queue_4 md_from_5 md_by_6 md_many_7 md_is_8 md_next_9)))) ∧ (¬ r_1 = 0 → post ((-2 : Int32)) ((0 : Int32)) md_far md_queue md_from md_by md_many md_is md_next))
set_option maxHeartbeats 4000000 in
set_option maxRecDepth 100000 in
theorem c_X8_begin (l : Launch) (D : va_G) (cI cZ : ClassId) (md : Nat → Nat) (md_thrown : Int32) (md_text : Nat → Int32) (md_textSize : Int32) (md_place : Int32) (md_letter : Int32) (md_first : Int32) (md_second : Int32) (md_third : Int32) (md_side : Int32) (md_hang : Int32) (md_forms : Nat → Int32) (md_formMany : Nat → Int32) (md_seats : Nat → Int32) (md_now : Int32) (md_barAlways : Int32) (md_noPut : Int32) (md_far : Nat → Int32) (md_queue : Nat → Int32) (md_from : Nat → Int32) (md_by : Nat → Int32) (md_many : Int32) (md_is : Nat → Int32) (md_next : Nat → Int32) (md_rollSet : Nat → Int32) (md_rollAct : Nat → Int32) (md_rolls : Int32) (md_slots : Nat → Int32) (md_isKept : Nat → Int32) (p0 : Int32) (p1 : Int32) (p2 : Int32) (p3 : Int32) (post : Int32 → Int32 → (Nat → Int32) → (Nat → Int32) → (Nat → Int32) → (Nat → Int32) → Int32 → (Nat → Int32) → (Nat → Int32) → Prop) (hm : wp_X8_begin md_thrown md_forms md_formMany md_seats md_now md_barAlways md_noPut md_far md_queue md_from md_by md_many md_is md_next p0 p1 p2 p3 post) : Mi l D cI cZ yX8_begin cX8_begin 6 .int 8 196 [.ref (md 0), .int p0, .int p1, .int p2, .int p3] (W_md cI cZ md md_thrown md_text md_textSize md_place md_letter md_first md_second md_third md_side md_hang md_forms md_formMany md_seats md_now md_barAlways md_noPut md_far md_queue md_from md_by md_many md_is md_next md_rollSet md_rollAct md_rolls md_slots md_isKept) (S := Int32 × (Nat → Int32) × (Nat → Int32) × (Nat → Int32) × (Nat → Int32) × Int32 × (Nat → Int32) × (Nat → Int32)) (fun u => W_md cI cZ md (u.1) md_text md_textSize md_place md_letter md_first md_second md_third md_side md_hang md_forms md_formMany md_seats md_now md_barAlways md_noPut (u.2.1) (u.2.2.1) (u.2.2.2.1) (u.2.2.2.2.1) (u.2.2.2.2.2.1) (u.2.2.2.2.2.2.1) (u.2.2.2.2.2.2.2) md_rollSet md_rollAct md_rolls md_slots md_isKept) (fun r u => post r u.1 u.2.1 u.2.2.1 u.2.2.2.1 u.2.2.2.2.1 u.2.2.2.2.2.1 u.2.2.2.2.2.2.1 u.2.2.2.2.2.2.2) := by
  refine mk_Mi (by decide +kernel) (Nat.le_of_ble_eq_true rfl) ?_
  intro Γ hl0 hD0 hC hR
  subst hl0
  subst hD0
  have hC : CX Γ cI cZ cX8_begin RX8 6 8 196 := hC
  show VV Γ (W_md cI cZ md md_thrown md_text md_textSize md_place md_letter md_first md_second md_third md_side md_hang md_forms md_formMany md_seats md_now md_barAlways md_noPut md_far md_queue md_from md_by md_many md_is md_next md_rollSet md_rollAct md_rolls md_slots md_isKept) [(0, .ref (md 0)), (1, .int p0), (2, .int p1), (3, .int p2), (4, .int p3)] 0 []
  unfold wp_X8_begin at hm
  refine x_aload_n hC 0 dX8_begin_0 rfl ?_
  refine x_iconst hC (0 : Int32) dX8_begin_1 (by decide) ?_
  refine x_put hC 5 tyX8_ok nmX8 inX8g 0 rfl rfl 0 (by decide) fl_X8_60 rfl (ty := .int) (by decide +kernel) rfl rfl (Nat.le_of_ble_eq_true rfl) (W_md cI cZ md ((0 : Int32)) md_text md_textSize md_place md_letter md_first md_second md_third md_side md_hang md_forms md_formMany md_seats md_now md_barAlways md_noPut md_far md_queue md_from md_by md_many md_is md_next md_rollSet md_rollAct md_rolls md_slots md_isKept) rfl dX8_begin_2 ?_
  refine x_iload_n hC 1 dX8_begin_5 rfl ?_
  refine x_iload_n hC 2 dX8_begin_6 rfl ?_
  refine x_iload_n hC 3 dX8_begin_7 rfl ?_
  refine x_iload hC 4 dX8_begin_8 rfl ?_
  refine x_callSi hC _ [] [0, 1, 2, 3, 4, 5, 6, 7, 8, 9, 10, 11, 12, 13, 14] [0, 1, 2, 3, 4, 5, 6, 7, 8, 9, 10, 11, 12, 13, 14] (W_md cI cZ md ((0 : Int32)) md_text md_textSize md_place md_letter md_first md_second md_third md_side md_hang md_forms md_formMany md_seats md_now md_barAlways md_noPut md_far md_queue md_from md_by md_many md_is md_next md_rollSet md_rollAct md_rolls md_slots md_isKept) (fun _ => W_md cI cZ md ((0 : Int32)) md_text md_textSize md_place md_letter md_first md_second md_third md_side md_hang md_forms md_formMany md_seats md_now md_barAlways md_noPut md_far md_queue md_from md_by md_many md_is md_next md_rollSet md_rollAct md_rolls md_slots md_isKept) ok_X8_noTurns ml_X8_223 (c_X8_noTurns (gl Γ) (gD Γ) cI cZ   p0 p1 p2 p3 _ hm) (by decide) (by decide) rfl (Nat.le_of_ble_eq_true rfl) rfl rfl rfl rfl (by decide) rfl (fun _ => rfl) rfl dX8_begin_10 ?_
  rintro r_1 _ hm
  refine x_if_eq hC 19 dX8_begin_13 (by decide) (fun c_2 => ?_) (fun c_2 => ?_)
  · replace hm := hm.1 c_2
    refine x_aload_n hC 0 dX8_begin_19 rfl ?_
    refine x_iload_n hC 1 dX8_begin_20 rfl ?_
    refine x_iload_n hC 2 dX8_begin_21 rfl ?_
    refine x_iload_n hC 3 dX8_begin_22 rfl ?_
    refine x_iload hC 4 dX8_begin_23 rfl ?_
    refine x_callVv hC _ [0, 1, 2, 3, 4, 5, 6, 7, 8, 9, 10, 11, 12, 13, 14] [] [0, 1, 2, 3, 4, 5, 6, 7, 8, 9, 10, 11, 12, 13, 14] (([] : va_W)) (fun u => W_md cI cZ md ((0 : Int32)) md_text md_textSize md_place md_letter md_first md_second md_third md_side md_hang md_forms md_formMany md_seats md_now md_barAlways md_noPut (u.1) (u.2.1) (u.2.2.1) (u.2.2.2.1) (u.2.2.2.2.1) (u.2.2.2.2.2.1) (u.2.2.2.2.2.2) md_rollSet md_rollAct md_rolls md_slots md_isKept) ok_X8_layTurns ml_X8_227 0 5 (c_X8_layTurns (gl Γ) (gD Γ) cI cZ md ((0 : Int32)) md_text md_textSize md_place md_letter md_first md_second md_third md_side md_hang md_forms md_formMany md_seats md_now md_barAlways md_noPut md_far md_queue md_from md_by md_many md_is md_next md_rollSet md_rollAct md_rolls md_slots md_isKept p0 p1 p2 p3 _ hm) (by decide) (by decide) rfl (Nat.le_of_ble_eq_true rfl) rfl rfl rfl rfl (by decide) rfl (fun _ => rfl) rfl rfl rfl rfl dX8_begin_25 ?_
    rintro ⟨md_far_3, md_queue_4, md_from_5, md_by_6, md_many_7, md_is_8, md_next_9⟩ hm
    refine x_aload_n hC 0 dX8_begin_28 rfl ?_
    refine x_aload_n hC 0 dX8_begin_29 rfl ?_
    refine x_get hC 5 inX8g 0 rfl rfl 13 (by decide) fl_X8_140 rfl dX8_begin_30 ?_
    refine x_iload_n hC 1 dX8_begin_33 rfl ?_
    refine x_iload_n hC 2 dX8_begin_34 rfl ?_
    refine x_callVi hC _ [0, 1, 2, 3, 4, 5, 6, 7, 8, 9, 10, 11, 12, 13, 14] [] [0, 1, 2, 3, 4, 5, 6, 7, 8, 9, 10, 11, 12, 13, 14] (([] : va_W)) (fun _ => W_md cI cZ md ((0 : Int32)) md_text md_textSize md_place md_letter md_first md_second md_third md_side md_hang md_forms md_formMany md_seats md_now md_barAlways md_noPut md_far_3 md_queue_4 md_from_5 md_by_6 md_many_7 md_is_8 md_next_9 md_rollSet md_rollAct md_rolls md_slots md_isKept) ok_X8_begins ml_X8_217 0 5 (c_X8_begins (gl Γ) (gD Γ) cI cZ md ((0 : Int32)) md_text md_textSize md_place md_letter md_first md_second md_third md_side md_hang md_forms md_formMany md_seats md_now md_barAlways md_noPut md_far_3 md_queue_4 md_from_5 md_by_6 md_many_7 md_is_8 md_next_9 md_rollSet md_rollAct md_rolls md_slots md_isKept md_now p0 p1 _ hm) (by decide) (by decide) rfl (Nat.le_of_ble_eq_true rfl) rfl rfl rfl rfl (by decide) rfl (fun _ => rfl) rfl rfl rfl rfl dX8_begin_35 ?_
    rintro r_10 _ hm
    refine x_istore hC [(0, .ref (md 0)), (1, .int p0), (2, .int p1), (3, .int p2), (4, .int p3), (5, .int r_10)] [1, 2, 3, 4, 5, 0] dX8_begin_38 (by decide) rfl ?_
    refine x_iload hC 5 dX8_begin_40 rfl ?_
    refine x_bipush hC (-2 : Int32) dX8_begin_42 (by decide) ?_
    refine x_icmp_ne hC 52 dX8_begin_44 (by decide) (fun c_11 => ?_) (fun c_11 => ?_)
    · replace hm := hm.1 c_11
      refine x_iload hC 5 dX8_begin_52 rfl ?_
      exact hR r_10 ((0 : Int32), md_far_3, md_queue_4, md_from_5, md_by_6, md_many_7, md_is_8, md_next_9) [(0, .ref (md 0)), (1, .int p0), (2, .int p1), (3, .int p2), (4, .int p3), (5, .int r_10)] 54 hm rfl dX8_begin_54
    · replace hm := hm.2 c_11
      refine x_bipush hC (-9 : Int32) dX8_begin_47 (by decide) ?_
      refine x_goto hC 54 dX8_begin_49 (by decide) ?_
      exact hR ((-9 : Int32)) ((0 : Int32), md_far_3, md_queue_4, md_from_5, md_by_6, md_many_7, md_is_8, md_next_9) [(0, .ref (md 0)), (1, .int p0), (2, .int p1), (3, .int p2), (4, .int p3), (5, .int r_10)] 54 hm rfl dX8_begin_54
  · replace hm := hm.2 c_2
    refine x_bipush hC (-2 : Int32) dX8_begin_16 (by decide) ?_
    exact hR ((-2 : Int32)) ((0 : Int32), md_far, md_queue, md_from, md_by, md_many, md_is, md_next) [(0, .ref (md 0)), (1, .int p0), (2, .int p1), (3, .int p2), (4, .int p3)] 18 hm rfl dX8_begin_18

def wpJ_X8_count_80 (md_textSize : Int32) (md_forms : Nat → Int32) (md_formMany : Nat → Int32) (md_now : Int32) (md_rolls : Int32)  (post : Int32 → Int32 → Prop) (md_thrown_8 : Int32) (x1_9 : Int32) (x2_10 : Int32) (x3_11 : Int32) (x4_12 : Int32) : Prop := (x1_9 = (0 : Int32) → post md_textSize md_thrown_8) ∧ (¬ x1_9 = (0 : Int32) → (x1_9 = (1 : Int32) → post x2_10 md_thrown_8) ∧ (¬ x1_9 = (1 : Int32) → (x1_9 = (2 : Int32) → post x3_11 md_thrown_8) ∧ (¬ x1_9 = (2 : Int32) → (x1_9 = (3 : Int32) → post ((((md_now &&& ((1 : Int32))) + ((md_now >>> (((1 : Int32)) &&& 31)) &&& ((1 : Int32)))) + ((md_now >>> (((2 : Int32)) &&& 31)) &&& ((1 : Int32)))) + ((md_now >>> (((3 : Int32)) &&& 31)) &&& ((1 : Int32)))) md_thrown_8) ∧ (¬ x1_9 = (3 : Int32) → (x1_9 = (4 : Int32) → post md_rolls md_thrown_8) ∧ (¬ x1_9 = (4 : Int32) → (x1_9 = (5 : Int32) → post x4_12 md_thrown_8) ∧ (¬ x1_9 = (5 : Int32) → post ((-2 : Int32)) md_thrown_8))))))
def wpJ_X8_count_49 (md_textSize : Int32) (md_forms : Nat → Int32) (md_formMany : Nat → Int32) (md_now : Int32) (md_rolls : Int32) (K_15 : Int32 → Int32 → Int32 → Int32 → Int32 → Int32 → Prop) (post : Int32 → Int32 → Prop) (md_thrown_22 : Int32) (x1_23 : Int32) (x2_24 : Int32) (x4_25 : Int32) (x5_26 : Int32) (s0_27 : Int32) (s1_28 : Int32) : Prop := ∀ x3_29 : Int32, x3_29 = s0_27 + s1_28 → wp_X8_isForce md_forms md_now x5_26 (fun (r_30 : Int32) => (r_30 = 0 → ∀ x4_32 : Int32, x4_32 = x4_25 + ((0 : Int32)) → ∀ x5_33 : Int32, x5_33 = x5_26 + (1 : Int32) → K_15 md_thrown_22 x1_23 x2_24 x3_29 x4_32 x5_33) ∧ (¬ r_30 = 0 → ∀ x4_34 : Int32, x4_34 = x4_25 + ((1 : Int32)) → ∀ x5_35 : Int32, x5_35 = x5_26 + (1 : Int32) → K_15 md_thrown_22 x1_23 x2_24 x3_29 x4_34 x5_35))
def wpL_X8_count_15 (md_textSize : Int32) (md_forms : Nat → Int32) (md_formMany : Nat → Int32) (md_now : Int32) (md_rolls : Int32)  (post : Int32 → Int32 → Prop) : Nat → Int32 → Int32 → Int32 → Int32 → Int32 → Int32 → Prop
  | 0, _, _, _, _, _, _ => False
  | n + 1, md_thrown_1, x1_2, x2_3, x3_4, x4_5, x5_6 => (((5 : Int32)) ≤ x5_6 → wpJ_X8_count_80 md_textSize md_forms md_formMany md_now md_rolls  post md_thrown_1 x1_2 x2_3 x3_4 x4_5) ∧ (¬ ((5 : Int32)) ≤ x5_6 → vp_in x5_6 5 ∧ (∀ x2_19 : Int32, x2_19 = x2_3 + (md_formMany x5_6.toNatClampNeg) → wp_X8_formOf  md_now x5_6 (fun (r_20 : Int32) => (r_20 ≤ 0 → wpJ_X8_count_49 md_textSize md_forms md_formMany md_now md_rolls (fun y0 y1 y2 y3 y4 y5 => wpL_X8_count_15 md_textSize md_forms md_formMany md_now md_rolls  post n y0 y1 y2 y3 y4 y5) post md_thrown_1 x1_2 x2_19 x4_5 x5_6 x3_4 ((0 : Int32))) ∧ (¬ r_20 ≤ 0 → wpJ_X8_count_49 md_textSize md_forms md_formMany md_now md_rolls (fun y0 y1 y2 y3 y4 y5 => wpL_X8_count_15 md_textSize md_forms md_formMany md_now md_rolls  post n y0 y1 y2 y3 y4 y5) post md_thrown_1 x1_2 x2_19 x4_5 x5_6 x3_4 ((1 : Int32))))))
def wp_X8_count (md_thrown : Int32) (md_textSize : Int32) (md_forms : Nat → Int32) (md_formMany : Nat → Int32) (md_now : Int32) (md_rolls : Int32) (p0 : Int32) (post : Int32 → Int32 → Prop) : Prop := ∃ k15, wpL_X8_count_15 md_textSize md_forms md_formMany md_now md_rolls  post k15 ((0 : Int32)) p0 ((0 : Int32)) ((0 : Int32)) ((0 : Int32)) ((0 : Int32))
set_option maxHeartbeats 4000000 in
set_option maxRecDepth 100000 in
theorem c_X8_count (l : Launch) (D : va_G) (cI cZ : ClassId) (md : Nat → Nat) (md_thrown : Int32) (md_text : Nat → Int32) (md_textSize : Int32) (md_place : Int32) (md_letter : Int32) (md_first : Int32) (md_second : Int32) (md_third : Int32) (md_side : Int32) (md_hang : Int32) (md_forms : Nat → Int32) (md_formMany : Nat → Int32) (md_seats : Nat → Int32) (md_now : Int32) (md_barAlways : Int32) (md_noPut : Int32) (md_far : Nat → Int32) (md_queue : Nat → Int32) (md_from : Nat → Int32) (md_by : Nat → Int32) (md_many : Int32) (md_is : Nat → Int32) (md_next : Nat → Int32) (md_rollSet : Nat → Int32) (md_rollAct : Nat → Int32) (md_rolls : Int32) (md_slots : Nat → Int32) (md_isKept : Nat → Int32) (p0 : Int32) (post : Int32 → Int32 → Prop) (hm : wp_X8_count md_thrown md_textSize md_forms md_formMany md_now md_rolls p0 post) : Mi l D cI cZ yX8_count cX8_count 6 .int 3 67 [.ref (md 0), .int p0] (W_md cI cZ md md_thrown md_text md_textSize md_place md_letter md_first md_second md_third md_side md_hang md_forms md_formMany md_seats md_now md_barAlways md_noPut md_far md_queue md_from md_by md_many md_is md_next md_rollSet md_rollAct md_rolls md_slots md_isKept) (S := Int32) (fun u => W_md cI cZ md u md_text md_textSize md_place md_letter md_first md_second md_third md_side md_hang md_forms md_formMany md_seats md_now md_barAlways md_noPut md_far md_queue md_from md_by md_many md_is md_next md_rollSet md_rollAct md_rolls md_slots md_isKept) (fun r u => post r u) := by
  refine mk_Mi (by decide +kernel) (Nat.le_of_ble_eq_true rfl) ?_
  intro Γ hl0 hD0 hC hR
  subst hl0
  subst hD0
  have hC : CX Γ cI cZ cX8_count RX8 6 3 67 := hC
  show VV Γ (W_md cI cZ md md_thrown md_text md_textSize md_place md_letter md_first md_second md_third md_side md_hang md_forms md_formMany md_seats md_now md_barAlways md_noPut md_far md_queue md_from md_by md_many md_is md_next md_rollSet md_rollAct md_rolls md_slots md_isKept) [(0, .ref (md 0)), (1, .int p0)] 0 []
  have B_80 : ∀ (md_thrown_8 : Int32) (x1_9 : Int32) (x2_10 : Int32) (x3_11 : Int32) (x4_12 : Int32), wpJ_X8_count_80 md_textSize md_forms md_formMany md_now md_rolls  post md_thrown_8 x1_9 x2_10 x3_11 x4_12 → VV Γ (W_md cI cZ md md_thrown_8 md_text md_textSize md_place md_letter md_first md_second md_third md_side md_hang md_forms md_formMany md_seats md_now md_barAlways md_noPut md_far md_queue md_from md_by md_many md_is md_next md_rollSet md_rollAct md_rolls md_slots md_isKept) [(0, .ref (md 0)), (1, .int x1_9), (2, .int x2_10), (3, .int x3_11), (4, .int x4_12)] 80 [] := by
    intro  md_thrown_8 x1_9 x2_10 x3_11 x4_12 hm
    unfold wpJ_X8_count_80 at hm
    refine x_iload_n hC 1 dX8_count_80 rfl ?_
    by_cases c_13 : x1_9 = (0 : Int32)
    · replace hm := hm.1 c_13
      refine x_tabIn hC 120 dX8_count_81 (by rw [c_13]; decide) (by rw [c_13]; decide) (by rw [c_13]; rfl) (by decide) ?_
      refine x_aload_n hC 0 dX8_count_120 rfl ?_
      refine x_get hC 5 inX8g 0 rfl rfl 2 (by decide) fl_X8_81 rfl dX8_count_121 ?_
      exact hR md_textSize md_thrown_8 [(0, .ref (md 0)), (1, .int x1_9), (2, .int x2_10), (3, .int x3_11), (4, .int x4_12)] 124 hm rfl dX8_count_124
    · replace hm := hm.2 c_13
      by_cases c_14 : x1_9 = (1 : Int32)
      · replace hm := hm.1 c_14
        refine x_tabIn hC 125 dX8_count_81 (by rw [c_14]; decide) (by rw [c_14]; decide) (by rw [c_14]; rfl) (by decide) ?_
        refine x_iload_n hC 2 dX8_count_125 rfl ?_
        exact hR x2_10 md_thrown_8 [(0, .ref (md 0)), (1, .int x1_9), (2, .int x2_10), (3, .int x3_11), (4, .int x4_12)] 126 hm rfl dX8_count_126
      · replace hm := hm.2 c_14
        by_cases c_15 : x1_9 = (2 : Int32)
        · replace hm := hm.1 c_15
          refine x_tabIn hC 127 dX8_count_81 (by rw [c_15]; decide) (by rw [c_15]; decide) (by rw [c_15]; rfl) (by decide) ?_
          refine x_iload_n hC 3 dX8_count_127 rfl ?_
          exact hR x3_11 md_thrown_8 [(0, .ref (md 0)), (1, .int x1_9), (2, .int x2_10), (3, .int x3_11), (4, .int x4_12)] 128 hm rfl dX8_count_128
        · replace hm := hm.2 c_15
          by_cases c_16 : x1_9 = (3 : Int32)
          · replace hm := hm.1 c_16
            refine x_tabIn hC 129 dX8_count_81 (by rw [c_16]; decide) (by rw [c_16]; decide) (by rw [c_16]; rfl) (by decide) ?_
            refine x_aload_n hC 0 dX8_count_129 rfl ?_
            refine x_get hC 5 inX8g 0 rfl rfl 13 (by decide) fl_X8_140 rfl dX8_count_130 ?_
            refine x_iconst hC (1 : Int32) dX8_count_133 (by decide) ?_
            refine x_iand hC dX8_count_134 ?_
            refine x_aload_n hC 0 dX8_count_135 rfl ?_
            refine x_get hC 5 inX8g 0 rfl rfl 13 (by decide) fl_X8_140 rfl dX8_count_136 ?_
            refine x_iconst hC (1 : Int32) dX8_count_139 (by decide) ?_
            refine x_ishr hC dX8_count_140 ?_
            refine x_iconst hC (1 : Int32) dX8_count_141 (by decide) ?_
            refine x_iand hC dX8_count_142 ?_
            refine x_iadd hC dX8_count_143 ?_
            refine x_aload_n hC 0 dX8_count_144 rfl ?_
            refine x_get hC 5 inX8g 0 rfl rfl 13 (by decide) fl_X8_140 rfl dX8_count_145 ?_
            refine x_iconst hC (2 : Int32) dX8_count_148 (by decide) ?_
            refine x_ishr hC dX8_count_149 ?_
            refine x_iconst hC (1 : Int32) dX8_count_150 (by decide) ?_
            refine x_iand hC dX8_count_151 ?_
            refine x_iadd hC dX8_count_152 ?_
            refine x_aload_n hC 0 dX8_count_153 rfl ?_
            refine x_get hC 5 inX8g 0 rfl rfl 13 (by decide) fl_X8_140 rfl dX8_count_154 ?_
            refine x_iconst hC (3 : Int32) dX8_count_157 (by decide) ?_
            refine x_ishr hC dX8_count_158 ?_
            refine x_iconst hC (1 : Int32) dX8_count_159 (by decide) ?_
            refine x_iand hC dX8_count_160 ?_
            refine x_iadd hC dX8_count_161 ?_
            exact hR ((((md_now &&& ((1 : Int32))) + ((md_now >>> (((1 : Int32)) &&& 31)) &&& ((1 : Int32)))) + ((md_now >>> (((2 : Int32)) &&& 31)) &&& ((1 : Int32)))) + ((md_now >>> (((3 : Int32)) &&& 31)) &&& ((1 : Int32)))) md_thrown_8 [(0, .ref (md 0)), (1, .int x1_9), (2, .int x2_10), (3, .int x3_11), (4, .int x4_12)] 162 hm rfl dX8_count_162
          · replace hm := hm.2 c_16
            by_cases c_17 : x1_9 = (4 : Int32)
            · replace hm := hm.1 c_17
              refine x_tabIn hC 163 dX8_count_81 (by rw [c_17]; decide) (by rw [c_17]; decide) (by rw [c_17]; rfl) (by decide) ?_
              refine x_aload_n hC 0 dX8_count_163 rfl ?_
              refine x_get hC 5 inX8g 0 rfl rfl 25 (by decide) fl_X8_234 rfl dX8_count_164 ?_
              exact hR md_rolls md_thrown_8 [(0, .ref (md 0)), (1, .int x1_9), (2, .int x2_10), (3, .int x3_11), (4, .int x4_12)] 167 hm rfl dX8_count_167
            · replace hm := hm.2 c_17
              by_cases c_18 : x1_9 = (5 : Int32)
              · replace hm := hm.1 c_18
                refine x_tabIn hC 168 dX8_count_81 (by rw [c_18]; decide) (by rw [c_18]; decide) (by rw [c_18]; rfl) (by decide) ?_
                refine x_iload hC 4 dX8_count_168 rfl ?_
                exact hR x4_12 md_thrown_8 [(0, .ref (md 0)), (1, .int x1_9), (2, .int x2_10), (3, .int x3_11), (4, .int x4_12)] 170 hm rfl dX8_count_170
              · replace hm := hm.2 c_18
                refine x_tabOut hC 171 dX8_count_81 (by have q0 := lv_neT c_13 (show ((0 : Int32)).toInt = 0 from rfl); have q1 := lv_neT c_14 (show ((1 : Int32)).toInt = 1 from rfl); have q2 := lv_neT c_15 (show ((2 : Int32)).toInt = 2 from rfl); have q3 := lv_neT c_16 (show ((3 : Int32)).toInt = 3 from rfl); have q4 := lv_neT c_17 (show ((4 : Int32)).toInt = 4 from rfl); have q5 := lv_neT c_18 (show ((5 : Int32)).toInt = 5 from rfl); omega) (by decide) ?_
                refine x_bipush hC (-2 : Int32) dX8_count_171 (by decide) ?_
                exact hR ((-2 : Int32)) md_thrown_8 [(0, .ref (md 0)), (1, .int x1_9), (2, .int x2_10), (3, .int x3_11), (4, .int x4_12)] 173 hm rfl dX8_count_173
  have B_49 : ∀ (K_15 : Int32 → Int32 → Int32 → Int32 → Int32 → Int32 → Prop) (hK_15 : ∀ (md_thrown_1 : Int32) (x1_2 : Int32) (x2_3 : Int32) (x3_4 : Int32) (x4_5 : Int32) (x5_6 : Int32), K_15 md_thrown_1 x1_2 x2_3 x3_4 x4_5 x5_6 → VV Γ (W_md cI cZ md md_thrown_1 md_text md_textSize md_place md_letter md_first md_second md_third md_side md_hang md_forms md_formMany md_seats md_now md_barAlways md_noPut md_far md_queue md_from md_by md_many md_is md_next md_rollSet md_rollAct md_rolls md_slots md_isKept) [(0, .ref (md 0)), (1, .int x1_2), (2, .int x2_3), (3, .int x3_4), (4, .int x4_5), (5, .int x5_6)] 15 []) (md_thrown_22 : Int32) (x1_23 : Int32) (x2_24 : Int32) (x4_25 : Int32) (x5_26 : Int32) (s0_27 : Int32) (s1_28 : Int32), wpJ_X8_count_49 md_textSize md_forms md_formMany md_now md_rolls K_15 post md_thrown_22 x1_23 x2_24 x4_25 x5_26 s0_27 s1_28 → VV Γ (W_md cI cZ md md_thrown_22 md_text md_textSize md_place md_letter md_first md_second md_third md_side md_hang md_forms md_formMany md_seats md_now md_barAlways md_noPut md_far md_queue md_from md_by md_many md_is md_next md_rollSet md_rollAct md_rolls md_slots md_isKept) [(0, .ref (md 0)), (1, .int x1_23), (2, .int x2_24), (4, .int x4_25), (5, .int x5_26)] 49 [.int s1_28, .int s0_27] := by
    intro K_15 hK_15 md_thrown_22 x1_23 x2_24 x4_25 x5_26 s0_27 s1_28 hm
    unfold wpJ_X8_count_49 at hm
    refine x_iadd hC dX8_count_49 ?_
    refine x_top (fun x3_29 ex3_29 => ?_)
    replace hm := hm x3_29 ex3_29
    refine x_istore_n hC [(0, .ref (md 0)), (1, .int x1_23), (2, .int x2_24), (3, .int x3_29), (4, .int x4_25), (5, .int x5_26)] [1, 2, 3, 0, 4, 5] dX8_count_50 (by decide) rfl ?_
    refine x_iload hC 4 dX8_count_51 rfl ?_
    refine x_aload_n hC 0 dX8_count_53 rfl ?_
    refine x_aload_n hC 0 dX8_count_54 rfl ?_
    refine x_get hC 5 inX8g 0 rfl rfl 13 (by decide) fl_X8_140 rfl dX8_count_55 ?_
    refine x_iload hC 5 dX8_count_58 rfl ?_
    refine x_callVi hC _ [0, 1, 2, 3, 4, 5, 6, 7, 8, 9, 10, 11, 12, 13, 14] [] [0, 1, 2, 3, 4, 5, 6, 7, 8, 9, 10, 11, 12, 13, 14] (([] : va_W)) (fun _ => W_md cI cZ md md_thrown_22 md_text md_textSize md_place md_letter md_first md_second md_third md_side md_hang md_forms md_formMany md_seats md_now md_barAlways md_noPut md_far md_queue md_from md_by md_many md_is md_next md_rollSet md_rollAct md_rolls md_slots md_isKept) ok_X8_isForce ml_X8_168 0 5 (c_X8_isForce (gl Γ) (gD Γ) cI cZ md md_thrown_22 md_text md_textSize md_place md_letter md_first md_second md_third md_side md_hang md_forms md_formMany md_seats md_now md_barAlways md_noPut md_far md_queue md_from md_by md_many md_is md_next md_rollSet md_rollAct md_rolls md_slots md_isKept md_now x5_26 _ hm) (by decide) (by decide) rfl (Nat.le_of_ble_eq_true rfl) rfl rfl rfl rfl (by decide) rfl (fun _ => rfl) rfl rfl rfl rfl dX8_count_60 ?_
    rintro r_30 _ hm
    refine x_if_eq hC 70 dX8_count_63 (by decide) (fun c_31 => ?_) (fun c_31 => ?_)
    · replace hm := hm.1 c_31
      refine x_iconst hC (0 : Int32) dX8_count_70 (by decide) ?_
      refine x_iadd hC dX8_count_71 ?_
      refine x_top (fun x4_32 ex4_32 => ?_)
      replace hm := hm x4_32 ex4_32
      refine x_istore hC [(0, .ref (md 0)), (1, .int x1_23), (2, .int x2_24), (3, .int x3_29), (4, .int x4_32), (5, .int x5_26)] [1, 2, 3, 4, 0, 5] dX8_count_72 (by decide) rfl ?_
      obtain ⟨x5_33, ex5_33⟩ : ∃ y : Int32, y = x5_26 + (1 : Int32) := ⟨_, rfl⟩
      replace hm := hm x5_33 ex5_33
      refine x_iinc hC 5 x5_33 [(0, .ref (md 0)), (1, .int x1_23), (2, .int x2_24), (3, .int x3_29), (4, .int x4_32), (5, .int x5_33)] [1, 2, 3, 4, 5, 0] dX8_count_74 rfl (by rw [ex5_33]; rfl) (by decide) rfl ?_
      refine x_goto hC 15 dX8_count_77 (by decide) ?_
      exact hK_15 md_thrown_22 x1_23 x2_24 x3_29 x4_32 x5_33 hm
    · replace hm := hm.2 c_31
      refine x_iconst hC (1 : Int32) dX8_count_66 (by decide) ?_
      refine x_goto hC 71 dX8_count_67 (by decide) ?_
      refine x_iadd hC dX8_count_71 ?_
      refine x_top (fun x4_34 ex4_34 => ?_)
      replace hm := hm x4_34 ex4_34
      refine x_istore hC [(0, .ref (md 0)), (1, .int x1_23), (2, .int x2_24), (3, .int x3_29), (4, .int x4_34), (5, .int x5_26)] [1, 2, 3, 4, 0, 5] dX8_count_72 (by decide) rfl ?_
      obtain ⟨x5_35, ex5_35⟩ : ∃ y : Int32, y = x5_26 + (1 : Int32) := ⟨_, rfl⟩
      replace hm := hm x5_35 ex5_35
      refine x_iinc hC 5 x5_35 [(0, .ref (md 0)), (1, .int x1_23), (2, .int x2_24), (3, .int x3_29), (4, .int x4_34), (5, .int x5_35)] [1, 2, 3, 4, 5, 0] dX8_count_74 rfl (by rw [ex5_35]; rfl) (by decide) rfl ?_
      refine x_goto hC 15 dX8_count_77 (by decide) ?_
      exact hK_15 md_thrown_22 x1_23 x2_24 x3_29 x4_34 x5_35 hm
  have B_15 : ∀ (n : Nat) (md_thrown_1 : Int32) (x1_2 : Int32) (x2_3 : Int32) (x3_4 : Int32) (x4_5 : Int32) (x5_6 : Int32), wpL_X8_count_15 md_textSize md_forms md_formMany md_now md_rolls  post n md_thrown_1 x1_2 x2_3 x3_4 x4_5 x5_6 → VV Γ (W_md cI cZ md md_thrown_1 md_text md_textSize md_place md_letter md_first md_second md_third md_side md_hang md_forms md_formMany md_seats md_now md_barAlways md_noPut md_far md_queue md_from md_by md_many md_is md_next md_rollSet md_rollAct md_rolls md_slots md_isKept) [(0, .ref (md 0)), (1, .int x1_2), (2, .int x2_3), (3, .int x3_4), (4, .int x4_5), (5, .int x5_6)] 15 [] := by
    intro  n
    induction n with
    | zero => intro md_thrown_1 x1_2 x2_3 x3_4 x4_5 x5_6 hm; rw [wpL_X8_count_15] at hm; exact hm.elim
    | succ n ih =>
      intro md_thrown_1 x1_2 x2_3 x3_4 x4_5 x5_6 hm
      rw [wpL_X8_count_15] at hm
      refine x_iload hC 5 dX8_count_15 rfl ?_
      refine x_iconst hC (5 : Int32) dX8_count_17 (by decide) ?_
      refine x_icmp_ge hC 80 dX8_count_18 (by decide) (fun c_7 => ?_) (fun c_7 => ?_)
      · replace hm := hm.1 c_7
        refine x_lsub [0, 1, 2, 3, 4] rfl ?_
        exact B_80   md_thrown_1 x1_2 x2_3 x3_4 x4_5 hm
      · replace hm := hm.2 c_7
        refine x_iload_n hC 2 dX8_count_21 rfl ?_
        refine x_aload_n hC 0 dX8_count_22 rfl ?_
        refine x_get hC 5 inX8g 0 rfl rfl 11 (by decide) fl_X8_16 rfl dX8_count_23 ?_
        refine x_iload hC 5 dX8_count_26 rfl ?_
        refine x_iald hC 3 rfl hm.1 dX8_count_28 ?_
        replace hm := hm.2
        refine x_iadd hC dX8_count_29 ?_
        refine x_top (fun x2_19 ex2_19 => ?_)
        replace hm := hm x2_19 ex2_19
        refine x_istore_n hC [(0, .ref (md 0)), (1, .int x1_2), (2, .int x2_19), (3, .int x3_4), (4, .int x4_5), (5, .int x5_6)] [1, 2, 0, 3, 4, 5] dX8_count_30 (by decide) rfl ?_
        refine x_iload_n hC 3 dX8_count_31 rfl ?_
        refine x_aload_n hC 0 dX8_count_32 rfl ?_
        refine x_get hC 5 inX8g 0 rfl rfl 13 (by decide) fl_X8_140 rfl dX8_count_33 ?_
        refine x_iload hC 5 dX8_count_36 rfl ?_
        refine x_callSi hC _ [] [0, 1, 2, 3, 4, 5, 6, 7, 8, 9, 10, 11, 12, 13, 14] [0, 1, 2, 3, 4, 5, 6, 7, 8, 9, 10, 11, 12, 13, 14] (W_md cI cZ md md_thrown_1 md_text md_textSize md_place md_letter md_first md_second md_third md_side md_hang md_forms md_formMany md_seats md_now md_barAlways md_noPut md_far md_queue md_from md_by md_many md_is md_next md_rollSet md_rollAct md_rolls md_slots md_isKept) (fun _ => W_md cI cZ md md_thrown_1 md_text md_textSize md_place md_letter md_first md_second md_third md_side md_hang md_forms md_formMany md_seats md_now md_barAlways md_noPut md_far md_queue md_from md_by md_many md_is md_next md_rollSet md_rollAct md_rolls md_slots md_isKept) ok_X8_formOf ml_X8_155 (c_X8_formOf (gl Γ) (gD Γ) cI cZ   md_now x5_6 _ hm) (by decide) (by decide) rfl (Nat.le_of_ble_eq_true rfl) rfl rfl rfl rfl (by decide) rfl (fun _ => rfl) rfl dX8_count_38 ?_
        rintro r_20 _ hm
        refine x_if_le hC 48 dX8_count_41 (by decide) (fun c_21 => ?_) (fun c_21 => ?_)
        · replace hm := hm.1 c_21
          refine x_iconst hC (0 : Int32) dX8_count_48 (by decide) ?_
          refine x_lsub [0, 1, 2, 4, 5] rfl ?_
          exact B_49 (fun y0 y1 y2 y3 y4 y5 => wpL_X8_count_15 md_textSize md_forms md_formMany md_now md_rolls  post n y0 y1 y2 y3 y4 y5) ih  md_thrown_1 x1_2 x2_19 x4_5 x5_6 x3_4 ((0 : Int32)) hm
        · replace hm := hm.2 c_21
          refine x_iconst hC (1 : Int32) dX8_count_44 (by decide) ?_
          refine x_goto hC 49 dX8_count_45 (by decide) ?_
          refine x_lsub [0, 1, 2, 4, 5] rfl ?_
          exact B_49 (fun y0 y1 y2 y3 y4 y5 => wpL_X8_count_15 md_textSize md_forms md_formMany md_now md_rolls  post n y0 y1 y2 y3 y4 y5) ih  md_thrown_1 x1_2 x2_19 x4_5 x5_6 x3_4 ((1 : Int32)) hm
  unfold wp_X8_count at hm
  refine x_aload_n hC 0 dX8_count_0 rfl ?_
  refine x_iconst hC (0 : Int32) dX8_count_1 (by decide) ?_
  refine x_put hC 5 tyX8_ok nmX8 inX8g 0 rfl rfl 0 (by decide) fl_X8_60 rfl (ty := .int) (by decide +kernel) rfl rfl (Nat.le_of_ble_eq_true rfl) (W_md cI cZ md ((0 : Int32)) md_text md_textSize md_place md_letter md_first md_second md_third md_side md_hang md_forms md_formMany md_seats md_now md_barAlways md_noPut md_far md_queue md_from md_by md_many md_is md_next md_rollSet md_rollAct md_rolls md_slots md_isKept) rfl dX8_count_2 ?_
  refine x_iconst hC (0 : Int32) dX8_count_5 (by decide) ?_
  refine x_istore_n hC [(0, .ref (md 0)), (1, .int p0), (2, .int ((0 : Int32)))] [1, 2, 0] dX8_count_6 (by decide) rfl ?_
  refine x_iconst hC (0 : Int32) dX8_count_7 (by decide) ?_
  refine x_istore_n hC [(0, .ref (md 0)), (1, .int p0), (2, .int ((0 : Int32))), (3, .int ((0 : Int32)))] [1, 2, 3, 0] dX8_count_8 (by decide) rfl ?_
  refine x_iconst hC (0 : Int32) dX8_count_9 (by decide) ?_
  refine x_istore hC [(0, .ref (md 0)), (1, .int p0), (2, .int ((0 : Int32))), (3, .int ((0 : Int32))), (4, .int ((0 : Int32)))] [1, 2, 3, 4, 0] dX8_count_10 (by decide) rfl ?_
  refine x_iconst hC (0 : Int32) dX8_count_12 (by decide) ?_
  refine x_istore hC [(0, .ref (md 0)), (1, .int p0), (2, .int ((0 : Int32))), (3, .int ((0 : Int32))), (4, .int ((0 : Int32))), (5, .int ((0 : Int32)))] [1, 2, 3, 4, 5, 0] dX8_count_13 (by decide) rfl ?_
  obtain ⟨n_36, hm⟩ := hm
  exact B_15  n_36 ((0 : Int32)) p0 ((0 : Int32)) ((0 : Int32)) ((0 : Int32)) ((0 : Int32)) hm

def wp_X8_isAt (md_text : Nat → Int32) (md_textSize : Int32) (md_place : Int32) (p0 : Int32) (post : Int32 → Prop) : Prop := (md_textSize ≤ md_place → post ((0 : Int32)) ) ∧ (¬ md_textSize ≤ md_place → vp_in md_place 20 ∧ ((¬ (md_text md_place.toNatClampNeg) = p0 → post ((0 : Int32)) ) ∧ ((md_text md_place.toNatClampNeg) = p0 → post ((1 : Int32)) )))
set_option maxHeartbeats 4000000 in
set_option maxRecDepth 100000 in
theorem c_X8_isAt (l : Launch) (D : va_G) (cI cZ : ClassId) (md : Nat → Nat) (md_thrown : Int32) (md_text : Nat → Int32) (md_textSize : Int32) (md_place : Int32) (md_letter : Int32) (md_first : Int32) (md_second : Int32) (md_third : Int32) (md_side : Int32) (md_hang : Int32) (md_forms : Nat → Int32) (md_formMany : Nat → Int32) (md_seats : Nat → Int32) (md_now : Int32) (md_barAlways : Int32) (md_noPut : Int32) (md_far : Nat → Int32) (md_queue : Nat → Int32) (md_from : Nat → Int32) (md_by : Nat → Int32) (md_many : Int32) (md_is : Nat → Int32) (md_next : Nat → Int32) (md_rollSet : Nat → Int32) (md_rollAct : Nat → Int32) (md_rolls : Int32) (md_slots : Nat → Int32) (md_isKept : Nat → Int32) (p0 : Int32) (post : Int32 → Prop) (hm : wp_X8_isAt md_text md_textSize md_place p0 post) : Mi l D cI cZ yX8_isAt cX8_isAt 2 .boolean 0 0 [.ref (md 0), .int p0] (W_md cI cZ md md_thrown md_text md_textSize md_place md_letter md_first md_second md_third md_side md_hang md_forms md_formMany md_seats md_now md_barAlways md_noPut md_far md_queue md_from md_by md_many md_is md_next md_rollSet md_rollAct md_rolls md_slots md_isKept) (S := Unit) (fun _ => W_md cI cZ md md_thrown md_text md_textSize md_place md_letter md_first md_second md_third md_side md_hang md_forms md_formMany md_seats md_now md_barAlways md_noPut md_far md_queue md_from md_by md_many md_is md_next md_rollSet md_rollAct md_rolls md_slots md_isKept) (fun r _ => post r ) := by
  refine mk_Mi (by decide +kernel) (Nat.le_of_ble_eq_true rfl) ?_
  intro Γ hl0 hD0 hC hR
  subst hl0
  subst hD0
  have hC : CX Γ cI cZ cX8_isAt RX8 2 0 0 := hC
  show VV Γ (W_md cI cZ md md_thrown md_text md_textSize md_place md_letter md_first md_second md_third md_side md_hang md_forms md_formMany md_seats md_now md_barAlways md_noPut md_far md_queue md_from md_by md_many md_is md_next md_rollSet md_rollAct md_rolls md_slots md_isKept) [(0, .ref (md 0)), (1, .int p0)] 0 []
  unfold wp_X8_isAt at hm
  refine x_aload_n hC 0 dX8_isAt_0 rfl ?_
  refine x_get hC 5 inX8g 0 rfl rfl 3 (by decide) fl_X8_84 rfl dX8_isAt_1 ?_
  refine x_aload_n hC 0 dX8_isAt_4 rfl ?_
  refine x_get hC 5 inX8g 0 rfl rfl 2 (by decide) fl_X8_81 rfl dX8_isAt_5 ?_
  refine x_icmp_ge hC 28 dX8_isAt_8 (by decide) (fun c_1 => ?_) (fun c_1 => ?_)
  · replace hm := hm.1 c_1
    refine x_iconst hC (0 : Int32) dX8_isAt_28 (by decide) ?_
    exact hR ((0 : Int32)) () [(0, .ref (md 0)), (1, .int p0)] 29 hm rfl dX8_isAt_29
  · replace hm := hm.2 c_1
    refine x_aload_n hC 0 dX8_isAt_11 rfl ?_
    refine x_get hC 5 inX8g 0 rfl rfl 1 (by decide) fl_X8_7 rfl dX8_isAt_12 ?_
    refine x_aload_n hC 0 dX8_isAt_15 rfl ?_
    refine x_get hC 5 inX8g 0 rfl rfl 3 (by decide) fl_X8_84 rfl dX8_isAt_16 ?_
    refine x_iald hC 1 rfl hm.1 dX8_isAt_19 ?_
    replace hm := hm.2
    refine x_iload_n hC 1 dX8_isAt_20 rfl ?_
    refine x_icmp_ne hC 28 dX8_isAt_21 (by decide) (fun c_2 => ?_) (fun c_2 => ?_)
    · replace hm := hm.1 c_2
      refine x_iconst hC (0 : Int32) dX8_isAt_28 (by decide) ?_
      exact hR ((0 : Int32)) () [(0, .ref (md 0)), (1, .int p0)] 29 hm rfl dX8_isAt_29
    · replace hm := hm.2 c_2
      refine x_iconst hC (1 : Int32) dX8_isAt_24 (by decide) ?_
      refine x_goto hC 29 dX8_isAt_25 (by decide) ?_
      exact hR ((1 : Int32)) () [(0, .ref (md 0)), (1, .int p0)] 29 hm rfl dX8_isAt_29

def wp_X8_sign (md_text : Nat → Int32) (md_textSize : Int32) (md_place : Int32) (p0 : Int32) (post : Int32 → Int32 → Prop) : Prop := wp_X8_isAt md_text md_textSize md_place p0 (fun (r_1 : Int32) => (r_1 = 0 → ∀ v_3 : Int32, v_3 = md_place + ((0 : Int32)) → isB r_1 ∧ post r_1 v_3) ∧ (¬ r_1 = 0 → ∀ v_4 : Int32, v_4 = md_place + ((1 : Int32)) → isB r_1 ∧ post r_1 v_4))
set_option maxHeartbeats 4000000 in
set_option maxRecDepth 100000 in
theorem c_X8_sign (l : Launch) (D : va_G) (cI cZ : ClassId) (md : Nat → Nat) (md_thrown : Int32) (md_text : Nat → Int32) (md_textSize : Int32) (md_place : Int32) (md_letter : Int32) (md_first : Int32) (md_second : Int32) (md_third : Int32) (md_side : Int32) (md_hang : Int32) (md_forms : Nat → Int32) (md_formMany : Nat → Int32) (md_seats : Nat → Int32) (md_now : Int32) (md_barAlways : Int32) (md_noPut : Int32) (md_far : Nat → Int32) (md_queue : Nat → Int32) (md_from : Nat → Int32) (md_by : Nat → Int32) (md_many : Int32) (md_is : Nat → Int32) (md_next : Nat → Int32) (md_rollSet : Nat → Int32) (md_rollAct : Nat → Int32) (md_rolls : Int32) (md_slots : Nat → Int32) (md_isKept : Nat → Int32) (p0 : Int32) (post : Int32 → Int32 → Prop) (hm : wp_X8_sign md_text md_textSize md_place p0 post) : Mi l D cI cZ yX8_sign cX8_sign 3 .boolean 1 21 [.ref (md 0), .int p0] (W_md cI cZ md md_thrown md_text md_textSize md_place md_letter md_first md_second md_third md_side md_hang md_forms md_formMany md_seats md_now md_barAlways md_noPut md_far md_queue md_from md_by md_many md_is md_next md_rollSet md_rollAct md_rolls md_slots md_isKept) (S := Int32) (fun u => W_md cI cZ md md_thrown md_text md_textSize u md_letter md_first md_second md_third md_side md_hang md_forms md_formMany md_seats md_now md_barAlways md_noPut md_far md_queue md_from md_by md_many md_is md_next md_rollSet md_rollAct md_rolls md_slots md_isKept) (fun r u => post r u) := by
  refine mk_Mi (by decide +kernel) (Nat.le_of_ble_eq_true rfl) ?_
  intro Γ hl0 hD0 hC hR
  subst hl0
  subst hD0
  have hC : CX Γ cI cZ cX8_sign RX8 3 1 21 := hC
  show VV Γ (W_md cI cZ md md_thrown md_text md_textSize md_place md_letter md_first md_second md_third md_side md_hang md_forms md_formMany md_seats md_now md_barAlways md_noPut md_far md_queue md_from md_by md_many md_is md_next md_rollSet md_rollAct md_rolls md_slots md_isKept) [(0, .ref (md 0)), (1, .int p0)] 0 []
  unfold wp_X8_sign at hm
  refine x_aload_n hC 0 dX8_sign_0 rfl ?_
  refine x_iload_n hC 1 dX8_sign_1 rfl ?_
  refine x_callVi hC _ [0, 1, 2, 3, 4, 5, 6, 7, 8, 9, 10, 11, 12, 13, 14] [] [0, 1, 2, 3, 4, 5, 6, 7, 8, 9, 10, 11, 12, 13, 14] (([] : va_W)) (fun _ => W_md cI cZ md md_thrown md_text md_textSize md_place md_letter md_first md_second md_third md_side md_hang md_forms md_formMany md_seats md_now md_barAlways md_noPut md_far md_queue md_from md_by md_many md_is md_next md_rollSet md_rollAct md_rolls md_slots md_isKept) ok_X8_isAt ml_X8_95 0 5 (c_X8_isAt (gl Γ) (gD Γ) cI cZ md md_thrown md_text md_textSize md_place md_letter md_first md_second md_third md_side md_hang md_forms md_formMany md_seats md_now md_barAlways md_noPut md_far md_queue md_from md_by md_many md_is md_next md_rollSet md_rollAct md_rolls md_slots md_isKept p0 _ hm) (by decide) (by decide) rfl (Nat.le_of_ble_eq_true rfl) rfl rfl rfl rfl (by decide) rfl (fun _ => rfl) rfl rfl rfl rfl dX8_sign_2 ?_
  rintro r_1 _ hm
  refine x_istore_n hC [(0, .ref (md 0)), (1, .int p0), (2, .int r_1)] [1, 2, 0] dX8_sign_5 (by decide) rfl ?_
  refine x_aload_n hC 0 dX8_sign_6 rfl ?_
  refine x_dup hC dX8_sign_7 rfl ?_
  refine x_get hC 5 inX8g 0 rfl rfl 3 (by decide) fl_X8_84 rfl dX8_sign_8 ?_
  refine x_iload_n hC 2 dX8_sign_11 rfl ?_
  refine x_if_eq hC 19 dX8_sign_12 (by decide) (fun c_2 => ?_) (fun c_2 => ?_)
  · replace hm := hm.1 c_2
    refine x_iconst hC (0 : Int32) dX8_sign_19 (by decide) ?_
    refine x_iadd hC dX8_sign_20 ?_
    refine x_top (fun v_3 ev_3 => ?_)
    replace hm := hm v_3 ev_3
    refine x_put hC 5 tyX8_ok nmX8 inX8g 0 rfl rfl 3 (by decide) fl_X8_84 rfl (ty := .int) (by decide +kernel) rfl rfl (Nat.le_of_ble_eq_true rfl) (W_md cI cZ md md_thrown md_text md_textSize v_3 md_letter md_first md_second md_third md_side md_hang md_forms md_formMany md_seats md_now md_barAlways md_noPut md_far md_queue md_from md_by md_many md_is md_next md_rollSet md_rollAct md_rolls md_slots md_isKept) rfl dX8_sign_21 ?_
    refine x_iload_n hC 2 dX8_sign_24 rfl ?_
    exact hR r_1 v_3 [(0, .ref (md 0)), (1, .int p0), (2, .int r_1)] 25 hm.2 hm.1 dX8_sign_25
  · replace hm := hm.2 c_2
    refine x_iconst hC (1 : Int32) dX8_sign_15 (by decide) ?_
    refine x_goto hC 20 dX8_sign_16 (by decide) ?_
    refine x_iadd hC dX8_sign_20 ?_
    refine x_top (fun v_4 ev_4 => ?_)
    replace hm := hm v_4 ev_4
    refine x_put hC 5 tyX8_ok nmX8 inX8g 0 rfl rfl 3 (by decide) fl_X8_84 rfl (ty := .int) (by decide +kernel) rfl rfl (Nat.le_of_ble_eq_true rfl) (W_md cI cZ md md_thrown md_text md_textSize v_4 md_letter md_first md_second md_third md_side md_hang md_forms md_formMany md_seats md_now md_barAlways md_noPut md_far md_queue md_from md_by md_many md_is md_next md_rollSet md_rollAct md_rolls md_slots md_isKept) rfl dX8_sign_21 ?_
    refine x_iload_n hC 2 dX8_sign_24 rfl ?_
    exact hR r_1 v_4 [(0, .ref (md 0)), (1, .int p0), (2, .int r_1)] 25 hm.2 hm.1 dX8_sign_25

def wp_X8_isFigure (md_text : Nat → Int32) (md_textSize : Int32) (p0 : Int32) (post : Int32 → Prop) : Prop := (md_textSize ≤ p0 → post ((0 : Int32)) ) ∧ (¬ md_textSize ≤ p0 → vp_in p0 20 ∧ (wp_X8_in  ((md_text p0.toNatClampNeg).toInt64) ((48 : Int64)) ((57 : Int64)) (fun (r_2 : Int32) => (r_2 = 0 → post ((0 : Int32)) ) ∧ (¬ r_2 = 0 → post ((1 : Int32)) ))))
set_option maxHeartbeats 4000000 in
set_option maxRecDepth 100000 in
theorem c_X8_isFigure (l : Launch) (D : va_G) (cI cZ : ClassId) (md : Nat → Nat) (md_thrown : Int32) (md_text : Nat → Int32) (md_textSize : Int32) (md_place : Int32) (md_letter : Int32) (md_first : Int32) (md_second : Int32) (md_third : Int32) (md_side : Int32) (md_hang : Int32) (md_forms : Nat → Int32) (md_formMany : Nat → Int32) (md_seats : Nat → Int32) (md_now : Int32) (md_barAlways : Int32) (md_noPut : Int32) (md_far : Nat → Int32) (md_queue : Nat → Int32) (md_from : Nat → Int32) (md_by : Nat → Int32) (md_many : Int32) (md_is : Nat → Int32) (md_next : Nat → Int32) (md_rollSet : Nat → Int32) (md_rollAct : Nat → Int32) (md_rolls : Int32) (md_slots : Nat → Int32) (md_isKept : Nat → Int32) (p0 : Int32) (post : Int32 → Prop) (hm : wp_X8_isFigure md_text md_textSize p0 post) : Mi l D cI cZ yX8_isFigure cX8_isFigure 2 .boolean 1 25 [.ref (md 0), .int p0] (W_md cI cZ md md_thrown md_text md_textSize md_place md_letter md_first md_second md_third md_side md_hang md_forms md_formMany md_seats md_now md_barAlways md_noPut md_far md_queue md_from md_by md_many md_is md_next md_rollSet md_rollAct md_rolls md_slots md_isKept) (S := Unit) (fun _ => W_md cI cZ md md_thrown md_text md_textSize md_place md_letter md_first md_second md_third md_side md_hang md_forms md_formMany md_seats md_now md_barAlways md_noPut md_far md_queue md_from md_by md_many md_is md_next md_rollSet md_rollAct md_rolls md_slots md_isKept) (fun r _ => post r ) := by
  refine mk_Mi (by decide +kernel) (Nat.le_of_ble_eq_true rfl) ?_
  intro Γ hl0 hD0 hC hR
  subst hl0
  subst hD0
  have hC : CX Γ cI cZ cX8_isFigure RX8 2 1 25 := hC
  show VV Γ (W_md cI cZ md md_thrown md_text md_textSize md_place md_letter md_first md_second md_third md_side md_hang md_forms md_formMany md_seats md_now md_barAlways md_noPut md_far md_queue md_from md_by md_many md_is md_next md_rollSet md_rollAct md_rolls md_slots md_isKept) [(0, .ref (md 0)), (1, .int p0)] 0 []
  unfold wp_X8_isFigure at hm
  refine x_iload_n hC 1 dX8_isFigure_0 rfl ?_
  refine x_aload_n hC 0 dX8_isFigure_1 rfl ?_
  refine x_get hC 5 inX8g 0 rfl rfl 2 (by decide) fl_X8_81 rfl dX8_isFigure_2 ?_
  refine x_icmp_ge hC 31 dX8_isFigure_5 (by decide) (fun c_1 => ?_) (fun c_1 => ?_)
  · replace hm := hm.1 c_1
    refine x_iconst hC (0 : Int32) dX8_isFigure_31 (by decide) ?_
    exact hR ((0 : Int32)) () [(0, .ref (md 0)), (1, .int p0)] 32 hm rfl dX8_isFigure_32
  · replace hm := hm.2 c_1
    refine x_aload_n hC 0 dX8_isFigure_8 rfl ?_
    refine x_get hC 5 inX8g 0 rfl rfl 1 (by decide) fl_X8_7 rfl dX8_isFigure_9 ?_
    refine x_iload_n hC 1 dX8_isFigure_12 rfl ?_
    refine x_iald hC 1 rfl hm.1 dX8_isFigure_13 ?_
    replace hm := hm.2
    refine x_i2l hC dX8_isFigure_14 ?_
    refine x_ldc2 hC kl_X8_87 dX8_isFigure_15 ?_
    refine x_ldc2 hC kl_X8_89 dX8_isFigure_18 ?_
    refine x_callSi hC _ [] [0, 1, 2, 3, 4, 5, 6, 7, 8, 9, 10, 11, 12, 13, 14] [0, 1, 2, 3, 4, 5, 6, 7, 8, 9, 10, 11, 12, 13, 14] (W_md cI cZ md md_thrown md_text md_textSize md_place md_letter md_first md_second md_third md_side md_hang md_forms md_formMany md_seats md_now md_barAlways md_noPut md_far md_queue md_from md_by md_many md_is md_next md_rollSet md_rollAct md_rolls md_slots md_isKept) (fun _ => W_md cI cZ md md_thrown md_text md_textSize md_place md_letter md_first md_second md_third md_side md_hang md_forms md_formMany md_seats md_now md_barAlways md_noPut md_far md_queue md_from md_by md_many md_is md_next md_rollSet md_rollAct md_rolls md_slots md_isKept) ok_X8_in ml_X8_65 (c_X8_in (gl Γ) (gD Γ) cI cZ   ((md_text p0.toNatClampNeg).toInt64) ((48 : Int64)) ((57 : Int64)) _ hm) (by decide) (by decide) rfl (Nat.le_of_ble_eq_true rfl) rfl rfl rfl rfl (by decide) rfl (fun _ => rfl) rfl dX8_isFigure_21 ?_
    rintro r_2 _ hm
    refine x_if_eq hC 31 dX8_isFigure_24 (by decide) (fun c_3 => ?_) (fun c_3 => ?_)
    · replace hm := hm.1 c_3
      refine x_iconst hC (0 : Int32) dX8_isFigure_31 (by decide) ?_
      exact hR ((0 : Int32)) () [(0, .ref (md 0)), (1, .int p0)] 32 hm rfl dX8_isFigure_32
    · replace hm := hm.2 c_3
      refine x_iconst hC (1 : Int32) dX8_isFigure_27 (by decide) ?_
      refine x_goto hC 32 dX8_isFigure_28 (by decide) ?_
      exact hR ((1 : Int32)) () [(0, .ref (md 0)), (1, .int p0)] 32 hm rfl dX8_isFigure_32

def wpJ_X8_number_131 (md_text : Nat → Int32) (md_textSize : Int32)  (post : Int32 → Int32 → Prop) (md_place_14 : Int32) (x1_15 : Int32) (x3_16 : Int32) (x4_17 : Int32) : Prop := (x1_15 ≤ x4_17 → post x4_17 md_place_14) ∧ (¬ x1_15 ≤ x4_17 → post ((-9 : Int32)) x3_16)
def wpJ_X8_number_106 (md_text : Nat → Int32) (md_textSize : Int32)  (post : Int32 → Int32 → Prop) (md_place_8 : Int32) (x1_9 : Int32) (x3_10 : Int32) (x4_11 : Int32) (x5_12 : Int32) : Prop := (x1_9 ≤ x4_11 → wpJ_X8_number_131 md_text md_textSize  post md_place_8 x1_9 x3_10 x4_11) ∧ (¬ x1_9 ≤ x4_11 → (¬ x5_12 = 0 → wpJ_X8_number_131 md_text md_textSize  post md_place_8 x1_9 x3_10 x4_11) ∧ (x5_12 = 0 → (¬ md_place_8 = md_textSize → wpJ_X8_number_131 md_text md_textSize  post md_place_8 x1_9 x3_10 x4_11) ∧ (md_place_8 = md_textSize → post ((-9 : Int32)) md_place_8)))
def wp_X8_number (md_text : Nat → Int32) (md_textSize : Int32) (md_place : Int32) (p0 : Int32) (p1 : Int32) (post : Int32 → Int32 → Prop) : Prop := wp_X8_isFigure md_text md_textSize md_place (fun (r_1 : Int32) => (¬ r_1 = 0 → vp_in md_place 20 ∧ (∀ x4_3 : Int32, x4_3 = (md_text md_place.toNatClampNeg) - ((48 : Int32)) → (x4_3 ≤ p1 → ∀ v_5 : Int32, v_5 = md_place + ((1 : Int32)) → wp_X8_isFigure md_text md_textSize v_5 (fun (r_6 : Int32) => (r_6 = 0 → wpJ_X8_number_106 md_text md_textSize  post v_5 p0 md_place x4_3 r_6) ∧ (¬ r_6 = 0 → vp_in v_5 20 ∧ (∀ x4_21 : Int32, x4_21 = ((((10 : Int32)) * x4_3) + (md_text v_5.toNatClampNeg)) - ((48 : Int32)) → (x4_21 ≤ p1 → ∀ v_23 : Int32, v_23 = v_5 + ((1 : Int32)) → wpJ_X8_number_106 md_text md_textSize  post v_23 p0 md_place x4_21 r_6) ∧ (¬ x4_21 ≤ p1 → post ((-9 : Int32)) v_5))))) ∧ (¬ x4_3 ≤ p1 → post ((-9 : Int32)) md_place))) ∧ (r_1 = 0 → post ((-9 : Int32)) md_place))
set_option maxHeartbeats 4000000 in
set_option maxRecDepth 100000 in
theorem c_X8_number (l : Launch) (D : va_G) (cI cZ : ClassId) (md : Nat → Nat) (md_thrown : Int32) (md_text : Nat → Int32) (md_textSize : Int32) (md_place : Int32) (md_letter : Int32) (md_first : Int32) (md_second : Int32) (md_third : Int32) (md_side : Int32) (md_hang : Int32) (md_forms : Nat → Int32) (md_formMany : Nat → Int32) (md_seats : Nat → Int32) (md_now : Int32) (md_barAlways : Int32) (md_noPut : Int32) (md_far : Nat → Int32) (md_queue : Nat → Int32) (md_from : Nat → Int32) (md_by : Nat → Int32) (md_many : Int32) (md_is : Nat → Int32) (md_next : Nat → Int32) (md_rollSet : Nat → Int32) (md_rollAct : Nat → Int32) (md_rolls : Int32) (md_slots : Nat → Int32) (md_isKept : Nat → Int32) (p0 : Int32) (p1 : Int32) (post : Int32 → Int32 → Prop) (hm : wp_X8_number md_text md_textSize md_place p0 p1 post) : Mi l D cI cZ yX8_number cX8_number 6 .int 2 46 [.ref (md 0), .int p0, .int p1] (W_md cI cZ md md_thrown md_text md_textSize md_place md_letter md_first md_second md_third md_side md_hang md_forms md_formMany md_seats md_now md_barAlways md_noPut md_far md_queue md_from md_by md_many md_is md_next md_rollSet md_rollAct md_rolls md_slots md_isKept) (S := Int32) (fun u => W_md cI cZ md md_thrown md_text md_textSize u md_letter md_first md_second md_third md_side md_hang md_forms md_formMany md_seats md_now md_barAlways md_noPut md_far md_queue md_from md_by md_many md_is md_next md_rollSet md_rollAct md_rolls md_slots md_isKept) (fun r u => post r u) := by
  refine mk_Mi (by decide +kernel) (Nat.le_of_ble_eq_true rfl) ?_
  intro Γ hl0 hD0 hC hR
  subst hl0
  subst hD0
  have hC : CX Γ cI cZ cX8_number RX8 6 2 46 := hC
  show VV Γ (W_md cI cZ md md_thrown md_text md_textSize md_place md_letter md_first md_second md_third md_side md_hang md_forms md_formMany md_seats md_now md_barAlways md_noPut md_far md_queue md_from md_by md_many md_is md_next md_rollSet md_rollAct md_rolls md_slots md_isKept) [(0, .ref (md 0)), (1, .int p0), (2, .int p1)] 0 []
  have B_131 : ∀ (md_place_14 : Int32) (x1_15 : Int32) (x3_16 : Int32) (x4_17 : Int32), wpJ_X8_number_131 md_text md_textSize  post md_place_14 x1_15 x3_16 x4_17 → VV Γ (W_md cI cZ md md_thrown md_text md_textSize md_place_14 md_letter md_first md_second md_third md_side md_hang md_forms md_formMany md_seats md_now md_barAlways md_noPut md_far md_queue md_from md_by md_many md_is md_next md_rollSet md_rollAct md_rolls md_slots md_isKept) [(0, .ref (md 0)), (1, .int x1_15), (3, .int x3_16), (4, .int x4_17)] 131 [] := by
    intro  md_place_14 x1_15 x3_16 x4_17 hm
    unfold wpJ_X8_number_131 at hm
    refine x_iload hC 3 dX8_number_131 rfl ?_
    refine x_iload_n hC 1 dX8_number_133 rfl ?_
    refine x_icmp_ge hC 145 dX8_number_134 (by decide) (fun c_18 => ?_) (fun c_18 => ?_)
    · replace hm := hm.1 c_18
      refine x_iload hC 3 dX8_number_145 rfl ?_
      exact hR x4_17 md_place_14 [(0, .ref (md 0)), (1, .int x1_15), (3, .int x3_16), (4, .int x4_17)] 147 hm rfl dX8_number_147
    · replace hm := hm.2 c_18
      refine x_aload_n hC 0 dX8_number_137 rfl ?_
      refine x_iload_n hC 2 dX8_number_138 rfl ?_
      refine x_put hC 5 tyX8_ok nmX8 inX8g 0 rfl rfl 3 (by decide) fl_X8_84 rfl (ty := .int) (by decide +kernel) rfl rfl (Nat.le_of_ble_eq_true rfl) (W_md cI cZ md md_thrown md_text md_textSize x3_16 md_letter md_first md_second md_third md_side md_hang md_forms md_formMany md_seats md_now md_barAlways md_noPut md_far md_queue md_from md_by md_many md_is md_next md_rollSet md_rollAct md_rolls md_slots md_isKept) rfl dX8_number_139 ?_
      refine x_bipush hC (-9 : Int32) dX8_number_142 (by decide) ?_
      exact hR ((-9 : Int32)) x3_16 [(0, .ref (md 0)), (1, .int x1_15), (3, .int x3_16), (4, .int x4_17)] 144 hm rfl dX8_number_144
  have B_106 : ∀ (md_place_8 : Int32) (x1_9 : Int32) (x3_10 : Int32) (x4_11 : Int32) (x5_12 : Int32), wpJ_X8_number_106 md_text md_textSize  post md_place_8 x1_9 x3_10 x4_11 x5_12 → VV Γ (W_md cI cZ md md_thrown md_text md_textSize md_place_8 md_letter md_first md_second md_third md_side md_hang md_forms md_formMany md_seats md_now md_barAlways md_noPut md_far md_queue md_from md_by md_many md_is md_next md_rollSet md_rollAct md_rolls md_slots md_isKept) [(0, .ref (md 0)), (1, .int x1_9), (3, .int x3_10), (4, .int x4_11), (5, .int x5_12)] 106 [] := by
    intro  md_place_8 x1_9 x3_10 x4_11 x5_12 hm
    unfold wpJ_X8_number_106 at hm
    refine x_iload hC 3 dX8_number_106 rfl ?_
    refine x_iload_n hC 1 dX8_number_108 rfl ?_
    refine x_icmp_ge hC 131 dX8_number_109 (by decide) (fun c_13 => ?_) (fun c_13 => ?_)
    · replace hm := hm.1 c_13
      refine x_lsub [0, 1, 2, 3] rfl ?_
      exact B_131   md_place_8 x1_9 x3_10 x4_11 hm
    · replace hm := hm.2 c_13
      refine x_iload hC 4 dX8_number_112 rfl ?_
      refine x_if_ne hC 131 dX8_number_114 (by decide) (fun c_19 => ?_) (fun c_19 => ?_)
      · replace hm := hm.1 c_19
        refine x_lsub [0, 1, 2, 3] rfl ?_
        exact B_131   md_place_8 x1_9 x3_10 x4_11 hm
      · replace hm := hm.2 c_19
        refine x_aload_n hC 0 dX8_number_117 rfl ?_
        refine x_get hC 5 inX8g 0 rfl rfl 3 (by decide) fl_X8_84 rfl dX8_number_118 ?_
        refine x_aload_n hC 0 dX8_number_121 rfl ?_
        refine x_get hC 5 inX8g 0 rfl rfl 2 (by decide) fl_X8_81 rfl dX8_number_122 ?_
        refine x_icmp_ne hC 131 dX8_number_125 (by decide) (fun c_20 => ?_) (fun c_20 => ?_)
        · replace hm := hm.1 c_20
          refine x_lsub [0, 1, 2, 3] rfl ?_
          exact B_131   md_place_8 x1_9 x3_10 x4_11 hm
        · replace hm := hm.2 c_20
          refine x_bipush hC (-9 : Int32) dX8_number_128 (by decide) ?_
          exact hR ((-9 : Int32)) md_place_8 [(0, .ref (md 0)), (1, .int x1_9), (3, .int x3_10), (4, .int x4_11), (5, .int x5_12)] 130 hm rfl dX8_number_130
  unfold wp_X8_number at hm
  refine x_aload_n hC 0 dX8_number_0 rfl ?_
  refine x_aload_n hC 0 dX8_number_1 rfl ?_
  refine x_get hC 5 inX8g 0 rfl rfl 3 (by decide) fl_X8_84 rfl dX8_number_2 ?_
  refine x_callVi hC _ [0, 1, 2, 3, 4, 5, 6, 7, 8, 9, 10, 11, 12, 13, 14] [] [0, 1, 2, 3, 4, 5, 6, 7, 8, 9, 10, 11, 12, 13, 14] (([] : va_W)) (fun _ => W_md cI cZ md md_thrown md_text md_textSize md_place md_letter md_first md_second md_third md_side md_hang md_forms md_formMany md_seats md_now md_barAlways md_noPut md_far md_queue md_from md_by md_many md_is md_next md_rollSet md_rollAct md_rolls md_slots md_isKept) ok_X8_isFigure ml_X8_91 0 5 (c_X8_isFigure (gl Γ) (gD Γ) cI cZ md md_thrown md_text md_textSize md_place md_letter md_first md_second md_third md_side md_hang md_forms md_formMany md_seats md_now md_barAlways md_noPut md_far md_queue md_from md_by md_many md_is md_next md_rollSet md_rollAct md_rolls md_slots md_isKept md_place _ hm) (by decide) (by decide) rfl (Nat.le_of_ble_eq_true rfl) rfl rfl rfl rfl (by decide) rfl (fun _ => rfl) rfl rfl rfl rfl dX8_number_5 ?_
  rintro r_1 _ hm
  refine x_if_ne hC 14 dX8_number_8 (by decide) (fun c_2 => ?_) (fun c_2 => ?_)
  · replace hm := hm.1 c_2
    refine x_aload_n hC 0 dX8_number_14 rfl ?_
    refine x_get hC 5 inX8g 0 rfl rfl 3 (by decide) fl_X8_84 rfl dX8_number_15 ?_
    refine x_istore_n hC [(0, .ref (md 0)), (1, .int p0), (2, .int p1), (3, .int md_place)] [1, 2, 3, 0] dX8_number_18 (by decide) rfl ?_
    refine x_aload_n hC 0 dX8_number_19 rfl ?_
    refine x_get hC 5 inX8g 0 rfl rfl 1 (by decide) fl_X8_7 rfl dX8_number_20 ?_
    refine x_aload_n hC 0 dX8_number_23 rfl ?_
    refine x_get hC 5 inX8g 0 rfl rfl 3 (by decide) fl_X8_84 rfl dX8_number_24 ?_
    refine x_iald hC 1 rfl hm.1 dX8_number_27 ?_
    replace hm := hm.2
    refine x_bipush hC (48 : Int32) dX8_number_28 (by decide) ?_
    refine x_isub hC dX8_number_30 ?_
    refine x_top (fun x4_3 ex4_3 => ?_)
    replace hm := hm x4_3 ex4_3
    refine x_istore hC [(0, .ref (md 0)), (1, .int p0), (2, .int p1), (3, .int md_place), (4, .int x4_3)] [1, 2, 3, 4, 0] dX8_number_31 (by decide) rfl ?_
    refine x_iload hC 4 dX8_number_33 rfl ?_
    refine x_iload_n hC 2 dX8_number_35 rfl ?_
    refine x_icmp_le hC 42 dX8_number_36 (by decide) (fun c_4 => ?_) (fun c_4 => ?_)
    · replace hm := hm.1 c_4
      refine x_aload_n hC 0 dX8_number_42 rfl ?_
      refine x_dup hC dX8_number_43 rfl ?_
      refine x_get hC 5 inX8g 0 rfl rfl 3 (by decide) fl_X8_84 rfl dX8_number_44 ?_
      refine x_iconst hC (1 : Int32) dX8_number_47 (by decide) ?_
      refine x_iadd hC dX8_number_48 ?_
      refine x_top (fun v_5 ev_5 => ?_)
      replace hm := hm v_5 ev_5
      refine x_put hC 5 tyX8_ok nmX8 inX8g 0 rfl rfl 3 (by decide) fl_X8_84 rfl (ty := .int) (by decide +kernel) rfl rfl (Nat.le_of_ble_eq_true rfl) (W_md cI cZ md md_thrown md_text md_textSize v_5 md_letter md_first md_second md_third md_side md_hang md_forms md_formMany md_seats md_now md_barAlways md_noPut md_far md_queue md_from md_by md_many md_is md_next md_rollSet md_rollAct md_rolls md_slots md_isKept) rfl dX8_number_49 ?_
      refine x_aload_n hC 0 dX8_number_52 rfl ?_
      refine x_aload_n hC 0 dX8_number_53 rfl ?_
      refine x_get hC 5 inX8g 0 rfl rfl 3 (by decide) fl_X8_84 rfl dX8_number_54 ?_
      refine x_callVi hC _ [0, 1, 2, 3, 4, 5, 6, 7, 8, 9, 10, 11, 12, 13, 14] [] [0, 1, 2, 3, 4, 5, 6, 7, 8, 9, 10, 11, 12, 13, 14] (([] : va_W)) (fun _ => W_md cI cZ md md_thrown md_text md_textSize v_5 md_letter md_first md_second md_third md_side md_hang md_forms md_formMany md_seats md_now md_barAlways md_noPut md_far md_queue md_from md_by md_many md_is md_next md_rollSet md_rollAct md_rolls md_slots md_isKept) ok_X8_isFigure ml_X8_91 0 5 (c_X8_isFigure (gl Γ) (gD Γ) cI cZ md md_thrown md_text md_textSize v_5 md_letter md_first md_second md_third md_side md_hang md_forms md_formMany md_seats md_now md_barAlways md_noPut md_far md_queue md_from md_by md_many md_is md_next md_rollSet md_rollAct md_rolls md_slots md_isKept v_5 _ hm) (by decide) (by decide) rfl (Nat.le_of_ble_eq_true rfl) rfl rfl rfl rfl (by decide) rfl (fun _ => rfl) rfl rfl rfl rfl dX8_number_57 ?_
      rintro r_6 _ hm
      refine x_istore hC [(0, .ref (md 0)), (1, .int p0), (2, .int p1), (3, .int md_place), (4, .int x4_3), (5, .int r_6)] [1, 2, 3, 4, 5, 0] dX8_number_60 (by decide) rfl ?_
      refine x_iload hC 5 dX8_number_62 rfl ?_
      refine x_if_eq hC 106 dX8_number_64 (by decide) (fun c_7 => ?_) (fun c_7 => ?_)
      · replace hm := hm.1 c_7
        refine x_lsub [0, 1, 3, 4, 5] rfl ?_
        exact B_106   v_5 p0 md_place x4_3 r_6 hm
      · replace hm := hm.2 c_7
        refine x_bipush hC (10 : Int32) dX8_number_67 (by decide) ?_
        refine x_iload hC 4 dX8_number_69 rfl ?_
        refine x_imul hC dX8_number_71 ?_
        refine x_aload_n hC 0 dX8_number_72 rfl ?_
        refine x_get hC 5 inX8g 0 rfl rfl 1 (by decide) fl_X8_7 rfl dX8_number_73 ?_
        refine x_aload_n hC 0 dX8_number_76 rfl ?_
        refine x_get hC 5 inX8g 0 rfl rfl 3 (by decide) fl_X8_84 rfl dX8_number_77 ?_
        refine x_iald hC 1 rfl hm.1 dX8_number_80 ?_
        replace hm := hm.2
        refine x_iadd hC dX8_number_81 ?_
        refine x_bipush hC (48 : Int32) dX8_number_82 (by decide) ?_
        refine x_isub hC dX8_number_84 ?_
        refine x_top (fun x4_21 ex4_21 => ?_)
        replace hm := hm x4_21 ex4_21
        refine x_istore hC [(0, .ref (md 0)), (1, .int p0), (2, .int p1), (3, .int md_place), (4, .int x4_21), (5, .int r_6)] [1, 2, 3, 4, 0, 5] dX8_number_85 (by decide) rfl ?_
        refine x_iload hC 4 dX8_number_87 rfl ?_
        refine x_iload_n hC 2 dX8_number_89 rfl ?_
        refine x_icmp_le hC 96 dX8_number_90 (by decide) (fun c_22 => ?_) (fun c_22 => ?_)
        · replace hm := hm.1 c_22
          refine x_aload_n hC 0 dX8_number_96 rfl ?_
          refine x_dup hC dX8_number_97 rfl ?_
          refine x_get hC 5 inX8g 0 rfl rfl 3 (by decide) fl_X8_84 rfl dX8_number_98 ?_
          refine x_iconst hC (1 : Int32) dX8_number_101 (by decide) ?_
          refine x_iadd hC dX8_number_102 ?_
          refine x_top (fun v_23 ev_23 => ?_)
          replace hm := hm v_23 ev_23
          refine x_put hC 5 tyX8_ok nmX8 inX8g 0 rfl rfl 3 (by decide) fl_X8_84 rfl (ty := .int) (by decide +kernel) rfl rfl (Nat.le_of_ble_eq_true rfl) (W_md cI cZ md md_thrown md_text md_textSize v_23 md_letter md_first md_second md_third md_side md_hang md_forms md_formMany md_seats md_now md_barAlways md_noPut md_far md_queue md_from md_by md_many md_is md_next md_rollSet md_rollAct md_rolls md_slots md_isKept) rfl dX8_number_103 ?_
          refine x_lsub [0, 1, 3, 4, 5] rfl ?_
          exact B_106   v_23 p0 md_place x4_21 r_6 hm
        · replace hm := hm.2 c_22
          refine x_bipush hC (-9 : Int32) dX8_number_93 (by decide) ?_
          exact hR ((-9 : Int32)) v_5 [(0, .ref (md 0)), (1, .int p0), (2, .int p1), (3, .int md_place), (4, .int x4_21), (5, .int r_6)] 95 hm rfl dX8_number_95
    · replace hm := hm.2 c_4
      refine x_bipush hC (-9 : Int32) dX8_number_39 (by decide) ?_
      exact hR ((-9 : Int32)) md_place [(0, .ref (md 0)), (1, .int p0), (2, .int p1), (3, .int md_place), (4, .int x4_3)] 41 hm rfl dX8_number_41
  · replace hm := hm.2 c_2
    refine x_bipush hC (-9 : Int32) dX8_number_11 (by decide) ?_
    exact hR ((-9 : Int32)) md_place [(0, .ref (md 0)), (1, .int p0), (2, .int p1)] 13 hm rfl dX8_number_13

def wp_X8_plus (md_text : Nat → Int32) (md_textSize : Int32) (md_place : Int32)  (post : Int32 → Int32 → Prop) : Prop := wp_X8_sign md_text md_textSize md_place ((43 : Int32)) (fun (r_2 : Int32) (md_place_1 : Int32) => (r_2 = 0 → wp_X8_sign md_text md_textSize md_place_1 ((45 : Int32)) (fun (r_5 : Int32) (md_place_4 : Int32) => (r_5 = 0 → post ((-9 : Int32)) md_place_4) ∧ (¬ r_5 = 0 → post ((0 : Int32)) md_place_4))) ∧ (¬ r_2 = 0 → post ((1 : Int32)) md_place_1))
set_option maxHeartbeats 4000000 in
set_option maxRecDepth 100000 in
theorem c_X8_plus (l : Launch) (D : va_G) (cI cZ : ClassId) (md : Nat → Nat) (md_thrown : Int32) (md_text : Nat → Int32) (md_textSize : Int32) (md_place : Int32) (md_letter : Int32) (md_first : Int32) (md_second : Int32) (md_third : Int32) (md_side : Int32) (md_hang : Int32) (md_forms : Nat → Int32) (md_formMany : Nat → Int32) (md_seats : Nat → Int32) (md_now : Int32) (md_barAlways : Int32) (md_noPut : Int32) (md_far : Nat → Int32) (md_queue : Nat → Int32) (md_from : Nat → Int32) (md_by : Nat → Int32) (md_many : Int32) (md_is : Nat → Int32) (md_next : Nat → Int32) (md_rollSet : Nat → Int32) (md_rollAct : Nat → Int32) (md_rolls : Int32) (md_slots : Nat → Int32) (md_isKept : Nat → Int32)  (post : Int32 → Int32 → Prop) (hm : wp_X8_plus md_text md_textSize md_place  post) : Mi l D cI cZ yX8_plus cX8_plus 1 .int 2 43 [.ref (md 0)] (W_md cI cZ md md_thrown md_text md_textSize md_place md_letter md_first md_second md_third md_side md_hang md_forms md_formMany md_seats md_now md_barAlways md_noPut md_far md_queue md_from md_by md_many md_is md_next md_rollSet md_rollAct md_rolls md_slots md_isKept) (S := Int32) (fun u => W_md cI cZ md md_thrown md_text md_textSize u md_letter md_first md_second md_third md_side md_hang md_forms md_formMany md_seats md_now md_barAlways md_noPut md_far md_queue md_from md_by md_many md_is md_next md_rollSet md_rollAct md_rolls md_slots md_isKept) (fun r u => post r u) := by
  refine mk_Mi (by decide +kernel) (Nat.le_of_ble_eq_true rfl) ?_
  intro Γ hl0 hD0 hC hR
  subst hl0
  subst hD0
  have hC : CX Γ cI cZ cX8_plus RX8 1 2 43 := hC
  show VV Γ (W_md cI cZ md md_thrown md_text md_textSize md_place md_letter md_first md_second md_third md_side md_hang md_forms md_formMany md_seats md_now md_barAlways md_noPut md_far md_queue md_from md_by md_many md_is md_next md_rollSet md_rollAct md_rolls md_slots md_isKept) [(0, .ref (md 0))] 0 []
  unfold wp_X8_plus at hm
  refine x_aload_n hC 0 dX8_plus_0 rfl ?_
  refine x_bipush hC (43 : Int32) dX8_plus_1 (by decide) ?_
  refine x_callVi hC _ [0, 1, 2, 3, 4, 5, 6, 7, 8, 9, 10, 11, 12, 13, 14] [] [0, 1, 2, 3, 4, 5, 6, 7, 8, 9, 10, 11, 12, 13, 14] (([] : va_W)) (fun u => W_md cI cZ md md_thrown md_text md_textSize u md_letter md_first md_second md_third md_side md_hang md_forms md_formMany md_seats md_now md_barAlways md_noPut md_far md_queue md_from md_by md_many md_is md_next md_rollSet md_rollAct md_rolls md_slots md_isKept) ok_X8_sign ml_X8_98 0 5 (c_X8_sign (gl Γ) (gD Γ) cI cZ md md_thrown md_text md_textSize md_place md_letter md_first md_second md_third md_side md_hang md_forms md_formMany md_seats md_now md_barAlways md_noPut md_far md_queue md_from md_by md_many md_is md_next md_rollSet md_rollAct md_rolls md_slots md_isKept ((43 : Int32)) _ hm) (by decide) (by decide) rfl (Nat.le_of_ble_eq_true rfl) rfl rfl rfl rfl (by decide) rfl (fun _ => rfl) rfl rfl rfl rfl dX8_plus_3 ?_
  rintro r_2 md_place_1 hm
  refine x_if_eq hC 13 dX8_plus_6 (by decide) (fun c_3 => ?_) (fun c_3 => ?_)
  · replace hm := hm.1 c_3
    refine x_aload_n hC 0 dX8_plus_13 rfl ?_
    refine x_bipush hC (45 : Int32) dX8_plus_14 (by decide) ?_
    refine x_callVi hC _ [0, 1, 2, 3, 4, 5, 6, 7, 8, 9, 10, 11, 12, 13, 14] [] [0, 1, 2, 3, 4, 5, 6, 7, 8, 9, 10, 11, 12, 13, 14] (([] : va_W)) (fun u => W_md cI cZ md md_thrown md_text md_textSize u md_letter md_first md_second md_third md_side md_hang md_forms md_formMany md_seats md_now md_barAlways md_noPut md_far md_queue md_from md_by md_many md_is md_next md_rollSet md_rollAct md_rolls md_slots md_isKept) ok_X8_sign ml_X8_98 0 5 (c_X8_sign (gl Γ) (gD Γ) cI cZ md md_thrown md_text md_textSize md_place_1 md_letter md_first md_second md_third md_side md_hang md_forms md_formMany md_seats md_now md_barAlways md_noPut md_far md_queue md_from md_by md_many md_is md_next md_rollSet md_rollAct md_rolls md_slots md_isKept ((45 : Int32)) _ hm) (by decide) (by decide) rfl (Nat.le_of_ble_eq_true rfl) rfl rfl rfl rfl (by decide) rfl (fun _ => rfl) rfl rfl rfl rfl dX8_plus_16 ?_
    rintro r_5 md_place_4 hm
    refine x_if_eq hC 26 dX8_plus_19 (by decide) (fun c_6 => ?_) (fun c_6 => ?_)
    · replace hm := hm.1 c_6
      refine x_bipush hC (-9 : Int32) dX8_plus_26 (by decide) ?_
      exact hR ((-9 : Int32)) md_place_4 [(0, .ref (md 0))] 28 hm rfl dX8_plus_28
    · replace hm := hm.2 c_6
      refine x_iconst hC (0 : Int32) dX8_plus_22 (by decide) ?_
      refine x_goto hC 28 dX8_plus_23 (by decide) ?_
      exact hR ((0 : Int32)) md_place_4 [(0, .ref (md 0))] 28 hm rfl dX8_plus_28
  · replace hm := hm.2 c_3
    refine x_iconst hC (1 : Int32) dX8_plus_9 (by decide) ?_
    refine x_goto hC 28 dX8_plus_10 (by decide) ?_
    exact hR ((1 : Int32)) md_place_1 [(0, .ref (md 0))] 28 hm rfl dX8_plus_28
