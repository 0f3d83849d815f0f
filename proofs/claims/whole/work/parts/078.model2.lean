def wpJ_X8_readHead_284 (md_text : Nat → Int32) (md_textSize : Int32)  (post : Int32 → Int32 → Int32 → Int32 → Int32 → Int32 → Int32 → Int32 → Prop) (md_place_70 : Int32) (md_letter_71 : Int32) (md_first_72 : Int32) (md_second_73 : Int32) (md_third_74 : Int32) (md_side_75 : Int32) (md_hang_76 : Int32) (s1_77 : Int32) : Prop := (¬ md_letter_71 = ((2 : Int32)) → post ((1 : Int32)) md_place_70 md_letter_71 md_first_72 md_second_73 md_third_74 s1_77 md_hang_76) ∧ (md_letter_71 = ((2 : Int32)) → (s1_77 < 0 → post ((0 : Int32)) md_place_70 md_letter_71 md_first_72 md_second_73 md_third_74 s1_77 md_hang_76) ∧ (¬ s1_77 < 0 → post ((1 : Int32)) md_place_70 md_letter_71 md_first_72 md_second_73 md_third_74 s1_77 md_hang_76))
def wpJ_X8_readHead_254 (md_text : Nat → Int32) (md_textSize : Int32)  (post : Int32 → Int32 → Int32 → Int32 → Int32 → Int32 → Int32 → Int32 → Prop) (md_place_60 : Int32) (md_letter_61 : Int32) (md_first_62 : Int32) (md_second_63 : Int32) (md_third_64 : Int32) (md_side_65 : Int32) (md_hang_66 : Int32) (s1_67 : Int32) : Prop := (0 ≤ s1_67 → (¬ md_letter_61 = ((2 : Int32)) → wpJ_X8_readHead_284 md_text md_textSize  post md_place_60 md_letter_61 md_first_62 md_second_63 s1_67 md_side_65 md_hang_66 ((-9 : Int32))) ∧ (md_letter_61 = ((2 : Int32)) → wp_X8_plus md_text md_textSize md_place_60  (fun (r_81 : Int32) (md_place_80 : Int32) => wpJ_X8_readHead_284 md_text md_textSize  post md_place_80 md_letter_61 md_first_62 md_second_63 s1_67 md_side_65 md_hang_66 r_81))) ∧ (¬ 0 ≤ s1_67 → post ((0 : Int32)) md_place_60 md_letter_61 md_first_62 md_second_63 s1_67 md_side_65 md_hang_66)
def wpJ_X8_readHead_251 (md_text : Nat → Int32) (md_textSize : Int32)  (post : Int32 → Int32 → Int32 → Int32 → Int32 → Int32 → Int32 → Int32 → Prop) (md_place_49 : Int32) (md_letter_50 : Int32) (md_first_51 : Int32) (md_second_52 : Int32) (md_third_53 : Int32) (md_side_54 : Int32) (md_hang_55 : Int32) (s2_56 : Int32) (s3_57 : Int32) : Prop := wp_X8_number md_text md_textSize md_place_49 s2_56 s3_57 (fun (r_59 : Int32) (md_place_58 : Int32) => wpJ_X8_readHead_254 md_text md_textSize  post md_place_58 md_letter_50 md_first_51 md_second_52 md_third_53 md_side_54 md_hang_55 r_59)
def wpJ_X8_readHead_196 (md_text : Nat → Int32) (md_textSize : Int32)  (post : Int32 → Int32 → Int32 → Int32 → Int32 → Int32 → Int32 → Int32 → Prop) (md_place_35 : Int32) (md_letter_36 : Int32) (md_first_37 : Int32) (md_second_38 : Int32) (md_third_39 : Int32) (md_side_40 : Int32) (md_hang_41 : Int32) (s1_42 : Int32) : Prop := (s1_42 < 0 → post ((0 : Int32)) md_place_35 md_letter_36 md_first_37 s1_42 md_third_39 md_side_40 md_hang_41) ∧ (¬ s1_42 < 0 → wp_X8_sign md_text md_textSize md_place_35 ((44 : Int32)) (fun (r_45 : Int32) (md_place_44 : Int32) => (¬ r_45 = 0 → (¬ md_letter_36 = ((4 : Int32)) → (¬ md_letter_36 = ((2 : Int32)) → wpJ_X8_readHead_251 md_text md_textSize  post md_place_44 md_letter_36 md_first_37 s1_42 md_third_39 md_side_40 md_hang_41 ((0 : Int32)) ((4 : Int32))) ∧ (md_letter_36 = ((2 : Int32)) → wpJ_X8_readHead_251 md_text md_textSize  post md_place_44 md_letter_36 md_first_37 s1_42 md_third_39 md_side_40 md_hang_41 ((0 : Int32)) ((3 : Int32)))) ∧ (md_letter_36 = ((4 : Int32)) → wp_X8_number md_text md_textSize md_place_44 ((1 : Int32)) ((99 : Int32)) (fun (r_83 : Int32) (md_place_82 : Int32) => wpJ_X8_readHead_254 md_text md_textSize  post md_place_82 md_letter_36 md_first_37 s1_42 md_third_39 md_side_40 md_hang_41 r_83))) ∧ (r_45 = 0 → post ((0 : Int32)) md_place_44 md_letter_36 md_first_37 s1_42 md_third_39 md_side_40 md_hang_41)))
def wpJ_X8_readHead_68 (md_text : Nat → Int32) (md_textSize : Int32)  (post : Int32 → Int32 → Int32 → Int32 → Int32 → Int32 → Int32 → Int32 → Prop) (md_place_16 : Int32) (md_letter_17 : Int32) (md_first_18 : Int32) (md_second_19 : Int32) (md_third_20 : Int32) (md_side_21 : Int32) (md_hang_22 : Int32) (s1_23 : Int32) : Prop := (¬ s1_23 = ((-9 : Int32)) → (¬ s1_23 = ((3 : Int32)) → wp_X8_number md_text md_textSize md_place_16 ((0 : Int32)) ((2 : Int32)) (fun (r_27 : Int32) (md_place_26 : Int32) => (r_27 < 0 → post ((0 : Int32)) md_place_26 s1_23 r_27 ((-9 : Int32)) ((-9 : Int32)) ((-9 : Int32)) ((-9 : Int32))) ∧ (¬ r_27 < 0 → wp_X8_sign md_text md_textSize md_place_26 ((44 : Int32)) (fun (r_30 : Int32) (md_place_29 : Int32) => (¬ r_30 = 0 → (¬ s1_23 = ((4 : Int32)) → wp_X8_number md_text md_textSize md_place_29 ((1 : Int32)) ((99 : Int32)) (fun (r_34 : Int32) (md_place_33 : Int32) => wpJ_X8_readHead_196 md_text md_textSize  post md_place_33 s1_23 r_27 ((-9 : Int32)) ((-9 : Int32)) ((-9 : Int32)) ((-9 : Int32)) r_34)) ∧ (s1_23 = ((4 : Int32)) → wp_X8_number md_text md_textSize md_place_29 ((0 : Int32)) ((3 : Int32)) (fun (r_85 : Int32) (md_place_84 : Int32) => wpJ_X8_readHead_196 md_text md_textSize  post md_place_84 s1_23 r_27 ((-9 : Int32)) ((-9 : Int32)) ((-9 : Int32)) ((-9 : Int32)) r_85))) ∧ (r_30 = 0 → post ((0 : Int32)) md_place_29 s1_23 r_27 ((-9 : Int32)) ((-9 : Int32)) ((-9 : Int32)) ((-9 : Int32))))))) ∧ (s1_23 = ((3 : Int32)) → wp_X8_number md_text md_textSize md_place_16 ((0 : Int32)) ((4 : Int32)) (fun (r_87 : Int32) (md_place_86 : Int32) => (r_87 < 0 → post ((0 : Int32)) md_place_86 s1_23 r_87 ((-9 : Int32)) ((-9 : Int32)) ((-9 : Int32)) ((-9 : Int32))) ∧ (¬ r_87 < 0 → post ((1 : Int32)) md_place_86 s1_23 r_87 ((-9 : Int32)) ((-9 : Int32)) ((-9 : Int32)) ((-9 : Int32)))))) ∧ (s1_23 = ((-9 : Int32)) → post ((0 : Int32)) md_place_16 s1_23 ((-9 : Int32)) ((-9 : Int32)) ((-9 : Int32)) ((-9 : Int32)) ((-9 : Int32)))
def wp_X8_readHead (md_text : Nat → Int32) (md_textSize : Int32) (md_place : Int32) (md_letter : Int32) (md_first : Int32) (md_second : Int32) (md_third : Int32) (md_side : Int32) (md_hang : Int32)  (post : Int32 → Int32 → Int32 → Int32 → Int32 → Int32 → Int32 → Int32 → Prop) : Prop := wp_X8_sign md_text md_textSize md_place ((67 : Int32)) (fun (r_2 : Int32) (md_place_1 : Int32) => (r_2 = 0 → wp_X8_sign md_text md_textSize md_place_1 ((83 : Int32)) (fun (r_5 : Int32) (md_place_4 : Int32) => (r_5 = 0 → wp_X8_sign md_text md_textSize md_place_4 ((68 : Int32)) (fun (r_8 : Int32) (md_place_7 : Int32) => (r_8 = 0 → wp_X8_sign md_text md_textSize md_place_7 ((66 : Int32)) (fun (r_11 : Int32) (md_place_10 : Int32) => (r_11 = 0 → wp_X8_sign md_text md_textSize md_place_10 ((86 : Int32)) (fun (r_14 : Int32) (md_place_13 : Int32) => (r_14 = 0 → wpJ_X8_readHead_68 md_text md_textSize  post md_place_13 md_letter md_first md_second md_third md_side md_hang ((-9 : Int32))) ∧ (¬ r_14 = 0 → wpJ_X8_readHead_68 md_text md_textSize  post md_place_13 md_letter md_first md_second md_third md_side md_hang ((4 : Int32))))) ∧ (¬ r_11 = 0 → wpJ_X8_readHead_68 md_text md_textSize  post md_place_10 md_letter md_first md_second md_third md_side md_hang ((3 : Int32))))) ∧ (¬ r_8 = 0 → wpJ_X8_readHead_68 md_text md_textSize  post md_place_7 md_letter md_first md_second md_third md_side md_hang ((2 : Int32))))) ∧ (¬ r_5 = 0 → wpJ_X8_readHead_68 md_text md_textSize  post md_place_4 md_letter md_first md_second md_third md_side md_hang ((1 : Int32))))) ∧ (¬ r_2 = 0 → wpJ_X8_readHead_68 md_text md_textSize  post md_place_1 md_letter md_first md_second md_third md_side md_hang ((0 : Int32))))
set_option maxHeartbeats 4000000 in
set_option maxRecDepth 100000 in
theorem c_X8_readHead (l : Launch) (D : va_G) (cI cZ : ClassId) (md : Nat → Nat) (md_thrown : Int32) (md_text : Nat → Int32) (md_textSize : Int32) (md_place : Int32) (md_letter : Int32) (md_first : Int32) (md_second : Int32) (md_third : Int32) (md_side : Int32) (md_hang : Int32) (md_forms : Nat → Int32) (md_formMany : Nat → Int32) (md_seats : Nat → Int32) (md_now : Int32) (md_barAlways : Int32) (md_noPut : Int32) (md_far : Nat → Int32) (md_queue : Nat → Int32) (md_from : Nat → Int32) (md_by : Nat → Int32) (md_many : Int32) (md_is : Nat → Int32) (md_next : Nat → Int32) (md_rollSet : Nat → Int32) (md_rollAct : Nat → Int32) (md_rolls : Int32) (md_slots : Nat → Int32) (md_isKept : Nat → Int32)  (post : Int32 → Int32 → Int32 → Int32 → Int32 → Int32 → Int32 → Int32 → Prop) (hm : wp_X8_readHead md_text md_textSize md_place md_letter md_first md_second md_third md_side md_hang  post) : Mi l D cI cZ yX8_readHead cX8_readHead 1 .boolean 3 71 [.ref (md 0)] (W_md cI cZ md md_thrown md_text md_textSize md_place md_letter md_first md_second md_third md_side md_hang md_forms md_formMany md_seats md_now md_barAlways md_noPut md_far md_queue md_from md_by md_many md_is md_next md_rollSet md_rollAct md_rolls md_slots md_isKept) (S := Int32 × Int32 × Int32 × Int32 × Int32 × Int32 × Int32) (fun u => W_md cI cZ md md_thrown md_text md_textSize (u.1) (u.2.1) (u.2.2.1) (u.2.2.2.1) (u.2.2.2.2.1) (u.2.2.2.2.2.1) (u.2.2.2.2.2.2) md_forms md_formMany md_seats md_now md_barAlways md_noPut md_far md_queue md_from md_by md_many md_is md_next md_rollSet md_rollAct md_rolls md_slots md_isKept) (fun r u => post r u.1 u.2.1 u.2.2.1 u.2.2.2.1 u.2.2.2.2.1 u.2.2.2.2.2.1 u.2.2.2.2.2.2) := by
  refine mk_Mi (by decide +kernel) (Nat.le_of_ble_eq_true rfl) ?_
  intro Γ hl0 hD0 hC hR
  subst hl0
  subst hD0
  have hC : CX Γ cI cZ cX8_readHead RX8 1 3 71 := hC
  show VV Γ (W_md cI cZ md md_thrown md_text md_textSize md_place md_letter md_first md_second md_third md_side md_hang md_forms md_formMany md_seats md_now md_barAlways md_noPut md_far md_queue md_from md_by md_many md_is md_next md_rollSet md_rollAct md_rolls md_slots md_isKept) [(0, .ref (md 0))] 0 []
  have B_284 : ∀ (md_place_70 : Int32) (md_letter_71 : Int32) (md_first_72 : Int32) (md_second_73 : Int32) (md_third_74 : Int32) (md_side_75 : Int32) (md_hang_76 : Int32) (s1_77 : Int32), wpJ_X8_readHead_284 md_text md_textSize  post md_place_70 md_letter_71 md_first_72 md_second_73 md_third_74 md_side_75 md_hang_76 s1_77 → VV Γ (W_md cI cZ md md_thrown md_text md_textSize md_place_70 md_letter_71 md_first_72 md_second_73 md_third_74 md_side_75 md_hang_76 md_forms md_formMany md_seats md_now md_barAlways md_noPut md_far md_queue md_from md_by md_many md_is md_next md_rollSet md_rollAct md_rolls md_slots md_isKept) [(0, .ref (md 0))] 284 [.int s1_77, .ref (md 0)] := by
    intro  md_place_70 md_letter_71 md_first_72 md_second_73 md_third_74 md_side_75 md_hang_76 s1_77 hm
    unfold wpJ_X8_readHead_284 at hm
    refine x_put hC 5 tyX8_ok nmX8 inX8g 0 rfl rfl 8 (by decide) fl_X8_113 rfl (ty := .int) (by decide +kernel) rfl rfl (Nat.le_of_ble_eq_true rfl) (W_md cI cZ md md_thrown md_text md_textSize md_place_70 md_letter_71 md_first_72 md_second_73 md_third_74 s1_77 md_hang_76 md_forms md_formMany md_seats md_now md_barAlways md_noPut md_far md_queue md_from md_by md_many md_is md_next md_rollSet md_rollAct md_rolls md_slots md_isKept) rfl dX8_readHead_284 ?_
    refine x_aload_n hC 0 dX8_readHead_287 rfl ?_
    refine x_get hC 5 inX8g 0 rfl rfl 4 (by decide) fl_X8_101 rfl dX8_readHead_288 ?_
    refine x_iconst hC (2 : Int32) dX8_readHead_291 (by decide) ?_
    refine x_icmp_ne hC 302 dX8_readHead_292 (by decide) (fun c_78 => ?_) (fun c_78 => ?_)
    · replace hm := hm.1 c_78
      refine x_iconst hC (1 : Int32) dX8_readHead_302 (by decide) ?_
      refine x_goto hC 307 dX8_readHead_303 (by decide) ?_
      exact hR ((1 : Int32)) (md_place_70, md_letter_71, md_first_72, md_second_73, md_third_74, s1_77, md_hang_76) [(0, .ref (md 0))] 307 hm rfl dX8_readHead_307
    · replace hm := hm.2 c_78
      refine x_aload_n hC 0 dX8_readHead_295 rfl ?_
      refine x_get hC 5 inX8g 0 rfl rfl 8 (by decide) fl_X8_113 rfl dX8_readHead_296 ?_
      refine x_if_lt hC 306 dX8_readHead_299 (by decide) (fun c_79 => ?_) (fun c_79 => ?_)
      · replace hm := hm.1 c_79
        refine x_iconst hC (0 : Int32) dX8_readHead_306 (by decide) ?_
        exact hR ((0 : Int32)) (md_place_70, md_letter_71, md_first_72, md_second_73, md_third_74, s1_77, md_hang_76) [(0, .ref (md 0))] 307 hm rfl dX8_readHead_307
      · replace hm := hm.2 c_79
        refine x_iconst hC (1 : Int32) dX8_readHead_302 (by decide) ?_
        refine x_goto hC 307 dX8_readHead_303 (by decide) ?_
        exact hR ((1 : Int32)) (md_place_70, md_letter_71, md_first_72, md_second_73, md_third_74, s1_77, md_hang_76) [(0, .ref (md 0))] 307 hm rfl dX8_readHead_307
  have B_254 : ∀ (md_place_60 : Int32) (md_letter_61 : Int32) (md_first_62 : Int32) (md_second_63 : Int32) (md_third_64 : Int32) (md_side_65 : Int32) (md_hang_66 : Int32) (s1_67 : Int32), wpJ_X8_readHead_254 md_text md_textSize  post md_place_60 md_letter_61 md_first_62 md_second_63 md_third_64 md_side_65 md_hang_66 s1_67 → VV Γ (W_md cI cZ md md_thrown md_text md_textSize md_place_60 md_letter_61 md_first_62 md_second_63 md_third_64 md_side_65 md_hang_66 md_forms md_formMany md_seats md_now md_barAlways md_noPut md_far md_queue md_from md_by md_many md_is md_next md_rollSet md_rollAct md_rolls md_slots md_isKept) [(0, .ref (md 0))] 254 [.int s1_67, .ref (md 0)] := by
    intro  md_place_60 md_letter_61 md_first_62 md_second_63 md_third_64 md_side_65 md_hang_66 s1_67 hm
    unfold wpJ_X8_readHead_254 at hm
    refine x_put hC 5 tyX8_ok nmX8 inX8g 0 rfl rfl 7 (by decide) fl_X8_110 rfl (ty := .int) (by decide +kernel) rfl rfl (Nat.le_of_ble_eq_true rfl) (W_md cI cZ md md_thrown md_text md_textSize md_place_60 md_letter_61 md_first_62 md_second_63 s1_67 md_side_65 md_hang_66 md_forms md_formMany md_seats md_now md_barAlways md_noPut md_far md_queue md_from md_by md_many md_is md_next md_rollSet md_rollAct md_rolls md_slots md_isKept) rfl dX8_readHead_254 ?_
    refine x_aload_n hC 0 dX8_readHead_257 rfl ?_
    refine x_get hC 5 inX8g 0 rfl rfl 7 (by decide) fl_X8_110 rfl dX8_readHead_258 ?_
    refine x_if_ge hC 266 dX8_readHead_261 (by decide) (fun c_68 => ?_) (fun c_68 => ?_)
    · replace hm := hm.1 c_68
      refine x_aload_n hC 0 dX8_readHead_266 rfl ?_
      refine x_aload_n hC 0 dX8_readHead_267 rfl ?_
      refine x_get hC 5 inX8g 0 rfl rfl 4 (by decide) fl_X8_101 rfl dX8_readHead_268 ?_
      refine x_iconst hC (2 : Int32) dX8_readHead_271 (by decide) ?_
      refine x_icmp_ne hC 282 dX8_readHead_272 (by decide) (fun c_69 => ?_) (fun c_69 => ?_)
      · replace hm := hm.1 c_69
        refine x_bipush hC (-9 : Int32) dX8_readHead_282 (by decide) ?_
        exact B_284   md_place_60 md_letter_61 md_first_62 md_second_63 s1_67 md_side_65 md_hang_66 ((-9 : Int32)) hm
      · replace hm := hm.2 c_69
        refine x_aload_n hC 0 dX8_readHead_275 rfl ?_
        refine x_callVi hC _ [0, 1, 2, 3, 4, 5, 6, 7, 8, 9, 10, 11, 12, 13, 14] [] [0, 1, 2, 3, 4, 5, 6, 7, 8, 9, 10, 11, 12, 13, 14] (([] : va_W)) (fun u => W_md cI cZ md md_thrown md_text md_textSize u md_letter_61 md_first_62 md_second_63 s1_67 md_side_65 md_hang_66 md_forms md_formMany md_seats md_now md_barAlways md_noPut md_far md_queue md_from md_by md_many md_is md_next md_rollSet md_rollAct md_rolls md_slots md_isKept) ok_X8_plus ml_X8_123 0 5 (c_X8_plus (gl Γ) (gD Γ) cI cZ md md_thrown md_text md_textSize md_place_60 md_letter_61 md_first_62 md_second_63 s1_67 md_side_65 md_hang_66 md_forms md_formMany md_seats md_now md_barAlways md_noPut md_far md_queue md_from md_by md_many md_is md_next md_rollSet md_rollAct md_rolls md_slots md_isKept  _ hm) (by decide) (by decide) rfl (Nat.le_of_ble_eq_true rfl) rfl rfl rfl rfl (by decide) rfl (fun _ => rfl) rfl rfl rfl rfl dX8_readHead_276 ?_
        rintro r_81 md_place_80 hm
        refine x_goto hC 284 dX8_readHead_279 (by decide) ?_
        exact B_284   md_place_80 md_letter_61 md_first_62 md_second_63 s1_67 md_side_65 md_hang_66 r_81 hm
    · replace hm := hm.2 c_68
      refine x_iconst hC (0 : Int32) dX8_readHead_264 (by decide) ?_
      exact hR ((0 : Int32)) (md_place_60, md_letter_61, md_first_62, md_second_63, s1_67, md_side_65, md_hang_66) [(0, .ref (md 0))] 265 hm rfl dX8_readHead_265
  have B_251 : ∀ (md_place_49 : Int32) (md_letter_50 : Int32) (md_first_51 : Int32) (md_second_52 : Int32) (md_third_53 : Int32) (md_side_54 : Int32) (md_hang_55 : Int32) (s2_56 : Int32) (s3_57 : Int32), wpJ_X8_readHead_251 md_text md_textSize  post md_place_49 md_letter_50 md_first_51 md_second_52 md_third_53 md_side_54 md_hang_55 s2_56 s3_57 → VV Γ (W_md cI cZ md md_thrown md_text md_textSize md_place_49 md_letter_50 md_first_51 md_second_52 md_third_53 md_side_54 md_hang_55 md_forms md_formMany md_seats md_now md_barAlways md_noPut md_far md_queue md_from md_by md_many md_is md_next md_rollSet md_rollAct md_rolls md_slots md_isKept) [(0, .ref (md 0))] 251 [.int s3_57, .int s2_56, .ref (md 0), .ref (md 0)] := by
    intro  md_place_49 md_letter_50 md_first_51 md_second_52 md_third_53 md_side_54 md_hang_55 s2_56 s3_57 hm
    unfold wpJ_X8_readHead_251 at hm
    refine x_callVi hC _ [0, 1, 2, 3, 4, 5, 6, 7, 8, 9, 10, 11, 12, 13, 14] [] [0, 1, 2, 3, 4, 5, 6, 7, 8, 9, 10, 11, 12, 13, 14] (([] : va_W)) (fun u => W_md cI cZ md md_thrown md_text md_textSize u md_letter_50 md_first_51 md_second_52 md_third_53 md_side_54 md_hang_55 md_forms md_formMany md_seats md_now md_barAlways md_noPut md_far md_queue md_from md_by md_many md_is md_next md_rollSet md_rollAct md_rolls md_slots md_isKept) ok_X8_number ml_X8_119 0 5 (c_X8_number (gl Γ) (gD Γ) cI cZ md md_thrown md_text md_textSize md_place_49 md_letter_50 md_first_51 md_second_52 md_third_53 md_side_54 md_hang_55 md_forms md_formMany md_seats md_now md_barAlways md_noPut md_far md_queue md_from md_by md_many md_is md_next md_rollSet md_rollAct md_rolls md_slots md_isKept s2_56 s3_57 _ hm) (by decide) (by decide) rfl (Nat.le_of_ble_eq_true rfl) rfl rfl rfl rfl (by decide) rfl (fun _ => rfl) rfl rfl rfl rfl dX8_readHead_251 ?_
    rintro r_59 md_place_58 hm
    exact B_254   md_place_58 md_letter_50 md_first_51 md_second_52 md_third_53 md_side_54 md_hang_55 r_59 hm
  have B_196 : ∀ (md_place_35 : Int32) (md_letter_36 : Int32) (md_first_37 : Int32) (md_second_38 : Int32) (md_third_39 : Int32) (md_side_40 : Int32) (md_hang_41 : Int32) (s1_42 : Int32), wpJ_X8_readHead_196 md_text md_textSize  post md_place_35 md_letter_36 md_first_37 md_second_38 md_third_39 md_side_40 md_hang_41 s1_42 → VV Γ (W_md cI cZ md md_thrown md_text md_textSize md_place_35 md_letter_36 md_first_37 md_second_38 md_third_39 md_side_40 md_hang_41 md_forms md_formMany md_seats md_now md_barAlways md_noPut md_far md_queue md_from md_by md_many md_is md_next md_rollSet md_rollAct md_rolls md_slots md_isKept) [(0, .ref (md 0))] 196 [.int s1_42, .ref (md 0)] := by
    intro  md_place_35 md_letter_36 md_first_37 md_second_38 md_third_39 md_side_40 md_hang_41 s1_42 hm
    unfold wpJ_X8_readHead_196 at hm
    refine x_put hC 5 tyX8_ok nmX8 inX8g 0 rfl rfl 6 (by decide) fl_X8_107 rfl (ty := .int) (by decide +kernel) rfl rfl (Nat.le_of_ble_eq_true rfl) (W_md cI cZ md md_thrown md_text md_textSize md_place_35 md_letter_36 md_first_37 s1_42 md_third_39 md_side_40 md_hang_41 md_forms md_formMany md_seats md_now md_barAlways md_noPut md_far md_queue md_from md_by md_many md_is md_next md_rollSet md_rollAct md_rolls md_slots md_isKept) rfl dX8_readHead_196 ?_
    refine x_aload_n hC 0 dX8_readHead_199 rfl ?_
    refine x_get hC 5 inX8g 0 rfl rfl 6 (by decide) fl_X8_107 rfl dX8_readHead_200 ?_
    refine x_if_lt hC 215 dX8_readHead_203 (by decide) (fun c_43 => ?_) (fun c_43 => ?_)
    · replace hm := hm.1 c_43
      refine x_iconst hC (0 : Int32) dX8_readHead_215 (by decide) ?_
      exact hR ((0 : Int32)) (md_place_35, md_letter_36, md_first_37, s1_42, md_third_39, md_side_40, md_hang_41) [(0, .ref (md 0))] 216 hm rfl dX8_readHead_216
    · replace hm := hm.2 c_43
      refine x_aload_n hC 0 dX8_readHead_206 rfl ?_
      refine x_bipush hC (44 : Int32) dX8_readHead_207 (by decide) ?_
      refine x_callVi hC _ [0, 1, 2, 3, 4, 5, 6, 7, 8, 9, 10, 11, 12, 13, 14] [] [0, 1, 2, 3, 4, 5, 6, 7, 8, 9, 10, 11, 12, 13, 14] (([] : va_W)) (fun u => W_md cI cZ md md_thrown md_text md_textSize u md_letter_36 md_first_37 s1_42 md_third_39 md_side_40 md_hang_41 md_forms md_formMany md_seats md_now md_barAlways md_noPut md_far md_queue md_from md_by md_many md_is md_next md_rollSet md_rollAct md_rolls md_slots md_isKept) ok_X8_sign ml_X8_98 0 5 (c_X8_sign (gl Γ) (gD Γ) cI cZ md md_thrown md_text md_textSize md_place_35 md_letter_36 md_first_37 s1_42 md_third_39 md_side_40 md_hang_41 md_forms md_formMany md_seats md_now md_barAlways md_noPut md_far md_queue md_from md_by md_many md_is md_next md_rollSet md_rollAct md_rolls md_slots md_isKept ((44 : Int32)) _ hm) (by decide) (by decide) rfl (Nat.le_of_ble_eq_true rfl) rfl rfl rfl rfl (by decide) rfl (fun _ => rfl) rfl rfl rfl rfl dX8_readHead_209 ?_
      rintro r_45 md_place_44 hm
      refine x_if_ne hC 217 dX8_readHead_212 (by decide) (fun c_46 => ?_) (fun c_46 => ?_)
      · replace hm := hm.1 c_46
        refine x_aload_n hC 0 dX8_readHead_217 rfl ?_
        refine x_aload_n hC 0 dX8_readHead_218 rfl ?_
        refine x_get hC 5 inX8g 0 rfl rfl 4 (by decide) fl_X8_101 rfl dX8_readHead_219 ?_
        refine x_iconst hC (4 : Int32) dX8_readHead_222 (by decide) ?_
        refine x_icmp_ne hC 236 dX8_readHead_223 (by decide) (fun c_47 => ?_) (fun c_47 => ?_)
        · replace hm := hm.1 c_47
          refine x_aload_n hC 0 dX8_readHead_236 rfl ?_
          refine x_iconst hC (0 : Int32) dX8_readHead_237 (by decide) ?_
          refine x_aload_n hC 0 dX8_readHead_238 rfl ?_
          refine x_get hC 5 inX8g 0 rfl rfl 4 (by decide) fl_X8_101 rfl dX8_readHead_239 ?_
          refine x_iconst hC (2 : Int32) dX8_readHead_242 (by decide) ?_
          refine x_icmp_ne hC 250 dX8_readHead_243 (by decide) (fun c_48 => ?_) (fun c_48 => ?_)
          · replace hm := hm.1 c_48
            refine x_iconst hC (4 : Int32) dX8_readHead_250 (by decide) ?_
            exact B_251   md_place_44 md_letter_36 md_first_37 s1_42 md_third_39 md_side_40 md_hang_41 ((0 : Int32)) ((4 : Int32)) hm
          · replace hm := hm.2 c_48
            refine x_iconst hC (3 : Int32) dX8_readHead_246 (by decide) ?_
            refine x_goto hC 251 dX8_readHead_247 (by decide) ?_
            exact B_251   md_place_44 md_letter_36 md_first_37 s1_42 md_third_39 md_side_40 md_hang_41 ((0 : Int32)) ((3 : Int32)) hm
        · replace hm := hm.2 c_47
          refine x_aload_n hC 0 dX8_readHead_226 rfl ?_
          refine x_iconst hC (1 : Int32) dX8_readHead_227 (by decide) ?_
          refine x_bipush hC (99 : Int32) dX8_readHead_228 (by decide) ?_
          refine x_callVi hC _ [0, 1, 2, 3, 4, 5, 6, 7, 8, 9, 10, 11, 12, 13, 14] [] [0, 1, 2, 3, 4, 5, 6, 7, 8, 9, 10, 11, 12, 13, 14] (([] : va_W)) (fun u => W_md cI cZ md md_thrown md_text md_textSize u md_letter_36 md_first_37 s1_42 md_third_39 md_side_40 md_hang_41 md_forms md_formMany md_seats md_now md_barAlways md_noPut md_far md_queue md_from md_by md_many md_is md_next md_rollSet md_rollAct md_rolls md_slots md_isKept) ok_X8_number ml_X8_119 0 5 (c_X8_number (gl Γ) (gD Γ) cI cZ md md_thrown md_text md_textSize md_place_44 md_letter_36 md_first_37 s1_42 md_third_39 md_side_40 md_hang_41 md_forms md_formMany md_seats md_now md_barAlways md_noPut md_far md_queue md_from md_by md_many md_is md_next md_rollSet md_rollAct md_rolls md_slots md_isKept ((1 : Int32)) ((99 : Int32)) _ hm) (by decide) (by decide) rfl (Nat.le_of_ble_eq_true rfl) rfl rfl rfl rfl (by decide) rfl (fun _ => rfl) rfl rfl rfl rfl dX8_readHead_230 ?_
          rintro r_83 md_place_82 hm
          refine x_goto hC 254 dX8_readHead_233 (by decide) ?_
          exact B_254   md_place_82 md_letter_36 md_first_37 s1_42 md_third_39 md_side_40 md_hang_41 r_83 hm
      · replace hm := hm.2 c_46
        refine x_iconst hC (0 : Int32) dX8_readHead_215 (by decide) ?_
        exact hR ((0 : Int32)) (md_place_44, md_letter_36, md_first_37, s1_42, md_third_39, md_side_40, md_hang_41) [(0, .ref (md 0))] 216 hm rfl dX8_readHead_216
  have B_68 : ∀ (md_place_16 : Int32) (md_letter_17 : Int32) (md_first_18 : Int32) (md_second_19 : Int32) (md_third_20 : Int32) (md_side_21 : Int32) (md_hang_22 : Int32) (s1_23 : Int32), wpJ_X8_readHead_68 md_text md_textSize  post md_place_16 md_letter_17 md_first_18 md_second_19 md_third_20 md_side_21 md_hang_22 s1_23 → VV Γ (W_md cI cZ md md_thrown md_text md_textSize md_place_16 md_letter_17 md_first_18 md_second_19 md_third_20 md_side_21 md_hang_22 md_forms md_formMany md_seats md_now md_barAlways md_noPut md_far md_queue md_from md_by md_many md_is md_next md_rollSet md_rollAct md_rolls md_slots md_isKept) [(0, .ref (md 0))] 68 [.int s1_23, .ref (md 0)] := by
    intro  md_place_16 md_letter_17 md_first_18 md_second_19 md_third_20 md_side_21 md_hang_22 s1_23 hm
    unfold wpJ_X8_readHead_68 at hm
    refine x_put hC 5 tyX8_ok nmX8 inX8g 0 rfl rfl 4 (by decide) fl_X8_101 rfl (ty := .int) (by decide +kernel) rfl rfl (Nat.le_of_ble_eq_true rfl) (W_md cI cZ md md_thrown md_text md_textSize md_place_16 s1_23 md_first_18 md_second_19 md_third_20 md_side_21 md_hang_22 md_forms md_formMany md_seats md_now md_barAlways md_noPut md_far md_queue md_from md_by md_many md_is md_next md_rollSet md_rollAct md_rolls md_slots md_isKept) rfl dX8_readHead_68 ?_
    refine x_aload_n hC 0 dX8_readHead_71 rfl ?_
    refine x_bipush hC (-9 : Int32) dX8_readHead_72 (by decide) ?_
    refine x_put hC 5 tyX8_ok nmX8 inX8g 0 rfl rfl 5 (by decide) fl_X8_104 rfl (ty := .int) (by decide +kernel) rfl rfl (Nat.le_of_ble_eq_true rfl) (W_md cI cZ md md_thrown md_text md_textSize md_place_16 s1_23 ((-9 : Int32)) md_second_19 md_third_20 md_side_21 md_hang_22 md_forms md_formMany md_seats md_now md_barAlways md_noPut md_far md_queue md_from md_by md_many md_is md_next md_rollSet md_rollAct md_rolls md_slots md_isKept) rfl dX8_readHead_74 ?_
    refine x_aload_n hC 0 dX8_readHead_77 rfl ?_
    refine x_bipush hC (-9 : Int32) dX8_readHead_78 (by decide) ?_
    refine x_put hC 5 tyX8_ok nmX8 inX8g 0 rfl rfl 6 (by decide) fl_X8_107 rfl (ty := .int) (by decide +kernel) rfl rfl (Nat.le_of_ble_eq_true rfl) (W_md cI cZ md md_thrown md_text md_textSize md_place_16 s1_23 ((-9 : Int32)) ((-9 : Int32)) md_third_20 md_side_21 md_hang_22 md_forms md_formMany md_seats md_now md_barAlways md_noPut md_far md_queue md_from md_by md_many md_is md_next md_rollSet md_rollAct md_rolls md_slots md_isKept) rfl dX8_readHead_80 ?_
    refine x_aload_n hC 0 dX8_readHead_83 rfl ?_
    refine x_bipush hC (-9 : Int32) dX8_readHead_84 (by decide) ?_
    refine x_put hC 5 tyX8_ok nmX8 inX8g 0 rfl rfl 7 (by decide) fl_X8_110 rfl (ty := .int) (by decide +kernel) rfl rfl (Nat.le_of_ble_eq_true rfl) (W_md cI cZ md md_thrown md_text md_textSize md_place_16 s1_23 ((-9 : Int32)) ((-9 : Int32)) ((-9 : Int32)) md_side_21 md_hang_22 md_forms md_formMany md_seats md_now md_barAlways md_noPut md_far md_queue md_from md_by md_many md_is md_next md_rollSet md_rollAct md_rolls md_slots md_isKept) rfl dX8_readHead_86 ?_
    refine x_aload_n hC 0 dX8_readHead_89 rfl ?_
    refine x_bipush hC (-9 : Int32) dX8_readHead_90 (by decide) ?_
    refine x_put hC 5 tyX8_ok nmX8 inX8g 0 rfl rfl 8 (by decide) fl_X8_113 rfl (ty := .int) (by decide +kernel) rfl rfl (Nat.le_of_ble_eq_true rfl) (W_md cI cZ md md_thrown md_text md_textSize md_place_16 s1_23 ((-9 : Int32)) ((-9 : Int32)) ((-9 : Int32)) ((-9 : Int32)) md_hang_22 md_forms md_formMany md_seats md_now md_barAlways md_noPut md_far md_queue md_from md_by md_many md_is md_next md_rollSet md_rollAct md_rolls md_slots md_isKept) rfl dX8_readHead_92 ?_
    refine x_aload_n hC 0 dX8_readHead_95 rfl ?_
    refine x_bipush hC (-9 : Int32) dX8_readHead_96 (by decide) ?_
    refine x_put hC 5 tyX8_ok nmX8 inX8g 0 rfl rfl 9 (by decide) fl_X8_116 rfl (ty := .int) (by decide +kernel) rfl rfl (Nat.le_of_ble_eq_true rfl) (W_md cI cZ md md_thrown md_text md_textSize md_place_16 s1_23 ((-9 : Int32)) ((-9 : Int32)) ((-9 : Int32)) ((-9 : Int32)) ((-9 : Int32)) md_forms md_formMany md_seats md_now md_barAlways md_noPut md_far md_queue md_from md_by md_many md_is md_next md_rollSet md_rollAct md_rolls md_slots md_isKept) rfl dX8_readHead_98 ?_
    refine x_aload_n hC 0 dX8_readHead_101 rfl ?_
    refine x_get hC 5 inX8g 0 rfl rfl 4 (by decide) fl_X8_101 rfl dX8_readHead_102 ?_
    refine x_bipush hC (-9 : Int32) dX8_readHead_105 (by decide) ?_
    refine x_icmp_ne hC 112 dX8_readHead_107 (by decide) (fun c_24 => ?_) (fun c_24 => ?_)
    · replace hm := hm.1 c_24
      refine x_aload_n hC 0 dX8_readHead_112 rfl ?_
      refine x_get hC 5 inX8g 0 rfl rfl 4 (by decide) fl_X8_101 rfl dX8_readHead_113 ?_
      refine x_iconst hC (3 : Int32) dX8_readHead_116 (by decide) ?_
      refine x_icmp_ne hC 143 dX8_readHead_117 (by decide) (fun c_25 => ?_) (fun c_25 => ?_)
      · replace hm := hm.1 c_25
        refine x_aload_n hC 0 dX8_readHead_143 rfl ?_
        refine x_aload_n hC 0 dX8_readHead_144 rfl ?_
        refine x_iconst hC (0 : Int32) dX8_readHead_145 (by decide) ?_
        refine x_iconst hC (2 : Int32) dX8_readHead_146 (by decide) ?_
        refine x_callVi hC _ [0, 1, 2, 3, 4, 5, 6, 7, 8, 9, 10, 11, 12, 13, 14] [] [0, 1, 2, 3, 4, 5, 6, 7, 8, 9, 10, 11, 12, 13, 14] (([] : va_W)) (fun u => W_md cI cZ md md_thrown md_text md_textSize u s1_23 ((-9 : Int32)) ((-9 : Int32)) ((-9 : Int32)) ((-9 : Int32)) ((-9 : Int32)) md_forms md_formMany md_seats md_now md_barAlways md_noPut md_far md_queue md_from md_by md_many md_is md_next md_rollSet md_rollAct md_rolls md_slots md_isKept) ok_X8_number ml_X8_119 0 5 (c_X8_number (gl Γ) (gD Γ) cI cZ md md_thrown md_text md_textSize md_place_16 s1_23 ((-9 : Int32)) ((-9 : Int32)) ((-9 : Int32)) ((-9 : Int32)) ((-9 : Int32)) md_forms md_formMany md_seats md_now md_barAlways md_noPut md_far md_queue md_from md_by md_many md_is md_next md_rollSet md_rollAct md_rolls md_slots md_isKept ((0 : Int32)) ((2 : Int32)) _ hm) (by decide) (by decide) rfl (Nat.le_of_ble_eq_true rfl) rfl rfl rfl rfl (by decide) rfl (fun _ => rfl) rfl rfl rfl rfl dX8_readHead_147 ?_
        rintro r_27 md_place_26 hm
        refine x_put hC 5 tyX8_ok nmX8 inX8g 0 rfl rfl 5 (by decide) fl_X8_104 rfl (ty := .int) (by decide +kernel) rfl rfl (Nat.le_of_ble_eq_true rfl) (W_md cI cZ md md_thrown md_text md_textSize md_place_26 s1_23 r_27 ((-9 : Int32)) ((-9 : Int32)) ((-9 : Int32)) ((-9 : Int32)) md_forms md_formMany md_seats md_now md_barAlways md_noPut md_far md_queue md_from md_by md_many md_is md_next md_rollSet md_rollAct md_rolls md_slots md_isKept) rfl dX8_readHead_150 ?_
        refine x_aload_n hC 0 dX8_readHead_153 rfl ?_
        refine x_get hC 5 inX8g 0 rfl rfl 5 (by decide) fl_X8_104 rfl dX8_readHead_154 ?_
        refine x_if_lt hC 169 dX8_readHead_157 (by decide) (fun c_28 => ?_) (fun c_28 => ?_)
        · replace hm := hm.1 c_28
          refine x_iconst hC (0 : Int32) dX8_readHead_169 (by decide) ?_
          exact hR ((0 : Int32)) (md_place_26, s1_23, r_27, (-9 : Int32), (-9 : Int32), (-9 : Int32), (-9 : Int32)) [(0, .ref (md 0))] 170 hm rfl dX8_readHead_170
        · replace hm := hm.2 c_28
          refine x_aload_n hC 0 dX8_readHead_160 rfl ?_
          refine x_bipush hC (44 : Int32) dX8_readHead_161 (by decide) ?_
          refine x_callVi hC _ [0, 1, 2, 3, 4, 5, 6, 7, 8, 9, 10, 11, 12, 13, 14] [] [0, 1, 2, 3, 4, 5, 6, 7, 8, 9, 10, 11, 12, 13, 14] (([] : va_W)) (fun u => W_md cI cZ md md_thrown md_text md_textSize u s1_23 r_27 ((-9 : Int32)) ((-9 : Int32)) ((-9 : Int32)) ((-9 : Int32)) md_forms md_formMany md_seats md_now md_barAlways md_noPut md_far md_queue md_from md_by md_many md_is md_next md_rollSet md_rollAct md_rolls md_slots md_isKept) ok_X8_sign ml_X8_98 0 5 (c_X8_sign (gl Γ) (gD Γ) cI cZ md md_thrown md_text md_textSize md_place_26 s1_23 r_27 ((-9 : Int32)) ((-9 : Int32)) ((-9 : Int32)) ((-9 : Int32)) md_forms md_formMany md_seats md_now md_barAlways md_noPut md_far md_queue md_from md_by md_many md_is md_next md_rollSet md_rollAct md_rolls md_slots md_isKept ((44 : Int32)) _ hm) (by decide) (by decide) rfl (Nat.le_of_ble_eq_true rfl) rfl rfl rfl rfl (by decide) rfl (fun _ => rfl) rfl rfl rfl rfl dX8_readHead_163 ?_
          rintro r_30 md_place_29 hm
          refine x_if_ne hC 171 dX8_readHead_166 (by decide) (fun c_31 => ?_) (fun c_31 => ?_)
          · replace hm := hm.1 c_31
            refine x_aload_n hC 0 dX8_readHead_171 rfl ?_
            refine x_aload_n hC 0 dX8_readHead_172 rfl ?_
            refine x_get hC 5 inX8g 0 rfl rfl 4 (by decide) fl_X8_101 rfl dX8_readHead_173 ?_
            refine x_iconst hC (4 : Int32) dX8_readHead_176 (by decide) ?_
            refine x_icmp_ne hC 189 dX8_readHead_177 (by decide) (fun c_32 => ?_) (fun c_32 => ?_)
            · replace hm := hm.1 c_32
              refine x_aload_n hC 0 dX8_readHead_189 rfl ?_
              refine x_iconst hC (1 : Int32) dX8_readHead_190 (by decide) ?_
              refine x_bipush hC (99 : Int32) dX8_readHead_191 (by decide) ?_
              refine x_callVi hC _ [0, 1, 2, 3, 4, 5, 6, 7, 8, 9, 10, 11, 12, 13, 14] [] [0, 1, 2, 3, 4, 5, 6, 7, 8, 9, 10, 11, 12, 13, 14] (([] : va_W)) (fun u => W_md cI cZ md md_thrown md_text md_textSize u s1_23 r_27 ((-9 : Int32)) ((-9 : Int32)) ((-9 : Int32)) ((-9 : Int32)) md_forms md_formMany md_seats md_now md_barAlways md_noPut md_far md_queue md_from md_by md_many md_is md_next md_rollSet md_rollAct md_rolls md_slots md_isKept) ok_X8_number ml_X8_119 0 5 (c_X8_number (gl Γ) (gD Γ) cI cZ md md_thrown md_text md_textSize md_place_29 s1_23 r_27 ((-9 : Int32)) ((-9 : Int32)) ((-9 : Int32)) ((-9 : Int32)) md_forms md_formMany md_seats md_now md_barAlways md_noPut md_far md_queue md_from md_by md_many md_is md_next md_rollSet md_rollAct md_rolls md_slots md_isKept ((1 : Int32)) ((99 : Int32)) _ hm) (by decide) (by decide) rfl (Nat.le_of_ble_eq_true rfl) rfl rfl rfl rfl (by decide) rfl (fun _ => rfl) rfl rfl rfl rfl dX8_readHead_193 ?_
              rintro r_34 md_place_33 hm
              exact B_196   md_place_33 s1_23 r_27 ((-9 : Int32)) ((-9 : Int32)) ((-9 : Int32)) ((-9 : Int32)) r_34 hm
            · replace hm := hm.2 c_32
              refine x_aload_n hC 0 dX8_readHead_180 rfl ?_
              refine x_iconst hC (0 : Int32) dX8_readHead_181 (by decide) ?_
              refine x_iconst hC (3 : Int32) dX8_readHead_182 (by decide) ?_
              refine x_callVi hC _ [0, 1, 2, 3, 4, 5, 6, 7, 8, 9, 10, 11, 12, 13, 14] [] [0, 1, 2, 3, 4, 5, 6, 7, 8, 9, 10, 11, 12, 13, 14] (([] : va_W)) (fun u => W_md cI cZ md md_thrown md_text md_textSize u s1_23 r_27 ((-9 : Int32)) ((-9 : Int32)) ((-9 : Int32)) ((-9 : Int32)) md_forms md_formMany md_seats md_now md_barAlways md_noPut md_far md_queue md_from md_by md_many md_is md_next md_rollSet md_rollAct md_rolls md_slots md_isKept) ok_X8_number ml_X8_119 0 5 (c_X8_number (gl Γ) (gD Γ) cI cZ md md_thrown md_text md_textSize md_place_29 s1_23 r_27 ((-9 : Int32)) ((-9 : Int32)) ((-9 : Int32)) ((-9 : Int32)) md_forms md_formMany md_seats md_now md_barAlways md_noPut md_far md_queue md_from md_by md_many md_is md_next md_rollSet md_rollAct md_rolls md_slots md_isKept ((0 : Int32)) ((3 : Int32)) _ hm) (by decide) (by decide) rfl (Nat.le_of_ble_eq_true rfl) rfl rfl rfl rfl (by decide) rfl (fun _ => rfl) rfl rfl rfl rfl dX8_readHead_183 ?_
              rintro r_85 md_place_84 hm
              refine x_goto hC 196 dX8_readHead_186 (by decide) ?_
              exact B_196   md_place_84 s1_23 r_27 ((-9 : Int32)) ((-9 : Int32)) ((-9 : Int32)) ((-9 : Int32)) r_85 hm
          · replace hm := hm.2 c_31
            refine x_iconst hC (0 : Int32) dX8_readHead_169 (by decide) ?_
            exact hR ((0 : Int32)) (md_place_29, s1_23, r_27, (-9 : Int32), (-9 : Int32), (-9 : Int32), (-9 : Int32)) [(0, .ref (md 0))] 170 hm rfl dX8_readHead_170
      · replace hm := hm.2 c_25
        refine x_aload_n hC 0 dX8_readHead_120 rfl ?_
        refine x_aload_n hC 0 dX8_readHead_121 rfl ?_
        refine x_iconst hC (0 : Int32) dX8_readHead_122 (by decide) ?_
        refine x_iconst hC (4 : Int32) dX8_readHead_123 (by decide) ?_
        refine x_callVi hC _ [0, 1, 2, 3, 4, 5, 6, 7, 8, 9, 10, 11, 12, 13, 14] [] [0, 1, 2, 3, 4, 5, 6, 7, 8, 9, 10, 11, 12, 13, 14] (([] : va_W)) (fun u => W_md cI cZ md md_thrown md_text md_textSize u s1_23 ((-9 : Int32)) ((-9 : Int32)) ((-9 : Int32)) ((-9 : Int32)) ((-9 : Int32)) md_forms md_formMany md_seats md_now md_barAlways md_noPut md_far md_queue md_from md_by md_many md_is md_next md_rollSet md_rollAct md_rolls md_slots md_isKept) ok_X8_number ml_X8_119 0 5 (c_X8_number (gl Γ) (gD Γ) cI cZ md md_thrown md_text md_textSize md_place_16 s1_23 ((-9 : Int32)) ((-9 : Int32)) ((-9 : Int32)) ((-9 : Int32)) ((-9 : Int32)) md_forms md_formMany md_seats md_now md_barAlways md_noPut md_far md_queue md_from md_by md_many md_is md_next md_rollSet md_rollAct md_rolls md_slots md_isKept ((0 : Int32)) ((4 : Int32)) _ hm) (by decide) (by decide) rfl (Nat.le_of_ble_eq_true rfl) rfl rfl rfl rfl (by decide) rfl (fun _ => rfl) rfl rfl rfl rfl dX8_readHead_124 ?_
        rintro r_87 md_place_86 hm
        refine x_put hC 5 tyX8_ok nmX8 inX8g 0 rfl rfl 5 (by decide) fl_X8_104 rfl (ty := .int) (by decide +kernel) rfl rfl (Nat.le_of_ble_eq_true rfl) (W_md cI cZ md md_thrown md_text md_textSize md_place_86 s1_23 r_87 ((-9 : Int32)) ((-9 : Int32)) ((-9 : Int32)) ((-9 : Int32)) md_forms md_formMany md_seats md_now md_barAlways md_noPut md_far md_queue md_from md_by md_many md_is md_next md_rollSet md_rollAct md_rolls md_slots md_isKept) rfl dX8_readHead_127 ?_
        refine x_aload_n hC 0 dX8_readHead_130 rfl ?_
        refine x_get hC 5 inX8g 0 rfl rfl 5 (by decide) fl_X8_104 rfl dX8_readHead_131 ?_
        refine x_if_lt hC 141 dX8_readHead_134 (by decide) (fun c_88 => ?_) (fun c_88 => ?_)
        · replace hm := hm.1 c_88
          refine x_iconst hC (0 : Int32) dX8_readHead_141 (by decide) ?_
          exact hR ((0 : Int32)) (md_place_86, s1_23, r_87, (-9 : Int32), (-9 : Int32), (-9 : Int32), (-9 : Int32)) [(0, .ref (md 0))] 142 hm rfl dX8_readHead_142
        · replace hm := hm.2 c_88
          refine x_iconst hC (1 : Int32) dX8_readHead_137 (by decide) ?_
          refine x_goto hC 142 dX8_readHead_138 (by decide) ?_
          exact hR ((1 : Int32)) (md_place_86, s1_23, r_87, (-9 : Int32), (-9 : Int32), (-9 : Int32), (-9 : Int32)) [(0, .ref (md 0))] 142 hm rfl dX8_readHead_142
    · replace hm := hm.2 c_24
      refine x_iconst hC (0 : Int32) dX8_readHead_110 (by decide) ?_
      exact hR ((0 : Int32)) (md_place_16, s1_23, (-9 : Int32), (-9 : Int32), (-9 : Int32), (-9 : Int32), (-9 : Int32)) [(0, .ref (md 0))] 111 hm rfl dX8_readHead_111
  unfold wp_X8_readHead at hm
  refine x_aload_n hC 0 dX8_readHead_0 rfl ?_
  refine x_aload_n hC 0 dX8_readHead_1 rfl ?_
  refine x_bipush hC (67 : Int32) dX8_readHead_2 (by decide) ?_
  refine x_callVi hC _ [0, 1, 2, 3, 4, 5, 6, 7, 8, 9, 10, 11, 12, 13, 14] [] [0, 1, 2, 3, 4, 5, 6, 7, 8, 9, 10, 11, 12, 13, 14] (([] : va_W)) (fun u => W_md cI cZ md md_thrown md_text md_textSize u md_letter md_first md_second md_third md_side md_hang md_forms md_formMany md_seats md_now md_barAlways md_noPut md_far md_queue md_from md_by md_many md_is md_next md_rollSet md_rollAct md_rolls md_slots md_isKept) ok_X8_sign ml_X8_98 0 5 (c_X8_sign (gl Γ) (gD Γ) cI cZ md md_thrown md_text md_textSize md_place md_letter md_first md_second md_third md_side md_hang md_forms md_formMany md_seats md_now md_barAlways md_noPut md_far md_queue md_from md_by md_many md_is md_next md_rollSet md_rollAct md_rolls md_slots md_isKept ((67 : Int32)) _ hm) (by decide) (by decide) rfl (Nat.le_of_ble_eq_true rfl) rfl rfl rfl rfl (by decide) rfl (fun _ => rfl) rfl rfl rfl rfl dX8_readHead_4 ?_
  rintro r_2 md_place_1 hm
  refine x_if_eq hC 14 dX8_readHead_7 (by decide) (fun c_3 => ?_) (fun c_3 => ?_)
  · replace hm := hm.1 c_3
    refine x_aload_n hC 0 dX8_readHead_14 rfl ?_
    refine x_bipush hC (83 : Int32) dX8_readHead_15 (by decide) ?_
    refine x_callVi hC _ [0, 1, 2, 3, 4, 5, 6, 7, 8, 9, 10, 11, 12, 13, 14] [] [0, 1, 2, 3, 4, 5, 6, 7, 8, 9, 10, 11, 12, 13, 14] (([] : va_W)) (fun u => W_md cI cZ md md_thrown md_text md_textSize u md_letter md_first md_second md_third md_side md_hang md_forms md_formMany md_seats md_now md_barAlways md_noPut md_far md_queue md_from md_by md_many md_is md_next md_rollSet md_rollAct md_rolls md_slots md_isKept) ok_X8_sign ml_X8_98 0 5 (c_X8_sign (gl Γ) (gD Γ) cI cZ md md_thrown md_text md_textSize md_place_1 md_letter md_first md_second md_third md_side md_hang md_forms md_formMany md_seats md_now md_barAlways md_noPut md_far md_queue md_from md_by md_many md_is md_next md_rollSet md_rollAct md_rolls md_slots md_isKept ((83 : Int32)) _ hm) (by decide) (by decide) rfl (Nat.le_of_ble_eq_true rfl) rfl rfl rfl rfl (by decide) rfl (fun _ => rfl) rfl rfl rfl rfl dX8_readHead_17 ?_
    rintro r_5 md_place_4 hm
    refine x_if_eq hC 27 dX8_readHead_20 (by decide) (fun c_6 => ?_) (fun c_6 => ?_)
    · replace hm := hm.1 c_6
      refine x_aload_n hC 0 dX8_readHead_27 rfl ?_
      refine x_bipush hC (68 : Int32) dX8_readHead_28 (by decide) ?_
      refine x_callVi hC _ [0, 1, 2, 3, 4, 5, 6, 7, 8, 9, 10, 11, 12, 13, 14] [] [0, 1, 2, 3, 4, 5, 6, 7, 8, 9, 10, 11, 12, 13, 14] (([] : va_W)) (fun u => W_md cI cZ md md_thrown md_text md_textSize u md_letter md_first md_second md_third md_side md_hang md_forms md_formMany md_seats md_now md_barAlways md_noPut md_far md_queue md_from md_by md_many md_is md_next md_rollSet md_rollAct md_rolls md_slots md_isKept) ok_X8_sign ml_X8_98 0 5 (c_X8_sign (gl Γ) (gD Γ) cI cZ md md_thrown md_text md_textSize md_place_4 md_letter md_first md_second md_third md_side md_hang md_forms md_formMany md_seats md_now md_barAlways md_noPut md_far md_queue md_from md_by md_many md_is md_next md_rollSet md_rollAct md_rolls md_slots md_isKept ((68 : Int32)) _ hm) (by decide) (by decide) rfl (Nat.le_of_ble_eq_true rfl) rfl rfl rfl rfl (by decide) rfl (fun _ => rfl) rfl rfl rfl rfl dX8_readHead_30 ?_
      rintro r_8 md_place_7 hm
      refine x_if_eq hC 40 dX8_readHead_33 (by decide) (fun c_9 => ?_) (fun c_9 => ?_)
      · replace hm := hm.1 c_9
        refine x_aload_n hC 0 dX8_readHead_40 rfl ?_
        refine x_bipush hC (66 : Int32) dX8_readHead_41 (by decide) ?_
        refine x_callVi hC _ [0, 1, 2, 3, 4, 5, 6, 7, 8, 9, 10, 11, 12, 13, 14] [] [0, 1, 2, 3, 4, 5, 6, 7, 8, 9, 10, 11, 12, 13, 14] (([] : va_W)) (fun u => W_md cI cZ md md_thrown md_text md_textSize u md_letter md_first md_second md_third md_side md_hang md_forms md_formMany md_seats md_now md_barAlways md_noPut md_far md_queue md_from md_by md_many md_is md_next md_rollSet md_rollAct md_rolls md_slots md_isKept) ok_X8_sign ml_X8_98 0 5 (c_X8_sign (gl Γ) (gD Γ) cI cZ md md_thrown md_text md_textSize md_place_7 md_letter md_first md_second md_third md_side md_hang md_forms md_formMany md_seats md_now md_barAlways md_noPut md_far md_queue md_from md_by md_many md_is md_next md_rollSet md_rollAct md_rolls md_slots md_isKept ((66 : Int32)) _ hm) (by decide) (by decide) rfl (Nat.le_of_ble_eq_true rfl) rfl rfl rfl rfl (by decide) rfl (fun _ => rfl) rfl rfl rfl rfl dX8_readHead_43 ?_
        rintro r_11 md_place_10 hm
        refine x_if_eq hC 53 dX8_readHead_46 (by decide) (fun c_12 => ?_) (fun c_12 => ?_)
        · replace hm := hm.1 c_12
          refine x_aload_n hC 0 dX8_readHead_53 rfl ?_
          refine x_bipush hC (86 : Int32) dX8_readHead_54 (by decide) ?_
          refine x_callVi hC _ [0, 1, 2, 3, 4, 5, 6, 7, 8, 9, 10, 11, 12, 13, 14] [] [0, 1, 2, 3, 4, 5, 6, 7, 8, 9, 10, 11, 12, 13, 14] (([] : va_W)) (fun u => W_md cI cZ md md_thrown md_text md_textSize u md_letter md_first md_second md_third md_side md_hang md_forms md_formMany md_seats md_now md_barAlways md_noPut md_far md_queue md_from md_by md_many md_is md_next md_rollSet md_rollAct md_rolls md_slots md_isKept) ok_X8_sign ml_X8_98 0 5 (c_X8_sign (gl Γ) (gD Γ) cI cZ md md_thrown md_text md_textSize md_place_10 md_letter md_first md_second md_third md_side md_hang md_forms md_formMany md_seats md_now md_barAlways md_noPut md_far md_queue md_from md_by md_many md_is md_next md_rollSet md_rollAct md_rolls md_slots md_isKept ((86 : Int32)) _ hm) (by decide) (by decide) rfl (Nat.le_of_ble_eq_true rfl) rfl rfl rfl rfl (by decide) rfl (fun _ => rfl) rfl rfl rfl rfl dX8_readHead_56 ?_
          rintro r_14 md_place_13 hm
          refine x_if_eq hC 66 dX8_readHead_59 (by decide) (fun c_15 => ?_) (fun c_15 => ?_)
          · replace hm := hm.1 c_15
            refine x_bipush hC (-9 : Int32) dX8_readHead_66 (by decide) ?_
            exact B_68   md_place_13 md_letter md_first md_second md_third md_side md_hang ((-9 : Int32)) hm
          · replace hm := hm.2 c_15
            refine x_iconst hC (4 : Int32) dX8_readHead_62 (by decide) ?_
            refine x_goto hC 68 dX8_readHead_63 (by decide) ?_
            exact B_68   md_place_13 md_letter md_first md_second md_third md_side md_hang ((4 : Int32)) hm
        · replace hm := hm.2 c_12
          refine x_iconst hC (3 : Int32) dX8_readHead_49 (by decide) ?_
          refine x_goto hC 68 dX8_readHead_50 (by decide) ?_
          exact B_68   md_place_10 md_letter md_first md_second md_third md_side md_hang ((3 : Int32)) hm
      · replace hm := hm.2 c_9
        refine x_iconst hC (2 : Int32) dX8_readHead_36 (by decide) ?_
        refine x_goto hC 68 dX8_readHead_37 (by decide) ?_
        exact B_68   md_place_7 md_letter md_first md_second md_third md_side md_hang ((2 : Int32)) hm
    · replace hm := hm.2 c_6
      refine x_iconst hC (1 : Int32) dX8_readHead_23 (by decide) ?_
      refine x_goto hC 68 dX8_readHead_24 (by decide) ?_
      exact B_68   md_place_4 md_letter md_first md_second md_third md_side md_hang ((1 : Int32)) hm
  · replace hm := hm.2 c_3
    refine x_iconst hC (0 : Int32) dX8_readHead_10 (by decide) ?_
    refine x_goto hC 68 dX8_readHead_11 (by decide) ?_
    exact B_68   md_place_1 md_letter md_first md_second md_third md_side md_hang ((0 : Int32)) hm

def wp_X8_readHang (md_text : Nat → Int32) (md_textSize : Int32) (md_place : Int32) (md_hang : Int32)  (post : Int32 → Int32 → Int32 → Prop) : Prop := wp_X8_sign md_text md_textSize md_place ((63 : Int32)) (fun (r_2 : Int32) (md_place_1 : Int32) => (¬ r_2 = 0 → wp_X8_sign md_text md_textSize md_place_1 ((61 : Int32)) (fun (r_5 : Int32) (md_place_4 : Int32) => (r_5 = 0 → wp_X8_number md_text md_textSize md_place_4 ((0 : Int32)) ((3 : Int32)) (fun (r_8 : Int32) (md_place_7 : Int32) => (0 ≤ r_8 → wp_X8_plus md_text md_textSize md_place_7  (fun (r_11 : Int32) (md_place_10 : Int32) => ∀ v_12 : Int32, v_12 = (((10 : Int32)) * r_8) + r_11 → (r_11 < 0 → post ((0 : Int32)) md_place_10 v_12) ∧ (¬ r_11 < 0 → post ((1 : Int32)) md_place_10 v_12))) ∧ (¬ 0 ≤ r_8 → post ((0 : Int32)) md_place_7 md_hang))) ∧ (¬ r_5 = 0 → wp_X8_number md_text md_textSize md_place_4 ((0 : Int32)) ((4 : Int32)) (fun (r_15 : Int32) (md_place_14 : Int32) => (r_15 < 0 → post ((0 : Int32)) md_place_14 md_hang) ∧ (¬ r_15 < 0 → wp_X8_sign md_text md_textSize md_place_14 ((44 : Int32)) (fun (r_18 : Int32) (md_place_17 : Int32) => (¬ r_18 = 0 → wp_X8_number md_text md_textSize md_place_17 ((0 : Int32)) ((3 : Int32)) (fun (r_21 : Int32) (md_place_20 : Int32) => ∀ v_22 : Int32, v_22 = (((100 : Int32)) + (((10 : Int32)) * r_15)) + r_21 → (r_21 < 0 → post ((0 : Int32)) md_place_20 v_22) ∧ (¬ r_21 < 0 → post ((1 : Int32)) md_place_20 v_22))) ∧ (r_18 = 0 → post ((0 : Int32)) md_place_17 md_hang))))))) ∧ (r_2 = 0 → post ((0 : Int32)) md_place_1 md_hang))
set_option maxHeartbeats 4000000 in
set_option maxRecDepth 100000 in
theorem c_X8_readHang (l : Launch) (D : va_G) (cI cZ : ClassId) (md : Nat → Nat) (md_thrown : Int32) (md_text : Nat → Int32) (md_textSize : Int32) (md_place : Int32) (md_letter : Int32) (md_first : Int32) (md_second : Int32) (md_third : Int32) (md_side : Int32) (md_hang : Int32) (md_forms : Nat → Int32) (md_formMany : Nat → Int32) (md_seats : Nat → Int32) (md_now : Int32) (md_barAlways : Int32) (md_noPut : Int32) (md_far : Nat → Int32) (md_queue : Nat → Int32) (md_from : Nat → Int32) (md_by : Nat → Int32) (md_many : Int32) (md_is : Nat → Int32) (md_next : Nat → Int32) (md_rollSet : Nat → Int32) (md_rollAct : Nat → Int32) (md_rolls : Int32) (md_slots : Nat → Int32) (md_isKept : Nat → Int32)  (post : Int32 → Int32 → Int32 → Prop) (hm : wp_X8_readHang md_text md_textSize md_place md_hang  post) : Mi l D cI cZ yX8_readHang cX8_readHang 3 .boolean 3 71 [.ref (md 0)] (W_md cI cZ md md_thrown md_text md_textSize md_place md_letter md_first md_second md_third md_side md_hang md_forms md_formMany md_seats md_now md_barAlways md_noPut md_far md_queue md_from md_by md_many md_is md_next md_rollSet md_rollAct md_rolls md_slots md_isKept) (S := Int32 × Int32) (fun u => W_md cI cZ md md_thrown md_text md_textSize (u.1) md_letter md_first md_second md_third md_side (u.2) md_forms md_formMany md_seats md_now md_barAlways md_noPut md_far md_queue md_from md_by md_many md_is md_next md_rollSet md_rollAct md_rolls md_slots md_isKept) (fun r u => post r u.1 u.2) := by
  refine mk_Mi (by decide +kernel) (Nat.le_of_ble_eq_true rfl) ?_
  intro Γ hl0 hD0 hC hR
  subst hl0
  subst hD0
  have hC : CX Γ cI cZ cX8_readHang RX8 3 3 71 := hC
  show VV Γ (W_md cI cZ md md_thrown md_text md_textSize md_place md_letter md_first md_second md_third md_side md_hang md_forms md_formMany md_seats md_now md_barAlways md_noPut md_far md_queue md_from md_by md_many md_is md_next md_rollSet md_rollAct md_rolls md_slots md_isKept) [(0, .ref (md 0))] 0 []
  unfold wp_X8_readHang at hm
  refine x_aload_n hC 0 dX8_readHang_0 rfl ?_
  refine x_bipush hC (63 : Int32) dX8_readHang_1 (by decide) ?_
  refine x_callVi hC _ [0, 1, 2, 3, 4, 5, 6, 7, 8, 9, 10, 11, 12, 13, 14] [] [0, 1, 2, 3, 4, 5, 6, 7, 8, 9, 10, 11, 12, 13, 14] (([] : va_W)) (fun u => W_md cI cZ md md_thrown md_text md_textSize u md_letter md_first md_second md_third md_side md_hang md_forms md_formMany md_seats md_now md_barAlways md_noPut md_far md_queue md_from md_by md_many md_is md_next md_rollSet md_rollAct md_rolls md_slots md_isKept) ok_X8_sign ml_X8_98 0 5 (c_X8_sign (gl Γ) (gD Γ) cI cZ md md_thrown md_text md_textSize md_place md_letter md_first md_second md_third md_side md_hang md_forms md_formMany md_seats md_now md_barAlways md_noPut md_far md_queue md_from md_by md_many md_is md_next md_rollSet md_rollAct md_rolls md_slots md_isKept ((63 : Int32)) _ hm) (by decide) (by decide) rfl (Nat.le_of_ble_eq_true rfl) rfl rfl rfl rfl (by decide) rfl (fun _ => rfl) rfl rfl rfl rfl dX8_readHang_3 ?_
  rintro r_2 md_place_1 hm
  refine x_if_ne hC 11 dX8_readHang_6 (by decide) (fun c_3 => ?_) (fun c_3 => ?_)
  · replace hm := hm.1 c_3
    refine x_aload_n hC 0 dX8_readHang_11 rfl ?_
    refine x_bipush hC (61 : Int32) dX8_readHang_12 (by decide) ?_
    refine x_callVi hC _ [0, 1, 2, 3, 4, 5, 6, 7, 8, 9, 10, 11, 12, 13, 14] [] [0, 1, 2, 3, 4, 5, 6, 7, 8, 9, 10, 11, 12, 13, 14] (([] : va_W)) (fun u => W_md cI cZ md md_thrown md_text md_textSize u md_letter md_first md_second md_third md_side md_hang md_forms md_formMany md_seats md_now md_barAlways md_noPut md_far md_queue md_from md_by md_many md_is md_next md_rollSet md_rollAct md_rolls md_slots md_isKept) ok_X8_sign ml_X8_98 0 5 (c_X8_sign (gl Γ) (gD Γ) cI cZ md md_thrown md_text md_textSize md_place_1 md_letter md_first md_second md_third md_side md_hang md_forms md_formMany md_seats md_now md_barAlways md_noPut md_far md_queue md_from md_by md_many md_is md_next md_rollSet md_rollAct md_rolls md_slots md_isKept ((61 : Int32)) _ hm) (by decide) (by decide) rfl (Nat.le_of_ble_eq_true rfl) rfl rfl rfl rfl (by decide) rfl (fun _ => rfl) rfl rfl rfl rfl dX8_readHang_14 ?_
    rintro r_5 md_place_4 hm
    refine x_if_eq hC 72 dX8_readHang_17 (by decide) (fun c_6 => ?_) (fun c_6 => ?_)
    · replace hm := hm.1 c_6
      refine x_aload_n hC 0 dX8_readHang_72 rfl ?_
      refine x_iconst hC (0 : Int32) dX8_readHang_73 (by decide) ?_
      refine x_iconst hC (3 : Int32) dX8_readHang_74 (by decide) ?_
      refine x_callVi hC _ [0, 1, 2, 3, 4, 5, 6, 7, 8, 9, 10, 11, 12, 13, 14] [] [0, 1, 2, 3, 4, 5, 6, 7, 8, 9, 10, 11, 12, 13, 14] (([] : va_W)) (fun u => W_md cI cZ md md_thrown md_text md_textSize u md_letter md_first md_second md_third md_side md_hang md_forms md_formMany md_seats md_now md_barAlways md_noPut md_far md_queue md_from md_by md_many md_is md_next md_rollSet md_rollAct md_rolls md_slots md_isKept) ok_X8_number ml_X8_119 0 5 (c_X8_number (gl Γ) (gD Γ) cI cZ md md_thrown md_text md_textSize md_place_4 md_letter md_first md_second md_third md_side md_hang md_forms md_formMany md_seats md_now md_barAlways md_noPut md_far md_queue md_from md_by md_many md_is md_next md_rollSet md_rollAct md_rolls md_slots md_isKept ((0 : Int32)) ((3 : Int32)) _ hm) (by decide) (by decide) rfl (Nat.le_of_ble_eq_true rfl) rfl rfl rfl rfl (by decide) rfl (fun _ => rfl) rfl rfl rfl rfl dX8_readHang_75 ?_
      rintro r_8 md_place_7 hm
      refine x_istore_n hC [(0, .ref (md 0)), (1, .int r_8)] [1, 0] dX8_readHang_78 (by decide) rfl ?_
      refine x_iload_n hC 1 dX8_readHang_79 rfl ?_
      refine x_if_ge hC 85 dX8_readHang_80 (by decide) (fun c_9 => ?_) (fun c_9 => ?_)
      · replace hm := hm.1 c_9
        refine x_aload_n hC 0 dX8_readHang_85 rfl ?_
        refine x_callVi hC _ [0, 1, 2, 3, 4, 5, 6, 7, 8, 9, 10, 11, 12, 13, 14] [] [0, 1, 2, 3, 4, 5, 6, 7, 8, 9, 10, 11, 12, 13, 14] (([] : va_W)) (fun u => W_md cI cZ md md_thrown md_text md_textSize u md_letter md_first md_second md_third md_side md_hang md_forms md_formMany md_seats md_now md_barAlways md_noPut md_far md_queue md_from md_by md_many md_is md_next md_rollSet md_rollAct md_rolls md_slots md_isKept) ok_X8_plus ml_X8_123 0 5 (c_X8_plus (gl Γ) (gD Γ) cI cZ md md_thrown md_text md_textSize md_place_7 md_letter md_first md_second md_third md_side md_hang md_forms md_formMany md_seats md_now md_barAlways md_noPut md_far md_queue md_from md_by md_many md_is md_next md_rollSet md_rollAct md_rolls md_slots md_isKept  _ hm) (by decide) (by decide) rfl (Nat.le_of_ble_eq_true rfl) rfl rfl rfl rfl (by decide) rfl (fun _ => rfl) rfl rfl rfl rfl dX8_readHang_86 ?_
        rintro r_11 md_place_10 hm
        refine x_istore_n hC [(0, .ref (md 0)), (1, .int r_8), (2, .int r_11)] [1, 2, 0] dX8_readHang_89 (by decide) rfl ?_
        refine x_aload_n hC 0 dX8_readHang_90 rfl ?_
        refine x_bipush hC (10 : Int32) dX8_readHang_91 (by decide) ?_
        refine x_iload_n hC 1 dX8_readHang_93 rfl ?_
        refine x_imul hC dX8_readHang_94 ?_
        refine x_iload_n hC 2 dX8_readHang_95 rfl ?_
        refine x_iadd hC dX8_readHang_96 ?_
        refine x_top (fun v_12 ev_12 => ?_)
        replace hm := hm v_12 ev_12
        refine x_put hC 5 tyX8_ok nmX8 inX8g 0 rfl rfl 9 (by decide) fl_X8_116 rfl (ty := .int) (by decide +kernel) rfl rfl (Nat.le_of_ble_eq_true rfl) (W_md cI cZ md md_thrown md_text md_textSize md_place_10 md_letter md_first md_second md_third md_side v_12 md_forms md_formMany md_seats md_now md_barAlways md_noPut md_far md_queue md_from md_by md_many md_is md_next md_rollSet md_rollAct md_rolls md_slots md_isKept) rfl dX8_readHang_97 ?_
        refine x_iload_n hC 2 dX8_readHang_100 rfl ?_
        refine x_if_lt hC 108 dX8_readHang_101 (by decide) (fun c_13 => ?_) (fun c_13 => ?_)
        · replace hm := hm.1 c_13
          refine x_iconst hC (0 : Int32) dX8_readHang_108 (by decide) ?_
          exact hR ((0 : Int32)) (md_place_10, v_12) [(0, .ref (md 0)), (1, .int r_8), (2, .int r_11)] 109 hm rfl dX8_readHang_109
        · replace hm := hm.2 c_13
          refine x_iconst hC (1 : Int32) dX8_readHang_104 (by decide) ?_
          refine x_goto hC 109 dX8_readHang_105 (by decide) ?_
          exact hR ((1 : Int32)) (md_place_10, v_12) [(0, .ref (md 0)), (1, .int r_8), (2, .int r_11)] 109 hm rfl dX8_readHang_109
      · replace hm := hm.2 c_9
        refine x_iconst hC (0 : Int32) dX8_readHang_83 (by decide) ?_
        exact hR ((0 : Int32)) (md_place_7, md_hang) [(0, .ref (md 0)), (1, .int r_8)] 84 hm rfl dX8_readHang_84
    · replace hm := hm.2 c_6
      refine x_aload_n hC 0 dX8_readHang_20 rfl ?_
      refine x_iconst hC (0 : Int32) dX8_readHang_21 (by decide) ?_
      refine x_iconst hC (4 : Int32) dX8_readHang_22 (by decide) ?_
      refine x_callVi hC _ [0, 1, 2, 3, 4, 5, 6, 7, 8, 9, 10, 11, 12, 13, 14] [] [0, 1, 2, 3, 4, 5, 6, 7, 8, 9, 10, 11, 12, 13, 14] (([] : va_W)) (fun u => W_md cI cZ md md_thrown md_text md_textSize u md_letter md_first md_second md_third md_side md_hang md_forms md_formMany md_seats md_now md_barAlways md_noPut md_far md_queue md_from md_by md_many md_is md_next md_rollSet md_rollAct md_rolls md_slots md_isKept) ok_X8_number ml_X8_119 0 5 (c_X8_number (gl Γ) (gD Γ) cI cZ md md_thrown md_text md_textSize md_place_4 md_letter md_first md_second md_third md_side md_hang md_forms md_formMany md_seats md_now md_barAlways md_noPut md_far md_queue md_from md_by md_many md_is md_next md_rollSet md_rollAct md_rolls md_slots md_isKept ((0 : Int32)) ((4 : Int32)) _ hm) (by decide) (by decide) rfl (Nat.le_of_ble_eq_true rfl) rfl rfl rfl rfl (by decide) rfl (fun _ => rfl) rfl rfl rfl rfl dX8_readHang_23 ?_
      rintro r_15 md_place_14 hm
      refine x_istore_n hC [(0, .ref (md 0)), (1, .int r_15)] [1, 0] dX8_readHang_26 (by decide) rfl ?_
      refine x_iload_n hC 1 dX8_readHang_27 rfl ?_
      refine x_if_lt hC 40 dX8_readHang_28 (by decide) (fun c_16 => ?_) (fun c_16 => ?_)
      · replace hm := hm.1 c_16
        refine x_iconst hC (0 : Int32) dX8_readHang_40 (by decide) ?_
        exact hR ((0 : Int32)) (md_place_14, md_hang) [(0, .ref (md 0)), (1, .int r_15)] 41 hm rfl dX8_readHang_41
      · replace hm := hm.2 c_16
        refine x_aload_n hC 0 dX8_readHang_31 rfl ?_
        refine x_bipush hC (44 : Int32) dX8_readHang_32 (by decide) ?_
        refine x_callVi hC _ [0, 1, 2, 3, 4, 5, 6, 7, 8, 9, 10, 11, 12, 13, 14] [] [0, 1, 2, 3, 4, 5, 6, 7, 8, 9, 10, 11, 12, 13, 14] (([] : va_W)) (fun u => W_md cI cZ md md_thrown md_text md_textSize u md_letter md_first md_second md_third md_side md_hang md_forms md_formMany md_seats md_now md_barAlways md_noPut md_far md_queue md_from md_by md_many md_is md_next md_rollSet md_rollAct md_rolls md_slots md_isKept) ok_X8_sign ml_X8_98 0 5 (c_X8_sign (gl Γ) (gD Γ) cI cZ md md_thrown md_text md_textSize md_place_14 md_letter md_first md_second md_third md_side md_hang md_forms md_formMany md_seats md_now md_barAlways md_noPut md_far md_queue md_from md_by md_many md_is md_next md_rollSet md_rollAct md_rolls md_slots md_isKept ((44 : Int32)) _ hm) (by decide) (by decide) rfl (Nat.le_of_ble_eq_true rfl) rfl rfl rfl rfl (by decide) rfl (fun _ => rfl) rfl rfl rfl rfl dX8_readHang_34 ?_
        rintro r_18 md_place_17 hm
        refine x_if_ne hC 42 dX8_readHang_37 (by decide) (fun c_19 => ?_) (fun c_19 => ?_)
        · replace hm := hm.1 c_19
          refine x_aload_n hC 0 dX8_readHang_42 rfl ?_
          refine x_iconst hC (0 : Int32) dX8_readHang_43 (by decide) ?_
          refine x_iconst hC (3 : Int32) dX8_readHang_44 (by decide) ?_
          refine x_callVi hC _ [0, 1, 2, 3, 4, 5, 6, 7, 8, 9, 10, 11, 12, 13, 14] [] [0, 1, 2, 3, 4, 5, 6, 7, 8, 9, 10, 11, 12, 13, 14] (([] : va_W)) (fun u => W_md cI cZ md md_thrown md_text md_textSize u md_letter md_first md_second md_third md_side md_hang md_forms md_formMany md_seats md_now md_barAlways md_noPut md_far md_queue md_from md_by md_many md_is md_next md_rollSet md_rollAct md_rolls md_slots md_isKept) ok_X8_number ml_X8_119 0 5 (c_X8_number (gl Γ) (gD Γ) cI cZ md md_thrown md_text md_textSize md_place_17 md_letter md_first md_second md_third md_side md_hang md_forms md_formMany md_seats md_now md_barAlways md_noPut md_far md_queue md_from md_by md_many md_is md_next md_rollSet md_rollAct md_rolls md_slots md_isKept ((0 : Int32)) ((3 : Int32)) _ hm) (by decide) (by decide) rfl (Nat.le_of_ble_eq_true rfl) rfl rfl rfl rfl (by decide) rfl (fun _ => rfl) rfl rfl rfl rfl dX8_readHang_45 ?_
          rintro r_21 md_place_20 hm
          refine x_istore_n hC [(0, .ref (md 0)), (1, .int r_15), (2, .int r_21)] [1, 2, 0] dX8_readHang_48 (by decide) rfl ?_
          refine x_aload_n hC 0 dX8_readHang_49 rfl ?_
          refine x_bipush hC (100 : Int32) dX8_readHang_50 (by decide) ?_
          refine x_bipush hC (10 : Int32) dX8_readHang_52 (by decide) ?_
          refine x_iload_n hC 1 dX8_readHang_54 rfl ?_
          refine x_imul hC dX8_readHang_55 ?_
          refine x_iadd hC dX8_readHang_56 ?_
          refine x_iload_n hC 2 dX8_readHang_57 rfl ?_
          refine x_iadd hC dX8_readHang_58 ?_
          refine x_top (fun v_22 ev_22 => ?_)
          replace hm := hm v_22 ev_22
          refine x_put hC 5 tyX8_ok nmX8 inX8g 0 rfl rfl 9 (by decide) fl_X8_116 rfl (ty := .int) (by decide +kernel) rfl rfl (Nat.le_of_ble_eq_true rfl) (W_md cI cZ md md_thrown md_text md_textSize md_place_20 md_letter md_first md_second md_third md_side v_22 md_forms md_formMany md_seats md_now md_barAlways md_noPut md_far md_queue md_from md_by md_many md_is md_next md_rollSet md_rollAct md_rolls md_slots md_isKept) rfl dX8_readHang_59 ?_
          refine x_iload_n hC 2 dX8_readHang_62 rfl ?_
          refine x_if_lt hC 70 dX8_readHang_63 (by decide) (fun c_23 => ?_) (fun c_23 => ?_)
          · replace hm := hm.1 c_23
            refine x_iconst hC (0 : Int32) dX8_readHang_70 (by decide) ?_
            exact hR ((0 : Int32)) (md_place_20, v_22) [(0, .ref (md 0)), (1, .int r_15), (2, .int r_21)] 71 hm rfl dX8_readHang_71
          · replace hm := hm.2 c_23
            refine x_iconst hC (1 : Int32) dX8_readHang_66 (by decide) ?_
            refine x_goto hC 71 dX8_readHang_67 (by decide) ?_
            exact hR ((1 : Int32)) (md_place_20, v_22) [(0, .ref (md 0)), (1, .int r_15), (2, .int r_21)] 71 hm rfl dX8_readHang_71
        · replace hm := hm.2 c_19
          refine x_iconst hC (0 : Int32) dX8_readHang_40 (by decide) ?_
          exact hR ((0 : Int32)) (md_place_17, md_hang) [(0, .ref (md 0)), (1, .int r_15)] 41 hm rfl dX8_readHang_41
  · replace hm := hm.2 c_3
    refine x_iconst hC (0 : Int32) dX8_readHang_9 (by decide) ?_
    exact hR ((0 : Int32)) (md_place_1, md_hang) [(0, .ref (md 0))] 10 hm rfl dX8_readHang_10

def wp_X8_read (md_text : Nat → Int32) (md_textSize : Int32) (md_place : Int32) (md_letter : Int32) (md_first : Int32) (md_second : Int32) (md_third : Int32) (md_side : Int32) (md_hang : Int32)  (post : Int32 → Int32 → Int32 → Int32 → Int32 → Int32 → Int32 → Int32 → Prop) : Prop := wp_X8_readHead md_text md_textSize ((0 : Int32)) md_letter md_first md_second md_third md_side md_hang  (fun (r_8 : Int32) (md_place_1 : Int32) (md_letter_2 : Int32) (md_first_3 : Int32) (md_second_4 : Int32) (md_third_5 : Int32) (md_side_6 : Int32) (md_hang_7 : Int32) => (¬ r_8 = 0 → (¬ md_place_1 = md_textSize → wp_X8_readHang md_text md_textSize md_place_1 md_hang_7  (fun (r_13 : Int32) (md_place_11 : Int32) (md_hang_12 : Int32) => (¬ r_13 = 0 → (¬ md_place_11 = md_textSize → post md_place_11 md_place_11 md_letter_2 md_first_3 md_second_4 md_third_5 md_side_6 md_hang_12) ∧ (md_place_11 = md_textSize → post ((-9 : Int32)) md_place_11 md_letter_2 md_first_3 md_second_4 md_third_5 md_side_6 md_hang_12)) ∧ (r_13 = 0 → post md_place_11 md_place_11 md_letter_2 md_first_3 md_second_4 md_third_5 md_side_6 md_hang_12))) ∧ (md_place_1 = md_textSize → post ((-9 : Int32)) md_place_1 md_letter_2 md_first_3 md_second_4 md_third_5 md_side_6 md_hang_7)) ∧ (r_8 = 0 → post md_place_1 md_place_1 md_letter_2 md_first_3 md_second_4 md_third_5 md_side_6 md_hang_7))
set_option maxHeartbeats 4000000 in
set_option maxRecDepth 100000 in
theorem c_X8_read (l : Launch) (D : va_G) (cI cZ : ClassId) (md : Nat → Nat) (md_thrown : Int32) (md_text : Nat → Int32) (md_textSize : Int32) (md_place : Int32) (md_letter : Int32) (md_first : Int32) (md_second : Int32) (md_third : Int32) (md_side : Int32) (md_hang : Int32) (md_forms : Nat → Int32) (md_formMany : Nat → Int32) (md_seats : Nat → Int32) (md_now : Int32) (md_barAlways : Int32) (md_noPut : Int32) (md_far : Nat → Int32) (md_queue : Nat → Int32) (md_from : Nat → Int32) (md_by : Nat → Int32) (md_many : Int32) (md_is : Nat → Int32) (md_next : Nat → Int32) (md_rollSet : Nat → Int32) (md_rollAct : Nat → Int32) (md_rolls : Int32) (md_slots : Nat → Int32) (md_isKept : Nat → Int32)  (post : Int32 → Int32 → Int32 → Int32 → Int32 → Int32 → Int32 → Int32 → Prop) (hm : wp_X8_read md_text md_textSize md_place md_letter md_first md_second md_third md_side md_hang  post) : Mi l D cI cZ yX8_read cX8_read 1 .int 4 93 [.ref (md 0)] (W_md cI cZ md md_thrown md_text md_textSize md_place md_letter md_first md_second md_third md_side md_hang md_forms md_formMany md_seats md_now md_barAlways md_noPut md_far md_queue md_from md_by md_many md_is md_next md_rollSet md_rollAct md_rolls md_slots md_isKept) (S := Int32 × Int32 × Int32 × Int32 × Int32 × Int32 × Int32) (fun u => W_md cI cZ md md_thrown md_text md_textSize (u.1) (u.2.1) (u.2.2.1) (u.2.2.2.1) (u.2.2.2.2.1) (u.2.2.2.2.2.1) (u.2.2.2.2.2.2) md_forms md_formMany md_seats md_now md_barAlways md_noPut md_far md_queue md_from md_by md_many md_is md_next md_rollSet md_rollAct md_rolls md_slots md_isKept) (fun r u => post r u.1 u.2.1 u.2.2.1 u.2.2.2.1 u.2.2.2.2.1 u.2.2.2.2.2.1 u.2.2.2.2.2.2) := by
  refine mk_Mi (by decide +kernel) (Nat.le_of_ble_eq_true rfl) ?_
  intro Γ hl0 hD0 hC hR
  subst hl0
  subst hD0
  have hC : CX Γ cI cZ cX8_read RX8 1 4 93 := hC
  show VV Γ (W_md cI cZ md md_thrown md_text md_textSize md_place md_letter md_first md_second md_third md_side md_hang md_forms md_formMany md_seats md_now md_barAlways md_noPut md_far md_queue md_from md_by md_many md_is md_next md_rollSet md_rollAct md_rolls md_slots md_isKept) [(0, .ref (md 0))] 0 []
  unfold wp_X8_read at hm
  refine x_aload_n hC 0 dX8_read_0 rfl ?_
  refine x_iconst hC (0 : Int32) dX8_read_1 (by decide) ?_
  refine x_put hC 5 tyX8_ok nmX8 inX8g 0 rfl rfl 3 (by decide) fl_X8_84 rfl (ty := .int) (by decide +kernel) rfl rfl (Nat.le_of_ble_eq_true rfl) (W_md cI cZ md md_thrown md_text md_textSize ((0 : Int32)) md_letter md_first md_second md_third md_side md_hang md_forms md_formMany md_seats md_now md_barAlways md_noPut md_far md_queue md_from md_by md_many md_is md_next md_rollSet md_rollAct md_rolls md_slots md_isKept) rfl dX8_read_2 ?_
  refine x_aload_n hC 0 dX8_read_5 rfl ?_
  refine x_callVi hC _ [0, 1, 2, 3, 4, 5, 6, 7, 8, 9, 10, 11, 12, 13, 14] [] [0, 1, 2, 3, 4, 5, 6, 7, 8, 9, 10, 11, 12, 13, 14] (([] : va_W)) (fun u => W_md cI cZ md md_thrown md_text md_textSize (u.1) (u.2.1) (u.2.2.1) (u.2.2.2.1) (u.2.2.2.2.1) (u.2.2.2.2.2.1) (u.2.2.2.2.2.2) md_forms md_formMany md_seats md_now md_barAlways md_noPut md_far md_queue md_from md_by md_many md_is md_next md_rollSet md_rollAct md_rolls md_slots md_isKept) ok_X8_readHead ml_X8_127 0 5 (c_X8_readHead (gl Γ) (gD Γ) cI cZ md md_thrown md_text md_textSize ((0 : Int32)) md_letter md_first md_second md_third md_side md_hang md_forms md_formMany md_seats md_now md_barAlways md_noPut md_far md_queue md_from md_by md_many md_is md_next md_rollSet md_rollAct md_rolls md_slots md_isKept  _ hm) (by decide) (by decide) rfl (Nat.le_of_ble_eq_true rfl) rfl rfl rfl rfl (by decide) rfl (fun _ => rfl) rfl rfl rfl rfl dX8_read_6 ?_
  rintro r_8 ⟨md_place_1, md_letter_2, md_first_3, md_second_4, md_third_5, md_side_6, md_hang_7⟩ hm
  refine x_if_ne hC 17 dX8_read_9 (by decide) (fun c_9 => ?_) (fun c_9 => ?_)
  · replace hm := hm.1 c_9
    refine x_aload_n hC 0 dX8_read_17 rfl ?_
    refine x_get hC 5 inX8g 0 rfl rfl 3 (by decide) fl_X8_84 rfl dX8_read_18 ?_
    refine x_aload_n hC 0 dX8_read_21 rfl ?_
    refine x_get hC 5 inX8g 0 rfl rfl 2 (by decide) fl_X8_81 rfl dX8_read_22 ?_
    refine x_icmp_ne hC 31 dX8_read_25 (by decide) (fun c_10 => ?_) (fun c_10 => ?_)
    · replace hm := hm.1 c_10
      refine x_aload_n hC 0 dX8_read_31 rfl ?_
      refine x_callVi hC _ [0, 1, 2, 3, 4, 5, 6, 7, 8, 9, 10, 11, 12, 13, 14] [] [0, 1, 2, 3, 4, 5, 6, 7, 8, 9, 10, 11, 12, 13, 14] (([] : va_W)) (fun u => W_md cI cZ md md_thrown md_text md_textSize (u.1) md_letter_2 md_first_3 md_second_4 md_third_5 md_side_6 (u.2) md_forms md_formMany md_seats md_now md_barAlways md_noPut md_far md_queue md_from md_by md_many md_is md_next md_rollSet md_rollAct md_rolls md_slots md_isKept) ok_X8_readHang ml_X8_131 0 5 (c_X8_readHang (gl Γ) (gD Γ) cI cZ md md_thrown md_text md_textSize md_place_1 md_letter_2 md_first_3 md_second_4 md_third_5 md_side_6 md_hang_7 md_forms md_formMany md_seats md_now md_barAlways md_noPut md_far md_queue md_from md_by md_many md_is md_next md_rollSet md_rollAct md_rolls md_slots md_isKept  _ hm) (by decide) (by decide) rfl (Nat.le_of_ble_eq_true rfl) rfl rfl rfl rfl (by decide) rfl (fun _ => rfl) rfl rfl rfl rfl dX8_read_32 ?_
      rintro r_13 ⟨md_place_11, md_hang_12⟩ hm
      refine x_if_ne hC 43 dX8_read_35 (by decide) (fun c_14 => ?_) (fun c_14 => ?_)
      · replace hm := hm.1 c_14
        refine x_aload_n hC 0 dX8_read_43 rfl ?_
        refine x_get hC 5 inX8g 0 rfl rfl 3 (by decide) fl_X8_84 rfl dX8_read_44 ?_
        refine x_aload_n hC 0 dX8_read_47 rfl ?_
        refine x_get hC 5 inX8g 0 rfl rfl 2 (by decide) fl_X8_81 rfl dX8_read_48 ?_
        refine x_icmp_ne hC 59 dX8_read_51 (by decide) (fun c_15 => ?_) (fun c_15 => ?_)
        · replace hm := hm.1 c_15
          refine x_aload_n hC 0 dX8_read_59 rfl ?_
          refine x_get hC 5 inX8g 0 rfl rfl 3 (by decide) fl_X8_84 rfl dX8_read_60 ?_
          exact hR md_place_11 (md_place_11, md_letter_2, md_first_3, md_second_4, md_third_5, md_side_6, md_hang_12) [(0, .ref (md 0))] 63 hm rfl dX8_read_63
        · replace hm := hm.2 c_15
          refine x_bipush hC (-9 : Int32) dX8_read_54 (by decide) ?_
          refine x_goto hC 63 dX8_read_56 (by decide) ?_
          exact hR ((-9 : Int32)) (md_place_11, md_letter_2, md_first_3, md_second_4, md_third_5, md_side_6, md_hang_12) [(0, .ref (md 0))] 63 hm rfl dX8_read_63
      · replace hm := hm.2 c_14
        refine x_aload_n hC 0 dX8_read_38 rfl ?_
        refine x_get hC 5 inX8g 0 rfl rfl 3 (by decide) fl_X8_84 rfl dX8_read_39 ?_
        exact hR md_place_11 (md_place_11, md_letter_2, md_first_3, md_second_4, md_third_5, md_side_6, md_hang_12) [(0, .ref (md 0))] 42 hm rfl dX8_read_42
    · replace hm := hm.2 c_10
      refine x_bipush hC (-9 : Int32) dX8_read_28 (by decide) ?_
      exact hR ((-9 : Int32)) (md_place_1, md_letter_2, md_first_3, md_second_4, md_third_5, md_side_6, md_hang_7) [(0, .ref (md 0))] 30 hm rfl dX8_read_30
  · replace hm := hm.2 c_9
    refine x_aload_n hC 0 dX8_read_12 rfl ?_
    refine x_get hC 5 inX8g 0 rfl rfl 3 (by decide) fl_X8_84 rfl dX8_read_13 ?_
    exact hR md_place_1 (md_place_1, md_letter_2, md_first_3, md_second_4, md_third_5, md_side_6, md_hang_7) [(0, .ref (md 0))] 16 hm rfl dX8_read_16

def wp_X8_fault (md_thrown : Int32) (md_text : Nat → Int32) (md_textSize : Int32) (md_place : Int32) (md_letter : Int32) (md_first : Int32) (md_second : Int32) (md_third : Int32) (md_side : Int32) (md_hang : Int32)  (post : Int32 → Int32 → Int32 → Int32 → Int32 → Int32 → Int32 → Int32 → Int32 → Prop) : Prop := wp_X8_read md_text md_textSize md_place md_letter md_first md_second md_third md_side md_hang  (fun (r_8 : Int32) (md_place_1 : Int32) (md_letter_2 : Int32) (md_first_3 : Int32) (md_second_4 : Int32) (md_third_5 : Int32) (md_side_6 : Int32) (md_hang_7 : Int32) => post r_8 ((0 : Int32)) md_place_1 md_letter_2 md_first_3 md_second_4 md_third_5 md_side_6 md_hang_7)
set_option maxHeartbeats 4000000 in
set_option maxRecDepth 100000 in
theorem c_X8_fault (l : Launch) (D : va_G) (cI cZ : ClassId) (md : Nat → Nat) (md_thrown : Int32) (md_text : Nat → Int32) (md_textSize : Int32) (md_place : Int32) (md_letter : Int32) (md_first : Int32) (md_second : Int32) (md_third : Int32) (md_side : Int32) (md_hang : Int32) (md_forms : Nat → Int32) (md_formMany : Nat → Int32) (md_seats : Nat → Int32) (md_now : Int32) (md_barAlways : Int32) (md_noPut : Int32) (md_far : Nat → Int32) (md_queue : Nat → Int32) (md_from : Nat → Int32) (md_by : Nat → Int32) (md_many : Int32) (md_is : Nat → Int32) (md_next : Nat → Int32) (md_rollSet : Nat → Int32) (md_rollAct : Nat → Int32) (md_rolls : Int32) (md_slots : Nat → Int32) (md_isKept : Nat → Int32)  (post : Int32 → Int32 → Int32 → Int32 → Int32 → Int32 → Int32 → Int32 → Int32 → Prop) (hm : wp_X8_fault md_thrown md_text md_textSize md_place md_letter md_first md_second md_third md_side md_hang  post) : Mi l D cI cZ yX8_fault cX8_fault 1 .int 5 113 [.ref (md 0)] (W_md cI cZ md md_thrown md_text md_textSize md_place md_letter md_first md_second md_third md_side md_hang md_forms md_formMany md_seats md_now md_barAlways md_noPut md_far md_queue md_from md_by md_many md_is md_next md_rollSet md_rollAct md_rolls md_slots md_isKept) (S := Int32 × Int32 × Int32 × Int32 × Int32 × Int32 × Int32 × Int32) (fun u => W_md cI cZ md (u.1) md_text md_textSize (u.2.1) (u.2.2.1) (u.2.2.2.1) (u.2.2.2.2.1) (u.2.2.2.2.2.1) (u.2.2.2.2.2.2.1) (u.2.2.2.2.2.2.2) md_forms md_formMany md_seats md_now md_barAlways md_noPut md_far md_queue md_from md_by md_many md_is md_next md_rollSet md_rollAct md_rolls md_slots md_isKept) (fun r u => post r u.1 u.2.1 u.2.2.1 u.2.2.2.1 u.2.2.2.2.1 u.2.2.2.2.2.1 u.2.2.2.2.2.2.1 u.2.2.2.2.2.2.2) := by
  refine mk_Mi (by decide +kernel) (Nat.le_of_ble_eq_true rfl) ?_
  intro Γ hl0 hD0 hC hR
  subst hl0
  subst hD0
  have hC : CX Γ cI cZ cX8_fault RX8 1 5 113 := hC
  show VV Γ (W_md cI cZ md md_thrown md_text md_textSize md_place md_letter md_first md_second md_third md_side md_hang md_forms md_formMany md_seats md_now md_barAlways md_noPut md_far md_queue md_from md_by md_many md_is md_next md_rollSet md_rollAct md_rolls md_slots md_isKept) [(0, .ref (md 0))] 0 []
  unfold wp_X8_fault at hm
  refine x_aload_n hC 0 dX8_fault_0 rfl ?_
  refine x_iconst hC (0 : Int32) dX8_fault_1 (by decide) ?_
  refine x_put hC 5 tyX8_ok nmX8 inX8g 0 rfl rfl 0 (by decide) fl_X8_60 rfl (ty := .int) (by decide +kernel) rfl rfl (Nat.le_of_ble_eq_true rfl) (W_md cI cZ md ((0 : Int32)) md_text md_textSize md_place md_letter md_first md_second md_third md_side md_hang md_forms md_formMany md_seats md_now md_barAlways md_noPut md_far md_queue md_from md_by md_many md_is md_next md_rollSet md_rollAct md_rolls md_slots md_isKept) rfl dX8_fault_2 ?_
  refine x_aload_n hC 0 dX8_fault_5 rfl ?_
  refine x_callVi hC _ [0, 1, 2, 3, 4, 5, 6, 7, 8, 9, 10, 11, 12, 13, 14] [] [0, 1, 2, 3, 4, 5, 6, 7, 8, 9, 10, 11, 12, 13, 14] (([] : va_W)) (fun u => W_md cI cZ md ((0 : Int32)) md_text md_textSize (u.1) (u.2.1) (u.2.2.1) (u.2.2.2.1) (u.2.2.2.2.1) (u.2.2.2.2.2.1) (u.2.2.2.2.2.2) md_forms md_formMany md_seats md_now md_barAlways md_noPut md_far md_queue md_from md_by md_many md_is md_next md_rollSet md_rollAct md_rolls md_slots md_isKept) ok_X8_read ml_X8_134 0 5 (c_X8_read (gl Γ) (gD Γ) cI cZ md ((0 : Int32)) md_text md_textSize md_place md_letter md_first md_second md_third md_side md_hang md_forms md_formMany md_seats md_now md_barAlways md_noPut md_far md_queue md_from md_by md_many md_is md_next md_rollSet md_rollAct md_rolls md_slots md_isKept  _ hm) (by decide) (by decide) rfl (Nat.le_of_ble_eq_true rfl) rfl rfl rfl rfl (by decide) rfl (fun _ => rfl) rfl rfl rfl rfl dX8_fault_6 ?_
  rintro r_8 ⟨md_place_1, md_letter_2, md_first_3, md_second_4, md_third_5, md_side_6, md_hang_7⟩ hm
  exact hR r_8 ((0 : Int32), md_place_1, md_letter_2, md_first_3, md_second_4, md_third_5, md_side_6, md_hang_7) [(0, .ref (md 0))] 9 hm rfl dX8_fault_9

def wpL_X8_firstSo_2 (md_queue : Nat → Int32) (md_many : Int32)  (post : Int32 → Prop) : Nat → Int32 → Int32 → Prop
  | 0, _, _ => False
  | n + 1, x1_1, x2_2 => (md_many ≤ x2_2 → post ((-9 : Int32)) ) ∧ (¬ md_many ≤ x2_2 → vp_in x2_2 16384 ∧ (wp_X8_isSo  (md_queue x2_2.toNatClampNeg) x1_1 (fun (r_4 : Int32) => (r_4 = 0 → ∀ x2_6 : Int32, x2_6 = x2_2 + (1 : Int32) → (wpL_X8_firstSo_2 md_queue md_many  post n) x1_1 x2_6) ∧ (¬ r_4 = 0 → vp_in x2_2 16384 ∧ (post (md_queue x2_2.toNatClampNeg) )))))
def wp_X8_firstSo (md_queue : Nat → Int32) (md_many : Int32) (p0 : Int32) (post : Int32 → Prop) : Prop := ∃ k2, wpL_X8_firstSo_2 md_queue md_many  post k2 p0 ((0 : Int32))
set_option maxHeartbeats 4000000 in
set_option maxRecDepth 100000 in
theorem c_X8_firstSo (l : Launch) (D : va_G) (cI cZ : ClassId) (md : Nat → Nat) (md_thrown : Int32) (md_text : Nat → Int32) (md_textSize : Int32) (md_place : Int32) (md_letter : Int32) (md_first : Int32) (md_second : Int32) (md_third : Int32) (md_side : Int32) (md_hang : Int32) (md_forms : Nat → Int32) (md_formMany : Nat → Int32) (md_seats : Nat → Int32) (md_now : Int32) (md_barAlways : Int32) (md_noPut : Int32) (md_far : Nat → Int32) (md_queue : Nat → Int32) (md_from : Nat → Int32) (md_by : Nat → Int32) (md_many : Int32) (md_is : Nat → Int32) (md_next : Nat → Int32) (md_rollSet : Nat → Int32) (md_rollAct : Nat → Int32) (md_rolls : Int32) (md_slots : Nat → Int32) (md_isKept : Nat → Int32) (p0 : Int32) (post : Int32 → Prop) (hm : wp_X8_firstSo md_queue md_many p0 post) : Mi l D cI cZ yX8_firstSo cX8_firstSo 3 .int 2 42 [.ref (md 0), .int p0] (W_md cI cZ md md_thrown md_text md_textSize md_place md_letter md_first md_second md_third md_side md_hang md_forms md_formMany md_seats md_now md_barAlways md_noPut md_far md_queue md_from md_by md_many md_is md_next md_rollSet md_rollAct md_rolls md_slots md_isKept) (S := Unit) (fun _ => W_md cI cZ md md_thrown md_text md_textSize md_place md_letter md_first md_second md_third md_side md_hang md_forms md_formMany md_seats md_now md_barAlways md_noPut md_far md_queue md_from md_by md_many md_is md_next md_rollSet md_rollAct md_rolls md_slots md_isKept) (fun r _ => post r ) := by
  refine mk_Mi (by decide +kernel) (Nat.le_of_ble_eq_true rfl) ?_
  intro Γ hl0 hD0 hC hR
  subst hl0
  subst hD0
  have hC : CX Γ cI cZ cX8_firstSo RX8 3 2 42 := hC
  show VV Γ (W_md cI cZ md md_thrown md_text md_textSize md_place md_letter md_first md_second md_third md_side md_hang md_forms md_formMany md_seats md_now md_barAlways md_noPut md_far md_queue md_from md_by md_many md_is md_next md_rollSet md_rollAct md_rolls md_slots md_isKept) [(0, .ref (md 0)), (1, .int p0)] 0 []
  have B_2 : ∀ (n : Nat) (x1_1 : Int32) (x2_2 : Int32), wpL_X8_firstSo_2 md_queue md_many  post n x1_1 x2_2 → VV Γ (W_md cI cZ md md_thrown md_text md_textSize md_place md_letter md_first md_second md_third md_side md_hang md_forms md_formMany md_seats md_now md_barAlways md_noPut md_far md_queue md_from md_by md_many md_is md_next md_rollSet md_rollAct md_rolls md_slots md_isKept) [(0, .ref (md 0)), (1, .int x1_1), (2, .int x2_2)] 2 [] := by
    intro  n
    induction n with
    | zero => intro x1_1 x2_2 hm; rw [wpL_X8_firstSo_2] at hm; exact hm.elim
    | succ n ih =>
      intro x1_1 x2_2 hm
      rw [wpL_X8_firstSo_2] at hm
      refine x_iload_n hC 2 dX8_firstSo_2 rfl ?_
      refine x_aload_n hC 0 dX8_firstSo_3 rfl ?_
      refine x_get hC 5 inX8g 0 rfl rfl 20 (by decide) fl_X8_195 rfl dX8_firstSo_4 ?_
      refine x_icmp_ge hC 36 dX8_firstSo_7 (by decide) (fun c_3 => ?_) (fun c_3 => ?_)
      · replace hm := hm.1 c_3
        refine x_bipush hC (-9 : Int32) dX8_firstSo_36 (by decide) ?_
        exact hR ((-9 : Int32)) () [(0, .ref (md 0)), (1, .int x1_1), (2, .int x2_2)] 38 hm rfl dX8_firstSo_38
      · replace hm := hm.2 c_3
        refine x_aload_n hC 0 dX8_firstSo_10 rfl ?_
        refine x_get hC 5 inX8g 0 rfl rfl 17 (by decide) fl_X8_32 rfl dX8_firstSo_11 ?_
        refine x_iload_n hC 2 dX8_firstSo_14 rfl ?_
        refine x_iald hC 6 rfl hm.1 dX8_firstSo_15 ?_
        replace hm := hm.2
        refine x_iload_n hC 1 dX8_firstSo_16 rfl ?_
        refine x_callSi hC _ [] [0, 1, 2, 3, 4, 5, 6, 7, 8, 9, 10, 11, 12, 13, 14] [0, 1, 2, 3, 4, 5, 6, 7, 8, 9, 10, 11, 12, 13, 14] (W_md cI cZ md md_thrown md_text md_textSize md_place md_letter md_first md_second md_third md_side md_hang md_forms md_formMany md_seats md_now md_barAlways md_noPut md_far md_queue md_from md_by md_many md_is md_next md_rollSet md_rollAct md_rolls md_slots md_isKept) (fun _ => W_md cI cZ md md_thrown md_text md_textSize md_place md_letter md_first md_second md_third md_side md_hang md_forms md_formMany md_seats md_now md_barAlways md_noPut md_far md_queue md_from md_by md_many md_is md_next md_rollSet md_rollAct md_rolls md_slots md_isKept) ok_X8_isSo ml_X8_164 (c_X8_isSo (gl Γ) (gD Γ) cI cZ   (md_queue x2_2.toNatClampNeg) x1_1 _ hm) (by decide) (by decide) rfl (Nat.le_of_ble_eq_true rfl) rfl rfl rfl rfl (by decide) rfl (fun _ => rfl) rfl dX8_firstSo_17 ?_
        rintro r_4 _ hm
        refine x_if_eq hC 30 dX8_firstSo_20 (by decide) (fun c_5 => ?_) (fun c_5 => ?_)
        · replace hm := hm.1 c_5
          obtain ⟨x2_6, ex2_6⟩ : ∃ y : Int32, y = x2_2 + (1 : Int32) := ⟨_, rfl⟩
          replace hm := hm x2_6 ex2_6
          refine x_iinc hC 2 x2_6 [(0, .ref (md 0)), (1, .int x1_1), (2, .int x2_6)] [1, 2, 0] dX8_firstSo_30 rfl (by rw [ex2_6]; rfl) (by decide) rfl ?_
          refine x_goto hC 2 dX8_firstSo_33 (by decide) ?_
          exact ih x1_1 x2_6 hm
        · replace hm := hm.2 c_5
          refine x_aload_n hC 0 dX8_firstSo_23 rfl ?_
          refine x_get hC 5 inX8g 0 rfl rfl 17 (by decide) fl_X8_32 rfl dX8_firstSo_24 ?_
          refine x_iload_n hC 2 dX8_firstSo_27 rfl ?_
          refine x_iald hC 6 rfl hm.1 dX8_firstSo_28 ?_
          replace hm := hm.2
          exact hR (md_queue x2_2.toNatClampNeg) () [(0, .ref (md 0)), (1, .int x1_1), (2, .int x2_2)] 29 hm rfl dX8_firstSo_29
  unfold wp_X8_firstSo at hm
  refine x_iconst hC (0 : Int32) dX8_firstSo_0 (by decide) ?_
  refine x_istore_n hC [(0, .ref (md 0)), (1, .int p0), (2, .int ((0 : Int32)))] [1, 2, 0] dX8_firstSo_1 (by decide) rfl ?_
  obtain ⟨n_7, hm⟩ := hm
  exact B_2  n_7 p0 ((0 : Int32)) hm

def wpL_X8_layGood_79 (md_forms : Nat → Int32) (md_formMany : Nat → Int32) (md_seats : Nat → Int32) (md_now : Int32) (md_barAlways : Int32) (md_noPut : Int32) (K_51 : (Nat → Int32) → (Nat → Int32) → (Nat → Int32) → (Nat → Int32) → Int32 → (Nat → Int32) → Int32 → Prop) (K_64 : (Nat → Int32) → (Nat → Int32) → (Nat → Int32) → (Nat → Int32) → Int32 → (Nat → Int32) → Int32 → Int32 → Prop) (post : (Nat → Int32) → (Nat → Int32) → (Nat → Int32) → (Nat → Int32) → Int32 → (Nat → Int32) → Prop) : Nat → (Nat → Int32) → (Nat → Int32) → (Nat → Int32) → (Nat → Int32) → Int32 → (Nat → Int32) → Int32 → Int32 → Int32 → Int32 → Prop
  | 0, _, _, _, _, _, _, _, _, _, _ => False
  | n + 1, md_far_34, md_queue_35, md_from_36, md_by_37, md_many_38, md_is_39, x2_40, x3_41, x4_42, x5_43 => (((20 : Int32)) ≤ x5_43 → ∀ x3_45 : Int32, x3_45 = x3_41 + (-1 : Int32) → K_64 md_far_34 md_queue_35 md_from_36 md_by_37 md_many_38 md_is_39 x2_40 x3_45) ∧ (¬ ((20 : Int32)) ≤ x5_43 → vp_in x4_42 16384 ∧ (((md_is_39 x4_42.toNatClampNeg) = 0 → ∀ x3_47 : Int32, x3_47 = x3_41 + (-1 : Int32) → K_64 md_far_34 md_queue_35 md_from_36 md_by_37 md_many_38 md_is_39 x2_40 x3_47) ∧ (¬ (md_is_39 x4_42.toNatClampNeg) = 0 → ∀ x6_48 : Int32, x6_48 = (((100 : Int32)) * (x5_43 / ((4 : Int32)))) + (((10 : Int32)) * (x5_43 - x5_43 / ((4 : Int32)) * ((4 : Int32)))) → wp_X8_whyNot md_forms md_formMany md_seats md_barAlways md_noPut x4_42 ((15 : Int32)) x6_48 (fun (r_49 : Int32) => (¬ r_49 = 0 → ∀ x5_51 : Int32, x5_51 = x5_43 + (1 : Int32) → (wpL_X8_layGood_79 md_forms md_formMany md_seats md_now md_barAlways md_noPut K_51 K_64 post n) md_far_34 md_queue_35 md_from_36 md_by_37 md_many_38 md_is_39 x2_40 x3_41 x4_42 x5_51) ∧ (r_49 = 0 → wp_X8_done md_forms x4_42 x6_48 (fun (r_52 : Int32) => vp_in r_52 16384 ∧ ((¬ (md_is_39 r_52.toNatClampNeg) = 0 → ∀ x5_54 : Int32, x5_54 = x5_43 + (1 : Int32) → (wpL_X8_layGood_79 md_forms md_formMany md_seats md_now md_barAlways md_noPut K_51 K_64 post n) md_far_34 md_queue_35 md_from_36 md_by_37 md_many_38 md_is_39 x2_40 x3_41 x4_42 x5_54) ∧ ((md_is_39 r_52.toNatClampNeg) = 0 → vp_in x4_42 16384 ∧ ∀ md_is_55 : Nat → Int32, md_is_55 = upd md_is_39 x4_42.toNatClampNeg (vp_nar .boolean ((0 : Int32))) → ∀ x5_56 : Int32, x5_56 = x5_43 + (1 : Int32) → (wpL_X8_layGood_79 md_forms md_formMany md_seats md_now md_barAlways md_noPut K_51 K_64 post n) md_far_34 md_queue_35 md_from_36 md_by_37 md_many_38 md_is_55 ((1 : Int32)) x3_41 x4_42 x5_56))))))))
def wpL_X8_layGood_64 (md_forms : Nat → Int32) (md_formMany : Nat → Int32) (md_seats : Nat → Int32) (md_now : Int32) (md_barAlways : Int32) (md_noPut : Int32) (K_51 : (Nat → Int32) → (Nat → Int32) → (Nat → Int32) → (Nat → Int32) → Int32 → (Nat → Int32) → Int32 → Prop) (post : (Nat → Int32) → (Nat → Int32) → (Nat → Int32) → (Nat → Int32) → Int32 → (Nat → Int32) → Prop) : Nat → (Nat → Int32) → (Nat → Int32) → (Nat → Int32) → (Nat → Int32) → Int32 → (Nat → Int32) → Int32 → Int32 → Prop
  | 0, _, _, _, _, _, _, _, _ => False
  | n + 1, md_far_24, md_queue_25, md_from_26, md_by_27, md_many_28, md_is_29, x2_30, x3_31 => (x3_31 < 0 → K_51 md_far_24 md_queue_25 md_from_26 md_by_27 md_many_28 md_is_29 x2_30) ∧ (¬ x3_31 < 0 → vp_in x3_31 16384 ∧ (∀ x4_33 : Int32, x4_33 = md_queue_25 x3_31.toNatClampNeg → ∃ k79, wpL_X8_layGood_79 md_forms md_formMany md_seats md_now md_barAlways md_noPut K_51 (fun y0 y1 y2 y3 y4 y5 y6 y7 => wpL_X8_layGood_64 md_forms md_formMany md_seats md_now md_barAlways md_noPut K_51 post n y0 y1 y2 y3 y4 y5 y6 y7) post k79 md_far_24 md_queue_25 md_from_26 md_by_27 md_many_28 md_is_29 x2_30 x3_31 x4_33 ((0 : Int32))))
def wpL_X8_layGood_51 (md_forms : Nat → Int32) (md_formMany : Nat → Int32) (md_seats : Nat → Int32) (md_now : Int32) (md_barAlways : Int32) (md_noPut : Int32)  (post : (Nat → Int32) → (Nat → Int32) → (Nat → Int32) → (Nat → Int32) → Int32 → (Nat → Int32) → Prop) : Nat → (Nat → Int32) → (Nat → Int32) → (Nat → Int32) → (Nat → Int32) → Int32 → (Nat → Int32) → Int32 → Prop
  | 0, _, _, _, _, _, _, _ => False
  | n + 1, md_far_15, md_queue_16, md_from_17, md_by_18, md_many_19, md_is_20, x2_21 => (x2_21 = 0 → post md_far_15 md_queue_16 md_from_17 md_by_18 md_many_19 md_is_20) ∧ (¬ x2_21 = 0 → ∀ x3_23 : Int32, x3_23 = md_many_19 - ((1 : Int32)) → ∃ k64, wpL_X8_layGood_64 md_forms md_formMany md_seats md_now md_barAlways md_noPut (fun y0 y1 y2 y3 y4 y5 y6 => wpL_X8_layGood_51 md_forms md_formMany md_seats md_now md_barAlways md_noPut  post n y0 y1 y2 y3 y4 y5 y6) post k64 md_far_15 md_queue_16 md_from_17 md_by_18 md_many_19 md_is_20 ((0 : Int32)) x3_23)
def wpL_X8_layGood_14 (md_forms : Nat → Int32) (md_formMany : Nat → Int32) (md_seats : Nat → Int32) (md_now : Int32) (md_barAlways : Int32) (md_noPut : Int32)  (post : (Nat → Int32) → (Nat → Int32) → (Nat → Int32) → (Nat → Int32) → Int32 → (Nat → Int32) → Prop) : Nat → (Nat → Int32) → (Nat → Int32) → (Nat → Int32) → (Nat → Int32) → Int32 → (Nat → Int32) → Int32 → Int32 → Prop
  | 0, _, _, _, _, _, _, _, _ => False
  | n + 1, md_far_6, md_queue_7, md_from_8, md_by_9, md_many_10, md_is_11, x1_12, x2_13 => (md_many_10 ≤ x2_13 → ∃ k51, wpL_X8_layGood_51 md_forms md_formMany md_seats md_now md_barAlways md_noPut  post k51 md_far_6 md_queue_7 md_from_8 md_by_9 md_many_10 md_is_11 ((1 : Int32))) ∧ (¬ md_many_10 ≤ x2_13 → vp_in x2_13 16384 ∧ (vp_in x2_13 16384 ∧ (wp_X8_isSo  (md_queue_7 x2_13.toNatClampNeg) x1_12 (fun (r_60 : Int32) => vp_in (md_queue_7 x2_13.toNatClampNeg) 16384 ∧ ∀ md_is_61 : Nat → Int32, md_is_61 = upd md_is_11 (md_queue_7 x2_13.toNatClampNeg).toNatClampNeg (vp_nar .boolean r_60) → ∀ x2_62 : Int32, x2_62 = x2_13 + (1 : Int32) → (wpL_X8_layGood_14 md_forms md_formMany md_seats md_now md_barAlways md_noPut  post n) md_far_6 md_queue_7 md_from_8 md_by_9 md_many_10 md_is_61 x1_12 x2_62))))
def wp_X8_layGood (md_forms : Nat → Int32) (md_formMany : Nat → Int32) (md_seats : Nat → Int32) (md_now : Int32) (md_barAlways : Int32) (md_noPut : Int32) (md_far : Nat → Int32) (md_queue : Nat → Int32) (md_from : Nat → Int32) (md_by : Nat → Int32) (md_many : Int32) (md_is : Nat → Int32) (p0 : Int32) (post : (Nat → Int32) → (Nat → Int32) → (Nat → Int32) → (Nat → Int32) → Int32 → (Nat → Int32) → Prop) : Prop := wp_X8_wave md_forms md_formMany md_seats md_barAlways md_noPut md_far md_queue md_from md_by md_many md_now ((15 : Int32)) ((15 : Int32)) (fun (md_far_1 : Nat → Int32) (md_queue_2 : Nat → Int32) (md_from_3 : Nat → Int32) (md_by_4 : Nat → Int32) (md_many_5 : Int32) => ∃ k14, wpL_X8_layGood_14 md_forms md_formMany md_seats md_now md_barAlways md_noPut  post k14 md_far_1 md_queue_2 md_from_3 md_by_4 md_many_5 md_is p0 ((0 : Int32)))
set_option maxHeartbeats 4000000 in
set_option maxRecDepth 100000 in
theorem c_X8_layGood (l : Launch) (D : va_G) (cI cZ : ClassId) (md : Nat → Nat) (md_thrown : Int32) (md_text : Nat → Int32) (md_textSize : Int32) (md_place : Int32) (md_letter : Int32) (md_first : Int32) (md_second : Int32) (md_third : Int32) (md_side : Int32) (md_hang : Int32) (md_forms : Nat → Int32) (md_formMany : Nat → Int32) (md_seats : Nat → Int32) (md_now : Int32) (md_barAlways : Int32) (md_noPut : Int32) (md_far : Nat → Int32) (md_queue : Nat → Int32) (md_from : Nat → Int32) (md_by : Nat → Int32) (md_many : Int32) (md_is : Nat → Int32) (md_next : Nat → Int32) (md_rollSet : Nat → Int32) (md_rollAct : Nat → Int32) (md_rolls : Int32) (md_slots : Nat → Int32) (md_isKept : Nat → Int32) (p0 : Int32) (post : (Nat → Int32) → (Nat → Int32) → (Nat → Int32) → (Nat → Int32) → Int32 → (Nat → Int32) → Prop) (hm : wp_X8_layGood md_forms md_formMany md_seats md_now md_barAlways md_noPut md_far md_queue md_from md_by md_many md_is p0 post) : Mv l D cI cZ yX8_layGood cX8_layGood 7 6 148 [.ref (md 0), .int p0] (W_md cI cZ md md_thrown md_text md_textSize md_place md_letter md_first md_second md_third md_side md_hang md_forms md_formMany md_seats md_now md_barAlways md_noPut md_far md_queue md_from md_by md_many md_is md_next md_rollSet md_rollAct md_rolls md_slots md_isKept) (S := (Nat → Int32) × (Nat → Int32) × (Nat → Int32) × (Nat → Int32) × Int32 × (Nat → Int32)) (fun u => W_md cI cZ md md_thrown md_text md_textSize md_place md_letter md_first md_second md_third md_side md_hang md_forms md_formMany md_seats md_now md_barAlways md_noPut (u.1) (u.2.1) (u.2.2.1) (u.2.2.2.1) (u.2.2.2.2.1) (u.2.2.2.2.2) md_next md_rollSet md_rollAct md_rolls md_slots md_isKept) (fun u => post u.1 u.2.1 u.2.2.1 u.2.2.2.1 u.2.2.2.2.1 u.2.2.2.2.2) := by
  refine mk_Mv (by decide +kernel) (Nat.le_of_ble_eq_true rfl) ?_
  intro Γ hl0 hD0 hC hR
  subst hl0
  subst hD0
  have hC : CX Γ cI cZ cX8_layGood RX8 7 6 148 := hC
  show VV Γ (W_md cI cZ md md_thrown md_text md_textSize md_place md_letter md_first md_second md_third md_side md_hang md_forms md_formMany md_seats md_now md_barAlways md_noPut md_far md_queue md_from md_by md_many md_is md_next md_rollSet md_rollAct md_rolls md_slots md_isKept) [(0, .ref (md 0)), (1, .int p0)] 0 []
  have B_79 : ∀ (K_51 : (Nat → Int32) → (Nat → Int32) → (Nat → Int32) → (Nat → Int32) → Int32 → (Nat → Int32) → Int32 → Prop) (hK_51 : ∀ (md_far_15 : Nat → Int32) (md_queue_16 : Nat → Int32) (md_from_17 : Nat → Int32) (md_by_18 : Nat → Int32) (md_many_19 : Int32) (md_is_20 : Nat → Int32) (x2_21 : Int32), K_51 md_far_15 md_queue_16 md_from_17 md_by_18 md_many_19 md_is_20 x2_21 → VV Γ (W_md cI cZ md md_thrown md_text md_textSize md_place md_letter md_first md_second md_third md_side md_hang md_forms md_formMany md_seats md_now md_barAlways md_noPut md_far_15 md_queue_16 md_from_17 md_by_18 md_many_19 md_is_20 md_next md_rollSet md_rollAct md_rolls md_slots md_isKept) [(0, .ref (md 0)), (2, .int x2_21)] 51 []) (K_64 : (Nat → Int32) → (Nat → Int32) → (Nat → Int32) → (Nat → Int32) → Int32 → (Nat → Int32) → Int32 → Int32 → Prop) (hK_64 : ∀ (md_far_24 : Nat → Int32) (md_queue_25 : Nat → Int32) (md_from_26 : Nat → Int32) (md_by_27 : Nat → Int32) (md_many_28 : Int32) (md_is_29 : Nat → Int32) (x2_30 : Int32) (x3_31 : Int32), K_64 md_far_24 md_queue_25 md_from_26 md_by_27 md_many_28 md_is_29 x2_30 x3_31 → VV Γ (W_md cI cZ md md_thrown md_text md_textSize md_place md_letter md_first md_second md_third md_side md_hang md_forms md_formMany md_seats md_now md_barAlways md_noPut md_far_24 md_queue_25 md_from_26 md_by_27 md_many_28 md_is_29 md_next md_rollSet md_rollAct md_rolls md_slots md_isKept) [(0, .ref (md 0)), (2, .int x2_30), (3, .int x3_31)] 64 []) (n : Nat) (md_far_34 : Nat → Int32) (md_queue_35 : Nat → Int32) (md_from_36 : Nat → Int32) (md_by_37 : Nat → Int32) (md_many_38 : Int32) (md_is_39 : Nat → Int32) (x2_40 : Int32) (x3_41 : Int32) (x4_42 : Int32) (x5_43 : Int32), wpL_X8_layGood_79 md_forms md_formMany md_seats md_now md_barAlways md_noPut K_51 K_64 post n md_far_34 md_queue_35 md_from_36 md_by_37 md_many_38 md_is_39 x2_40 x3_41 x4_42 x5_43 → VV Γ (W_md cI cZ md md_thrown md_text md_textSize md_place md_letter md_first md_second md_third md_side md_hang md_forms md_formMany md_seats md_now md_barAlways md_noPut md_far_34 md_queue_35 md_from_36 md_by_37 md_many_38 md_is_39 md_next md_rollSet md_rollAct md_rolls md_slots md_isKept) [(0, .ref (md 0)), (2, .int x2_40), (3, .int x3_41), (4, .int x4_42), (5, .int x5_43)] 79 [] := by
    intro K_51 hK_51 K_64 hK_64 n
    induction n with
    | zero => intro md_far_34 md_queue_35 md_from_36 md_by_37 md_many_38 md_is_39 x2_40 x3_41 x4_42 x5_43 hm; rw [wpL_X8_layGood_79] at hm; exact hm.elim
    | succ n ih =>
      intro md_far_34 md_queue_35 md_from_36 md_by_37 md_many_38 md_is_39 x2_40 x3_41 x4_42 x5_43 hm
      rw [wpL_X8_layGood_79] at hm
      refine x_iload hC 4 dX8_layGood_79 rfl ?_
      refine x_bipush hC (20 : Int32) dX8_layGood_81 (by decide) ?_
      refine x_icmp_ge hC 158 dX8_layGood_83 (by decide) (fun c_44 => ?_) (fun c_44 => ?_)
      · replace hm := hm.1 c_44
        obtain ⟨x3_45, ex3_45⟩ : ∃ y : Int32, y = x3_41 + (-1 : Int32) := ⟨_, rfl⟩
        replace hm := hm x3_45 ex3_45
        refine x_iinc hC 2 x3_45 [(0, .ref (md 0)), (2, .int x2_40), (3, .int x3_45), (4, .int x4_42), (5, .int x5_43)] [1, 2, 0, 3, 4] dX8_layGood_158 rfl (by rw [ex3_45]; rfl) (by decide) rfl ?_
        refine x_goto hC 64 dX8_layGood_161 (by decide) ?_
        refine x_lsub [0, 1, 2] rfl ?_
        exact hK_64 md_far_34 md_queue_35 md_from_36 md_by_37 md_many_38 md_is_39 x2_40 x3_45 hm
      · replace hm := hm.2 c_44
        refine x_aload_n hC 0 dX8_layGood_86 rfl ?_
        refine x_get hC 5 inX8g 0 rfl rfl 21 (by decide) fl_X8_41 rfl dX8_layGood_87 ?_
        refine x_iload hC 3 dX8_layGood_90 rfl ?_
        refine x_zald hC 9 rfl hm.1 dX8_layGood_92 ?_
        replace hm := hm.2
        refine x_if_eq hC 158 dX8_layGood_93 (by decide) (fun c_46 => ?_) (fun c_46 => ?_)
        · replace hm := hm.1 c_46
          obtain ⟨x3_47, ex3_47⟩ : ∃ y : Int32, y = x3_41 + (-1 : Int32) := ⟨_, rfl⟩
          replace hm := hm x3_47 ex3_47
          refine x_iinc hC 2 x3_47 [(0, .ref (md 0)), (2, .int x2_40), (3, .int x3_47), (4, .int x4_42), (5, .int x5_43)] [1, 2, 0, 3, 4] dX8_layGood_158 rfl (by rw [ex3_47]; rfl) (by decide) rfl ?_
          refine x_goto hC 64 dX8_layGood_161 (by decide) ?_
          refine x_lsub [0, 1, 2] rfl ?_
          exact hK_64 md_far_34 md_queue_35 md_from_36 md_by_37 md_many_38 md_is_39 x2_40 x3_47 hm
        · replace hm := hm.2 c_46
          refine x_bipush hC (100 : Int32) dX8_layGood_96 (by decide) ?_
          refine x_iload hC 4 dX8_layGood_98 rfl ?_
          refine x_iconst hC (4 : Int32) dX8_layGood_100 (by decide) ?_
          refine x_idiv hC dX8_layGood_101 (by decide) ?_
          refine x_imul hC dX8_layGood_102 ?_
          refine x_bipush hC (10 : Int32) dX8_layGood_103 (by decide) ?_
          refine x_iload hC 4 dX8_layGood_105 rfl ?_
          refine x_iconst hC (4 : Int32) dX8_layGood_107 (by decide) ?_
          refine x_irem hC dX8_layGood_108 (by decide) ?_
          refine x_imul hC dX8_layGood_109 ?_
          refine x_iadd hC dX8_layGood_110 ?_
          refine x_top (fun x6_48 ex6_48 => ?_)
          replace hm := hm x6_48 ex6_48
          refine x_istore hC [(0, .ref (md 0)), (2, .int x2_40), (3, .int x3_41), (4, .int x4_42), (5, .int x5_43), (6, .int x6_48)] [1, 2, 3, 4, 5, 0] dX8_layGood_111 (by decide) rfl ?_
          refine x_aload_n hC 0 dX8_layGood_113 rfl ?_
          refine x_iload hC 3 dX8_layGood_114 rfl ?_
          refine x_bipush hC (15 : Int32) dX8_layGood_116 (by decide) ?_
          refine x_iload hC 5 dX8_layGood_118 rfl ?_
          refine x_callVi hC _ [0, 1, 2, 3, 4, 5, 6, 7, 8, 9, 10, 11, 12, 13, 14] [] [0, 1, 2, 3, 4, 5, 6, 7, 8, 9, 10, 11, 12, 13, 14] (([] : va_W)) (fun _ => W_md cI cZ md md_thrown md_text md_textSize md_place md_letter md_first md_second md_third md_side md_hang md_forms md_formMany md_seats md_now md_barAlways md_noPut md_far_34 md_queue_35 md_from_36 md_by_37 md_many_38 md_is_39 md_next md_rollSet md_rollAct md_rolls md_slots md_isKept) ok_X8_whyNot ml_X8_186 0 5 (c_X8_whyNot (gl Γ) (gD Γ) cI cZ md md_thrown md_text md_textSize md_place md_letter md_first md_second md_third md_side md_hang md_forms md_formMany md_seats md_now md_barAlways md_noPut md_far_34 md_queue_35 md_from_36 md_by_37 md_many_38 md_is_39 md_next md_rollSet md_rollAct md_rolls md_slots md_isKept x4_42 ((15 : Int32)) x6_48 _ hm) (by decide) (by decide) rfl (Nat.le_of_ble_eq_true rfl) rfl rfl rfl rfl (by decide) rfl (fun _ => rfl) rfl rfl rfl rfl dX8_layGood_120 ?_
          rintro r_49 _ hm
          refine x_if_ne hC 152 dX8_layGood_123 (by decide) (fun c_50 => ?_) (fun c_50 => ?_)
          · replace hm := hm.1 c_50
            obtain ⟨x5_51, ex5_51⟩ : ∃ y : Int32, y = x5_43 + (1 : Int32) := ⟨_, rfl⟩
            replace hm := hm x5_51 ex5_51
            refine x_iinc hC 4 x5_51 [(0, .ref (md 0)), (2, .int x2_40), (3, .int x3_41), (4, .int x4_42), (5, .int x5_51), (6, .int x6_48)] [1, 2, 3, 4, 0, 5] dX8_layGood_152 rfl (by rw [ex5_51]; rfl) (by decide) rfl ?_
            refine x_goto hC 79 dX8_layGood_155 (by decide) ?_
            refine x_lsub [0, 1, 2, 3, 4] rfl ?_
            exact ih md_far_34 md_queue_35 md_from_36 md_by_37 md_many_38 md_is_39 x2_40 x3_41 x4_42 x5_51 hm
          · replace hm := hm.2 c_50
            refine x_aload_n hC 0 dX8_layGood_126 rfl ?_
            refine x_get hC 5 inX8g 0 rfl rfl 21 (by decide) fl_X8_41 rfl dX8_layGood_127 ?_
            refine x_aload_n hC 0 dX8_layGood_130 rfl ?_
            refine x_iload hC 3 dX8_layGood_131 rfl ?_
            refine x_iload hC 5 dX8_layGood_133 rfl ?_
            refine x_callVi hC _ [0, 1, 2, 3, 4, 5, 6, 7, 8, 9, 10, 11, 12, 13, 14] [] [0, 1, 2, 3, 4, 5, 6, 7, 8, 9, 10, 11, 12, 13, 14] (([] : va_W)) (fun _ => W_md cI cZ md md_thrown md_text md_textSize md_place md_letter md_first md_second md_third md_side md_hang md_forms md_formMany md_seats md_now md_barAlways md_noPut md_far_34 md_queue_35 md_from_36 md_by_37 md_many_38 md_is_39 md_next md_rollSet md_rollAct md_rolls md_slots md_isKept) ok_X8_done ml_X8_183 0 5 (c_X8_done (gl Γ) (gD Γ) cI cZ md md_thrown md_text md_textSize md_place md_letter md_first md_second md_third md_side md_hang md_forms md_formMany md_seats md_now md_barAlways md_noPut md_far_34 md_queue_35 md_from_36 md_by_37 md_many_38 md_is_39 md_next md_rollSet md_rollAct md_rolls md_slots md_isKept x4_42 x6_48 _ hm) (by decide) (by decide) rfl (Nat.le_of_ble_eq_true rfl) rfl rfl rfl rfl (by decide) rfl (fun _ => rfl) rfl rfl rfl rfl dX8_layGood_135 ?_
            rintro r_52 _ hm
            refine x_zald hC 9 rfl hm.1 dX8_layGood_138 ?_
            replace hm := hm.2
            refine x_if_ne hC 152 dX8_layGood_139 (by decide) (fun c_53 => ?_) (fun c_53 => ?_)
            · replace hm := hm.1 c_53
              obtain ⟨x5_54, ex5_54⟩ : ∃ y : Int32, y = x5_43 + (1 : Int32) := ⟨_, rfl⟩
              replace hm := hm x5_54 ex5_54
              refine x_iinc hC 4 x5_54 [(0, .ref (md 0)), (2, .int x2_40), (3, .int x3_41), (4, .int x4_42), (5, .int x5_54), (6, .int x6_48)] [1, 2, 3, 4, 0, 5] dX8_layGood_152 rfl (by rw [ex5_54]; rfl) (by decide) rfl ?_
              refine x_goto hC 79 dX8_layGood_155 (by decide) ?_
              refine x_lsub [0, 1, 2, 3, 4] rfl ?_
              exact ih md_far_34 md_queue_35 md_from_36 md_by_37 md_many_38 md_is_39 x2_40 x3_41 x4_42 x5_54 hm
            · replace hm := hm.2 c_53
              refine x_aload_n hC 0 dX8_layGood_142 rfl ?_
              refine x_get hC 5 inX8g 0 rfl rfl 21 (by decide) fl_X8_41 rfl dX8_layGood_143 ?_
              refine x_iload hC 3 dX8_layGood_146 rfl ?_
              refine x_iconst hC (0 : Int32) dX8_layGood_148 (by decide) ?_
              refine x_zastN hC 9 rfl hm.1 (fun md_is_55 => W_md cI cZ md md_thrown md_text md_textSize md_place md_letter md_first md_second md_third md_side md_hang md_forms md_formMany md_seats md_now md_barAlways md_noPut md_far_34 md_queue_35 md_from_36 md_by_37 md_many_38 md_is_55 md_next md_rollSet md_rollAct md_rolls md_slots md_isKept) (fun _ => rfl) dX8_layGood_149 (fun md_is_55 emd_is_55 => ?_)
              replace hm := hm.2 md_is_55 emd_is_55
              refine x_iconst hC (1 : Int32) dX8_layGood_150 (by decide) ?_
              refine x_istore_n hC [(0, .ref (md 0)), (2, .int ((1 : Int32))), (3, .int x3_41), (4, .int x4_42), (5, .int x5_43), (6, .int x6_48)] [1, 0, 2, 3, 4, 5] dX8_layGood_151 (by decide) rfl ?_
              obtain ⟨x5_56, ex5_56⟩ : ∃ y : Int32, y = x5_43 + (1 : Int32) := ⟨_, rfl⟩
              replace hm := hm x5_56 ex5_56
              refine x_iinc hC 4 x5_56 [(0, .ref (md 0)), (2, .int ((1 : Int32))), (3, .int x3_41), (4, .int x4_42), (5, .int x5_56), (6, .int x6_48)] [1, 2, 3, 4, 0, 5] dX8_layGood_152 rfl (by rw [ex5_56]; rfl) (by decide) rfl ?_
              refine x_goto hC 79 dX8_layGood_155 (by decide) ?_
              refine x_lsub [0, 1, 2, 3, 4] rfl ?_
              exact ih md_far_34 md_queue_35 md_from_36 md_by_37 md_many_38 md_is_55 ((1 : Int32)) x3_41 x4_42 x5_56 hm
  have B_64 : ∀ (K_51 : (Nat → Int32) → (Nat → Int32) → (Nat → Int32) → (Nat → Int32) → Int32 → (Nat → Int32) → Int32 → Prop) (hK_51 : ∀ (md_far_15 : Nat → Int32) (md_queue_16 : Nat → Int32) (md_from_17 : Nat → Int32) (md_by_18 : Nat → Int32) (md_many_19 : Int32) (md_is_20 : Nat → Int32) (x2_21 : Int32), K_51 md_far_15 md_queue_16 md_from_17 md_by_18 md_many_19 md_is_20 x2_21 → VV Γ (W_md cI cZ md md_thrown md_text md_textSize md_place md_letter md_first md_second md_third md_side md_hang md_forms md_formMany md_seats md_now md_barAlways md_noPut md_far_15 md_queue_16 md_from_17 md_by_18 md_many_19 md_is_20 md_next md_rollSet md_rollAct md_rolls md_slots md_isKept) [(0, .ref (md 0)), (2, .int x2_21)] 51 []) (n : Nat) (md_far_24 : Nat → Int32) (md_queue_25 : Nat → Int32) (md_from_26 : Nat → Int32) (md_by_27 : Nat → Int32) (md_many_28 : Int32) (md_is_29 : Nat → Int32) (x2_30 : Int32) (x3_31 : Int32), wpL_X8_layGood_64 md_forms md_formMany md_seats md_now md_barAlways md_noPut K_51 post n md_far_24 md_queue_25 md_from_26 md_by_27 md_many_28 md_is_29 x2_30 x3_31 → VV Γ (W_md cI cZ md md_thrown md_text md_textSize md_place md_letter md_first md_second md_third md_side md_hang md_forms md_formMany md_seats md_now md_barAlways md_noPut md_far_24 md_queue_25 md_from_26 md_by_27 md_many_28 md_is_29 md_next md_rollSet md_rollAct md_rolls md_slots md_isKept) [(0, .ref (md 0)), (2, .int x2_30), (3, .int x3_31)] 64 [] := by
    intro K_51 hK_51 n
    induction n with
    | zero => intro md_far_24 md_queue_25 md_from_26 md_by_27 md_many_28 md_is_29 x2_30 x3_31 hm; rw [wpL_X8_layGood_64] at hm; exact hm.elim
    | succ n ih =>
      intro md_far_24 md_queue_25 md_from_26 md_by_27 md_many_28 md_is_29 x2_30 x3_31 hm
      rw [wpL_X8_layGood_64] at hm
      refine x_iload_n hC 2 dX8_layGood_64 rfl ?_
      refine x_if_lt hC 164 dX8_layGood_65 (by decide) (fun c_32 => ?_) (fun c_32 => ?_)
      · replace hm := hm.1 c_32
        refine x_goto hC 51 dX8_layGood_164 (by decide) ?_
        refine x_lsub [0, 1] rfl ?_
        exact hK_51 md_far_24 md_queue_25 md_from_26 md_by_27 md_many_28 md_is_29 x2_30 hm
      · replace hm := hm.2 c_32
        refine x_aload_n hC 0 dX8_layGood_68 rfl ?_
        refine x_get hC 5 inX8g 0 rfl rfl 17 (by decide) fl_X8_32 rfl dX8_layGood_69 ?_
        refine x_iload_n hC 2 dX8_layGood_72 rfl ?_
        refine x_iald hC 6 rfl hm.1 dX8_layGood_73 ?_
        replace hm := hm.2
        refine x_top (fun x4_33 ex4_33 => ?_)
        replace hm := hm x4_33 ex4_33
        refine x_istore hC [(0, .ref (md 0)), (2, .int x2_30), (3, .int x3_31), (4, .int x4_33)] [1, 2, 3, 0] dX8_layGood_74 (by decide) rfl ?_
        refine x_iconst hC (0 : Int32) dX8_layGood_76 (by decide) ?_
        refine x_istore hC [(0, .ref (md 0)), (2, .int x2_30), (3, .int x3_31), (4, .int x4_33), (5, .int ((0 : Int32)))] [1, 2, 3, 4, 0] dX8_layGood_77 (by decide) rfl ?_
        obtain ⟨n_57, hm⟩ := hm
        exact B_79 K_51 hK_51 (fun y0 y1 y2 y3 y4 y5 y6 y7 => wpL_X8_layGood_64 md_forms md_formMany md_seats md_now md_barAlways md_noPut K_51 post n y0 y1 y2 y3 y4 y5 y6 y7) ih n_57 md_far_24 md_queue_25 md_from_26 md_by_27 md_many_28 md_is_29 x2_30 x3_31 x4_33 ((0 : Int32)) hm
  have B_51 : ∀ (n : Nat) (md_far_15 : Nat → Int32) (md_queue_16 : Nat → Int32) (md_from_17 : Nat → Int32) (md_by_18 : Nat → Int32) (md_many_19 : Int32) (md_is_20 : Nat → Int32) (x2_21 : Int32), wpL_X8_layGood_51 md_forms md_formMany md_seats md_now md_barAlways md_noPut  post n md_far_15 md_queue_16 md_from_17 md_by_18 md_many_19 md_is_20 x2_21 → VV Γ (W_md cI cZ md md_thrown md_text md_textSize md_place md_letter md_first md_second md_third md_side md_hang md_forms md_formMany md_seats md_now md_barAlways md_noPut md_far_15 md_queue_16 md_from_17 md_by_18 md_many_19 md_is_20 md_next md_rollSet md_rollAct md_rolls md_slots md_isKept) [(0, .ref (md 0)), (2, .int x2_21)] 51 [] := by
    intro  n
    induction n with
    | zero => intro md_far_15 md_queue_16 md_from_17 md_by_18 md_many_19 md_is_20 x2_21 hm; rw [wpL_X8_layGood_51] at hm; exact hm.elim
    | succ n ih =>
      intro md_far_15 md_queue_16 md_from_17 md_by_18 md_many_19 md_is_20 x2_21 hm
      rw [wpL_X8_layGood_51] at hm
      refine x_iload_n hC 1 dX8_layGood_51 rfl ?_
      refine x_if_eq hC 167 dX8_layGood_52 (by decide) (fun c_22 => ?_) (fun c_22 => ?_)
      · replace hm := hm.1 c_22
        exact hR (md_far_15, md_queue_16, md_from_17, md_by_18, md_many_19, md_is_20) [(0, .ref (md 0)), (2, .int x2_21)] 167 hm dX8_layGood_167
      · replace hm := hm.2 c_22
        refine x_iconst hC (0 : Int32) dX8_layGood_55 (by decide) ?_
        refine x_istore_n hC [(0, .ref (md 0)), (2, .int ((0 : Int32)))] [1, 0] dX8_layGood_56 (by decide) rfl ?_
        refine x_aload_n hC 0 dX8_layGood_57 rfl ?_
        refine x_get hC 5 inX8g 0 rfl rfl 20 (by decide) fl_X8_195 rfl dX8_layGood_58 ?_
        refine x_iconst hC (1 : Int32) dX8_layGood_61 (by decide) ?_
        refine x_isub hC dX8_layGood_62 ?_
        refine x_top (fun x3_23 ex3_23 => ?_)
        replace hm := hm x3_23 ex3_23
        refine x_istore_n hC [(0, .ref (md 0)), (2, .int ((0 : Int32))), (3, .int x3_23)] [1, 2, 0] dX8_layGood_63 (by decide) rfl ?_
        obtain ⟨n_58, hm⟩ := hm
        exact B_64 (fun y0 y1 y2 y3 y4 y5 y6 => wpL_X8_layGood_51 md_forms md_formMany md_seats md_now md_barAlways md_noPut  post n y0 y1 y2 y3 y4 y5 y6) ih n_58 md_far_15 md_queue_16 md_from_17 md_by_18 md_many_19 md_is_20 ((0 : Int32)) x3_23 hm
  have B_14 : ∀ (n : Nat) (md_far_6 : Nat → Int32) (md_queue_7 : Nat → Int32) (md_from_8 : Nat → Int32) (md_by_9 : Nat → Int32) (md_many_10 : Int32) (md_is_11 : Nat → Int32) (x1_12 : Int32) (x2_13 : Int32), wpL_X8_layGood_14 md_forms md_formMany md_seats md_now md_barAlways md_noPut  post n md_far_6 md_queue_7 md_from_8 md_by_9 md_many_10 md_is_11 x1_12 x2_13 → VV Γ (W_md cI cZ md md_thrown md_text md_textSize md_place md_letter md_first md_second md_third md_side md_hang md_forms md_formMany md_seats md_now md_barAlways md_noPut md_far_6 md_queue_7 md_from_8 md_by_9 md_many_10 md_is_11 md_next md_rollSet md_rollAct md_rolls md_slots md_isKept) [(0, .ref (md 0)), (1, .int x1_12), (2, .int x2_13)] 14 [] := by
    intro  n
    induction n with
    | zero => intro md_far_6 md_queue_7 md_from_8 md_by_9 md_many_10 md_is_11 x1_12 x2_13 hm; rw [wpL_X8_layGood_14] at hm; exact hm.elim
    | succ n ih =>
      intro md_far_6 md_queue_7 md_from_8 md_by_9 md_many_10 md_is_11 x1_12 x2_13 hm
      rw [wpL_X8_layGood_14] at hm
      refine x_iload_n hC 2 dX8_layGood_14 rfl ?_
      refine x_aload_n hC 0 dX8_layGood_15 rfl ?_
      refine x_get hC 5 inX8g 0 rfl rfl 20 (by decide) fl_X8_195 rfl dX8_layGood_16 ?_
      refine x_icmp_ge hC 49 dX8_layGood_19 (by decide) (fun c_14 => ?_) (fun c_14 => ?_)
      · replace hm := hm.1 c_14
        refine x_iconst hC (1 : Int32) dX8_layGood_49 (by decide) ?_
        refine x_istore_n hC [(0, .ref (md 0)), (1, .int x1_12), (2, .int ((1 : Int32)))] [1, 2, 0] dX8_layGood_50 (by decide) rfl ?_
        obtain ⟨n_59, hm⟩ := hm
        refine x_lsub [0, 2] rfl ?_
        exact B_51  n_59 md_far_6 md_queue_7 md_from_8 md_by_9 md_many_10 md_is_11 ((1 : Int32)) hm
      · replace hm := hm.2 c_14
        refine x_aload_n hC 0 dX8_layGood_22 rfl ?_
        refine x_get hC 5 inX8g 0 rfl rfl 21 (by decide) fl_X8_41 rfl dX8_layGood_23 ?_
        refine x_aload_n hC 0 dX8_layGood_26 rfl ?_
        refine x_get hC 5 inX8g 0 rfl rfl 17 (by decide) fl_X8_32 rfl dX8_layGood_27 ?_
        refine x_iload_n hC 2 dX8_layGood_30 rfl ?_
        refine x_iald hC 6 rfl hm.1 dX8_layGood_31 ?_
        replace hm := hm.2
        refine x_aload_n hC 0 dX8_layGood_32 rfl ?_
        refine x_get hC 5 inX8g 0 rfl rfl 17 (by decide) fl_X8_32 rfl dX8_layGood_33 ?_
        refine x_iload_n hC 2 dX8_layGood_36 rfl ?_
        refine x_iald hC 6 rfl hm.1 dX8_layGood_37 ?_
        replace hm := hm.2
        refine x_iload_n hC 1 dX8_layGood_38 rfl ?_
        refine x_callSi hC _ [] [0, 1, 2, 3, 4, 5, 6, 7, 8, 9, 10, 11, 12, 13, 14] [0, 1, 2, 3, 4, 5, 6, 7, 8, 9, 10, 11, 12, 13, 14] (W_md cI cZ md md_thrown md_text md_textSize md_place md_letter md_first md_second md_third md_side md_hang md_forms md_formMany md_seats md_now md_barAlways md_noPut md_far_6 md_queue_7 md_from_8 md_by_9 md_many_10 md_is_11 md_next md_rollSet md_rollAct md_rolls md_slots md_isKept) (fun _ => W_md cI cZ md md_thrown md_text md_textSize md_place md_letter md_first md_second md_third md_side md_hang md_forms md_formMany md_seats md_now md_barAlways md_noPut md_far_6 md_queue_7 md_from_8 md_by_9 md_many_10 md_is_11 md_next md_rollSet md_rollAct md_rolls md_slots md_isKept) ok_X8_isSo ml_X8_164 (c_X8_isSo (gl Γ) (gD Γ) cI cZ   (md_queue_7 x2_13.toNatClampNeg) x1_12 _ hm) (by decide) (by decide) rfl (Nat.le_of_ble_eq_true rfl) rfl rfl rfl rfl (by decide) rfl (fun _ => rfl) rfl dX8_layGood_39 ?_
        rintro r_60 _ hm
        refine x_zastN hC 9 rfl hm.1 (fun md_is_61 => W_md cI cZ md md_thrown md_text md_textSize md_place md_letter md_first md_second md_third md_side md_hang md_forms md_formMany md_seats md_now md_barAlways md_noPut md_far_6 md_queue_7 md_from_8 md_by_9 md_many_10 md_is_61 md_next md_rollSet md_rollAct md_rolls md_slots md_isKept) (fun _ => rfl) dX8_layGood_42 (fun md_is_61 emd_is_61 => ?_)
        replace hm := hm.2 md_is_61 emd_is_61
        obtain ⟨x2_62, ex2_62⟩ : ∃ y : Int32, y = x2_13 + (1 : Int32) := ⟨_, rfl⟩
        replace hm := hm x2_62 ex2_62
        refine x_iinc hC 2 x2_62 [(0, .ref (md 0)), (1, .int x1_12), (2, .int x2_62)] [1, 2, 0] dX8_layGood_43 rfl (by rw [ex2_62]; rfl) (by decide) rfl ?_
        refine x_goto hC 14 dX8_layGood_46 (by decide) ?_
        exact ih md_far_6 md_queue_7 md_from_8 md_by_9 md_many_10 md_is_61 x1_12 x2_62 hm
  unfold wp_X8_layGood at hm
  refine x_aload_n hC 0 dX8_layGood_0 rfl ?_
  refine x_aload_n hC 0 dX8_layGood_1 rfl ?_
  refine x_get hC 5 inX8g 0 rfl rfl 13 (by decide) fl_X8_140 rfl dX8_layGood_2 ?_
  refine x_bipush hC (15 : Int32) dX8_layGood_5 (by decide) ?_
  refine x_bipush hC (15 : Int32) dX8_layGood_7 (by decide) ?_
  refine x_callVv hC _ [0, 1, 2, 3, 4, 5, 6, 7, 8, 9, 10, 11, 12, 13, 14] [] [0, 1, 2, 3, 4, 5, 6, 7, 8, 9, 10, 11, 12, 13, 14] (([] : va_W)) (fun u => W_md cI cZ md md_thrown md_text md_textSize md_place md_letter md_first md_second md_third md_side md_hang md_forms md_formMany md_seats md_now md_barAlways md_noPut (u.1) (u.2.1) (u.2.2.1) (u.2.2.2.1) (u.2.2.2.2) md_is md_next md_rollSet md_rollAct md_rolls md_slots md_isKept) ok_X8_wave ml_X8_198 0 5 (c_X8_wave (gl Γ) (gD Γ) cI cZ md md_thrown md_text md_textSize md_place md_letter md_first md_second md_third md_side md_hang md_forms md_formMany md_seats md_now md_barAlways md_noPut md_far md_queue md_from md_by md_many md_is md_next md_rollSet md_rollAct md_rolls md_slots md_isKept md_now ((15 : Int32)) ((15 : Int32)) _ hm) (by decide) (by decide) rfl (Nat.le_of_ble_eq_true rfl) rfl rfl rfl rfl (by decide) rfl (fun _ => rfl) rfl rfl rfl rfl dX8_layGood_9 ?_
  rintro ⟨md_far_1, md_queue_2, md_from_3, md_by_4, md_many_5⟩ hm
  refine x_iconst hC (0 : Int32) dX8_layGood_12 (by decide) ?_
  refine x_istore_n hC [(0, .ref (md 0)), (1, .int p0), (2, .int ((0 : Int32)))] [1, 2, 0] dX8_layGood_13 (by decide) rfl ?_
  obtain ⟨n_63, hm⟩ := hm
  exact B_14  n_63 md_far_1 md_queue_2 md_from_3 md_by_4 md_many_5 md_is p0 ((0 : Int32)) hm

def wp_X8_forGood (md_thrown : Int32) (md_forms : Nat → Int32) (md_formMany : Nat → Int32) (md_seats : Nat → Int32) (md_now : Int32) (md_barAlways : Int32) (md_noPut : Int32) (md_far : Nat → Int32) (md_queue : Nat → Int32) (md_from : Nat → Int32) (md_by : Nat → Int32) (md_many : Int32) (md_is : Nat → Int32) (p0 : Int32) (post : Int32 → Int32 → (Nat → Int32) → (Nat → Int32) → (Nat → Int32) → (Nat → Int32) → Int32 → (Nat → Int32) → Prop) : Prop := wp_X8_noGoal  p0 (fun (r_1 : Int32) => (r_1 = 0 → wp_X8_layGood md_forms md_formMany md_seats md_now md_barAlways md_noPut md_far md_queue md_from md_by md_many md_is p0 (fun (md_far_3 : Nat → Int32) (md_queue_4 : Nat → Int32) (md_from_5 : Nat → Int32) (md_by_6 : Nat → Int32) (md_many_7 : Int32) (md_is_8 : Nat → Int32) => vp_in md_now 16384 ∧ (((md_is_8 md_now.toNatClampNeg) = 0 → post ((0 : Int32)) ((0 : Int32)) md_far_3 md_queue_4 md_from_5 md_by_6 md_many_7 md_is_8) ∧ (¬ (md_is_8 md_now.toNatClampNeg) = 0 → post ((1 : Int32)) ((0 : Int32)) md_far_3 md_queue_4 md_from_5 md_by_6 md_many_7 md_is_8)))) ∧ (¬ r_1 = 0 → post ((-2 : Int32)) ((0 : Int32)) md_far md_queue md_from md_by md_many md_is))
set_option maxHeartbeats 4000000 in
set_option maxRecDepth 100000 in
theorem c_X8_forGood (l : Launch) (D : va_G) (cI cZ : ClassId) (md : Nat → Nat) (md_thrown : Int32) (md_text : Nat → Int32) (md_textSize : Int32) (md_place : Int32) (md_letter : Int32) (md_first : Int32) (md_second : Int32) (md_third : Int32) (md_side : Int32) (md_hang : Int32) (md_forms : Nat → Int32) (md_formMany : Nat → Int32) (md_seats : Nat → Int32) (md_now : Int32) (md_barAlways : Int32) (md_noPut : Int32) (md_far : Nat → Int32) (md_queue : Nat → Int32) (md_from : Nat → Int32) (md_by : Nat → Int32) (md_many : Int32) (md_is : Nat → Int32) (md_next : Nat → Int32) (md_rollSet : Nat → Int32) (md_rollAct : Nat → Int32) (md_rolls : Int32) (md_slots : Nat → Int32) (md_isKept : Nat → Int32) (p0 : Int32) (post : Int32 → Int32 → (Nat → Int32) → (Nat → Int32) → (Nat → Int32) → (Nat → Int32) → Int32 → (Nat → Int32) → Prop) (hm : wp_X8_forGood md_thrown md_forms md_formMany md_seats md_now md_barAlways md_noPut md_far md_queue md_from md_by md_many md_is p0 post) : Mi l D cI cZ yX8_forGood cX8_forGood 2 .int 7 174 [.ref (md 0), .int p0] (W_md cI cZ md md_thrown md_text md_textSize md_place md_letter md_first md_second md_third md_side md_hang md_forms md_formMany md_seats md_now md_barAlways md_noPut md_far md_queue md_from md_by md_many md_is md_next md_rollSet md_rollAct md_rolls md_slots md_isKept) (S := Int32 × (Nat → Int32) × (Nat → Int32) × (Nat → Int32) × (Nat → Int32) × Int32 × (Nat → Int32)) (fun u => W_md cI cZ md (u.1) md_text md_textSize md_place md_letter md_first md_second md_third md_side md_hang md_forms md_formMany md_seats md_now md_barAlways md_noPut (u.2.1) (u.2.2.1) (u.2.2.2.1) (u.2.2.2.2.1) (u.2.2.2.2.2.1) (u.2.2.2.2.2.2) md_next md_rollSet md_rollAct md_rolls md_slots md_isKept) (fun r u => post r u.1 u.2.1 u.2.2.1 u.2.2.2.1 u.2.2.2.2.1 u.2.2.2.2.2.1 u.2.2.2.2.2.2) := by
  refine mk_Mi (by decide +kernel) (Nat.le_of_ble_eq_true rfl) ?_
  intro Γ hl0 hD0 hC hR
  subst hl0
  subst hD0
  have hC : CX Γ cI cZ cX8_forGood RX8 2 7 174 := hC
  show VV Γ (W_md cI cZ md md_thrown md_text md_textSize md_place md_letter md_first md_second md_third md_side md_hang md_forms md_formMany md_seats md_now md_barAlways md_noPut md_far md_queue md_from md_by md_many md_is md_next md_rollSet md_rollAct md_rolls md_slots md_isKept) [(0, .ref (md 0)), (1, .int p0)] 0 []
  unfold wp_X8_forGood at hm
  refine x_aload_n hC 0 dX8_forGood_0 rfl ?_
  refine x_iconst hC (0 : Int32) dX8_forGood_1 (by decide) ?_
  refine x_put hC 5 tyX8_ok nmX8 inX8g 0 rfl rfl 0 (by decide) fl_X8_60 rfl (ty := .int) (by decide +kernel) rfl rfl (Nat.le_of_ble_eq_true rfl) (W_md cI cZ md ((0 : Int32)) md_text md_textSize md_place md_letter md_first md_second md_third md_side md_hang md_forms md_formMany md_seats md_now md_barAlways md_noPut md_far md_queue md_from md_by md_many md_is md_next md_rollSet md_rollAct md_rolls md_slots md_isKept) rfl dX8_forGood_2 ?_
  refine x_iload_n hC 1 dX8_forGood_5 rfl ?_
  refine x_callSi hC _ [] [0, 1, 2, 3, 4, 5, 6, 7, 8, 9, 10, 11, 12, 13, 14] [0, 1, 2, 3, 4, 5, 6, 7, 8, 9, 10, 11, 12, 13, 14] (W_md cI cZ md ((0 : Int32)) md_text md_textSize md_place md_letter md_first md_second md_third md_side md_hang md_forms md_formMany md_seats md_now md_barAlways md_noPut md_far md_queue md_from md_by md_many md_is md_next md_rollSet md_rollAct md_rolls md_slots md_isKept) (fun _ => W_md cI cZ md ((0 : Int32)) md_text md_textSize md_place md_letter md_first md_second md_third md_side md_hang md_forms md_formMany md_seats md_now md_barAlways md_noPut md_far md_queue md_from md_by md_many md_is md_next md_rollSet md_rollAct md_rolls md_slots md_isKept) ok_X8_noGoal ml_X8_177 (c_X8_noGoal (gl Γ) (gD Γ) cI cZ   p0 _ hm) (by decide) (by decide) rfl (Nat.le_of_ble_eq_true rfl) rfl rfl rfl rfl (by decide) rfl (fun _ => rfl) rfl dX8_forGood_6 ?_
  rintro r_1 _ hm
  refine x_if_eq hC 15 dX8_forGood_9 (by decide) (fun c_2 => ?_) (fun c_2 => ?_)
  · replace hm := hm.1 c_2
    refine x_aload_n hC 0 dX8_forGood_15 rfl ?_
    refine x_iload_n hC 1 dX8_forGood_16 rfl ?_
    refine x_callVv hC _ [0, 1, 2, 3, 4, 5, 6, 7, 8, 9, 10, 11, 12, 13, 14] [] [0, 1, 2, 3, 4, 5, 6, 7, 8, 9, 10, 11, 12, 13, 14] (([] : va_W)) (fun u => W_md cI cZ md ((0 : Int32)) md_text md_textSize md_place md_letter md_first md_second md_third md_side md_hang md_forms md_formMany md_seats md_now md_barAlways md_noPut (u.1) (u.2.1) (u.2.2.1) (u.2.2.2.1) (u.2.2.2.2.1) (u.2.2.2.2.2) md_next md_rollSet md_rollAct md_rolls md_slots md_isKept) ok_X8_layGood ml_X8_209 0 5 (c_X8_layGood (gl Γ) (gD Γ) cI cZ md ((0 : Int32)) md_text md_textSize md_place md_letter md_first md_second md_third md_side md_hang md_forms md_formMany md_seats md_now md_barAlways md_noPut md_far md_queue md_from md_by md_many md_is md_next md_rollSet md_rollAct md_rolls md_slots md_isKept p0 _ hm) (by decide) (by decide) rfl (Nat.le_of_ble_eq_true rfl) rfl rfl rfl rfl (by decide) rfl (fun _ => rfl) rfl rfl rfl rfl dX8_forGood_17 ?_
    rintro ⟨md_far_3, md_queue_4, md_from_5, md_by_6, md_many_7, md_is_8⟩ hm
    refine x_aload_n hC 0 dX8_forGood_20 rfl ?_
    refine x_get hC 5 inX8g 0 rfl rfl 21 (by decide) fl_X8_41 rfl dX8_forGood_21 ?_
    refine x_aload_n hC 0 dX8_forGood_24 rfl ?_
    refine x_get hC 5 inX8g 0 rfl rfl 13 (by decide) fl_X8_140 rfl dX8_forGood_25 ?_
    refine x_zald hC 9 rfl hm.1 dX8_forGood_28 ?_
    replace hm := hm.2
    refine x_if_eq hC 36 dX8_forGood_29 (by decide) (fun c_9 => ?_) (fun c_9 => ?_)
    · replace hm := hm.1 c_9
      refine x_iconst hC (0 : Int32) dX8_forGood_36 (by decide) ?_
      exact hR ((0 : Int32)) ((0 : Int32), md_far_3, md_queue_4, md_from_5, md_by_6, md_many_7, md_is_8) [(0, .ref (md 0)), (1, .int p0)] 37 hm rfl dX8_forGood_37
    · replace hm := hm.2 c_9
      refine x_iconst hC (1 : Int32) dX8_forGood_32 (by decide) ?_
      refine x_goto hC 37 dX8_forGood_33 (by decide) ?_
      exact hR ((1 : Int32)) ((0 : Int32), md_far_3, md_queue_4, md_from_5, md_by_6, md_many_7, md_is_8) [(0, .ref (md 0)), (1, .int p0)] 37 hm rfl dX8_forGood_37
  · replace hm := hm.2 c_2
    refine x_bipush hC (-2 : Int32) dX8_forGood_12 (by decide) ?_
    exact hR ((-2 : Int32)) ((0 : Int32), md_far, md_queue, md_from, md_by, md_many, md_is) [(0, .ref (md 0)), (1, .int p0)] 14 hm rfl dX8_forGood_14

def wp_X8_force (md_thrown : Int32) (md_forms : Nat → Int32) (md_now : Int32) (p0 : Int32) (post : Int32 → Int32 → Prop) : Prop := wp_X8_noClause  p0 (fun (r_1 : Int32) => (r_1 = 0 → wp_X8_isForce md_forms md_now p0 (fun (r_3 : Int32) => (r_3 = 0 → post ((0 : Int32)) ((0 : Int32))) ∧ (¬ r_3 = 0 → post ((1 : Int32)) ((0 : Int32))))) ∧ (¬ r_1 = 0 → post ((-1 : Int32)) ((0 : Int32))))
set_option maxHeartbeats 4000000 in
set_option maxRecDepth 100000 in
theorem c_X8_force (l : Launch) (D : va_G) (cI cZ : ClassId) (md : Nat → Nat) (md_thrown : Int32) (md_text : Nat → Int32) (md_textSize : Int32) (md_place : Int32) (md_letter : Int32) (md_first : Int32) (md_second : Int32) (md_third : Int32) (md_side : Int32) (md_hang : Int32) (md_forms : Nat → Int32) (md_formMany : Nat → Int32) (md_seats : Nat → Int32) (md_now : Int32) (md_barAlways : Int32) (md_noPut : Int32) (md_far : Nat → Int32) (md_queue : Nat → Int32) (md_from : Nat → Int32) (md_by : Nat → Int32) (md_many : Int32) (md_is : Nat → Int32) (md_next : Nat → Int32) (md_rollSet : Nat → Int32) (md_rollAct : Nat → Int32) (md_rolls : Int32) (md_slots : Nat → Int32) (md_isKept : Nat → Int32) (p0 : Int32) (post : Int32 → Int32 → Prop) (hm : wp_X8_force md_thrown md_forms md_now p0 post) : Mi l D cI cZ yX8_force cX8_force 2 .int 3 67 [.ref (md 0), .int p0] (W_md cI cZ md md_thrown md_text md_textSize md_place md_letter md_first md_second md_third md_side md_hang md_forms md_formMany md_seats md_now md_barAlways md_noPut md_far md_queue md_from md_by md_many md_is md_next md_rollSet md_rollAct md_rolls md_slots md_isKept) (S := Int32) (fun u => W_md cI cZ md u md_text md_textSize md_place md_letter md_first md_second md_third md_side md_hang md_forms md_formMany md_seats md_now md_barAlways md_noPut md_far md_queue md_from md_by md_many md_is md_next md_rollSet md_rollAct md_rolls md_slots md_isKept) (fun r u => post r u) := by
  refine mk_Mi (by decide +kernel) (Nat.le_of_ble_eq_true rfl) ?_
  intro Γ hl0 hD0 hC hR
  subst hl0
  subst hD0
  have hC : CX Γ cI cZ cX8_force RX8 2 3 67 := hC
  show VV Γ (W_md cI cZ md md_thrown md_text md_textSize md_place md_letter md_first md_second md_third md_side md_hang md_forms md_formMany md_seats md_now md_barAlways md_noPut md_far md_queue md_from md_by md_many md_is md_next md_rollSet md_rollAct md_rolls md_slots md_isKept) [(0, .ref (md 0)), (1, .int p0)] 0 []
  unfold wp_X8_force at hm
  refine x_aload_n hC 0 dX8_force_0 rfl ?_
  refine x_iconst hC (0 : Int32) dX8_force_1 (by decide) ?_
  refine x_put hC 5 tyX8_ok nmX8 inX8g 0 rfl rfl 0 (by decide) fl_X8_60 rfl (ty := .int) (by decide +kernel) rfl rfl (Nat.le_of_ble_eq_true rfl) (W_md cI cZ md ((0 : Int32)) md_text md_textSize md_place md_letter md_first md_second md_third md_side md_hang md_forms md_formMany md_seats md_now md_barAlways md_noPut md_far md_queue md_from md_by md_many md_is md_next md_rollSet md_rollAct md_rolls md_slots md_isKept) rfl dX8_force_2 ?_
  refine x_iload_n hC 1 dX8_force_5 rfl ?_
  refine x_callSi hC _ [] [0, 1, 2, 3, 4, 5, 6, 7, 8, 9, 10, 11, 12, 13, 14] [0, 1, 2, 3, 4, 5, 6, 7, 8, 9, 10, 11, 12, 13, 14] (W_md cI cZ md ((0 : Int32)) md_text md_textSize md_place md_letter md_first md_second md_third md_side md_hang md_forms md_formMany md_seats md_now md_barAlways md_noPut md_far md_queue md_from md_by md_many md_is md_next md_rollSet md_rollAct md_rolls md_slots md_isKept) (fun _ => W_md cI cZ md ((0 : Int32)) md_text md_textSize md_place md_letter md_first md_second md_third md_side md_hang md_forms md_formMany md_seats md_now md_barAlways md_noPut md_far md_queue md_from md_by md_many md_is md_next md_rollSet md_rollAct md_rolls md_slots md_isKept) ok_X8_noClause ml_X8_137 (c_X8_noClause (gl Γ) (gD Γ) cI cZ   p0 _ hm) (by decide) (by decide) rfl (Nat.le_of_ble_eq_true rfl) rfl rfl rfl rfl (by decide) rfl (fun _ => rfl) rfl dX8_force_6 ?_
  rintro r_1 _ hm
  refine x_if_eq hC 16 dX8_force_9 (by decide) (fun c_2 => ?_) (fun c_2 => ?_)
  · replace hm := hm.1 c_2
    refine x_aload_n hC 0 dX8_force_16 rfl ?_
    refine x_aload_n hC 0 dX8_force_17 rfl ?_
    refine x_get hC 5 inX8g 0 rfl rfl 13 (by decide) fl_X8_140 rfl dX8_force_18 ?_
    refine x_iload_n hC 1 dX8_force_21 rfl ?_
    refine x_callVi hC _ [0, 1, 2, 3, 4, 5, 6, 7, 8, 9, 10, 11, 12, 13, 14] [] [0, 1, 2, 3, 4, 5, 6, 7, 8, 9, 10, 11, 12, 13, 14] (([] : va_W)) (fun _ => W_md cI cZ md ((0 : Int32)) md_text md_textSize md_place md_letter md_first md_second md_third md_side md_hang md_forms md_formMany md_seats md_now md_barAlways md_noPut md_far md_queue md_from md_by md_many md_is md_next md_rollSet md_rollAct md_rolls md_slots md_isKept) ok_X8_isForce ml_X8_168 0 5 (c_X8_isForce (gl Γ) (gD Γ) cI cZ md ((0 : Int32)) md_text md_textSize md_place md_letter md_first md_second md_third md_side md_hang md_forms md_formMany md_seats md_now md_barAlways md_noPut md_far md_queue md_from md_by md_many md_is md_next md_rollSet md_rollAct md_rolls md_slots md_isKept md_now p0 _ hm) (by decide) (by decide) rfl (Nat.le_of_ble_eq_true rfl) rfl rfl rfl rfl (by decide) rfl (fun _ => rfl) rfl rfl rfl rfl dX8_force_22 ?_
    rintro r_3 _ hm
    refine x_if_eq hC 32 dX8_force_25 (by decide) (fun c_4 => ?_) (fun c_4 => ?_)
    · replace hm := hm.1 c_4
      refine x_iconst hC (0 : Int32) dX8_force_32 (by decide) ?_
      exact hR ((0 : Int32)) (0 : Int32) [(0, .ref (md 0)), (1, .int p0)] 33 hm rfl dX8_force_33
    · replace hm := hm.2 c_4
      refine x_iconst hC (1 : Int32) dX8_force_28 (by decide) ?_
      refine x_goto hC 33 dX8_force_29 (by decide) ?_
      exact hR ((1 : Int32)) (0 : Int32) [(0, .ref (md 0)), (1, .int p0)] 33 hm rfl dX8_force_33
  · replace hm := hm.2 c_2
    refine x_iconst hC (-1 : Int32) dX8_force_12 (by decide) ?_
    refine x_goto hC 33 dX8_force_13 (by decide) ?_
    exact hR ((-1 : Int32)) (0 : Int32) [(0, .ref (md 0)), (1, .int p0)] 33 hm rfl dX8_force_33

def wp_X8_form (md_thrown : Int32) (md_text : Nat → Int32) (md_textSize : Int32) (md_place : Int32) (md_letter : Int32) (md_first : Int32) (md_second : Int32) (md_third : Int32) (md_side : Int32) (md_hang : Int32) (md_forms : Nat → Int32) (md_formMany : Nat → Int32) (p0 : Int32) (post : Int32 → Int32 → Int32 → Int32 → Int32 → Int32 → Int32 → Int32 → Int32 → (Nat → Int32) → (Nat → Int32) → Prop) : Prop := wp_X8_noClause  p0 (fun (r_1 : Int32) => (r_1 = 0 → wp_X8_read md_text md_textSize md_place md_letter md_first md_second md_third md_side md_hang  (fun (r_10 : Int32) (md_place_3 : Int32) (md_letter_4 : Int32) (md_first_5 : Int32) (md_second_6 : Int32) (md_third_7 : Int32) (md_side_8 : Int32) (md_hang_9 : Int32) => (r_10 = ((-9 : Int32)) → vp_in p0 5 ∧ ((¬ (md_formMany p0.toNatClampNeg) = ((3 : Int32)) → vp_in p0 5 ∧ (∀ x2_13 : Int32, x2_13 = (((18 : Int32)) * p0) + (((6 : Int32)) * (md_formMany p0.toNatClampNeg)) → vp_in x2_13 90 ∧ ∀ md_forms_14 : Nat → Int32, md_forms_14 = upd md_forms x2_13.toNatClampNeg md_letter_4 → vp_in (x2_13 + ((1 : Int32))) 90 ∧ ∀ md_forms_15 : Nat → Int32, md_forms_15 = upd md_forms_14 (x2_13 + ((1 : Int32))).toNatClampNeg md_first_5 → vp_in (x2_13 + ((2 : Int32))) 90 ∧ ∀ md_forms_16 : Nat → Int32, md_forms_16 = upd md_forms_15 (x2_13 + ((2 : Int32))).toNatClampNeg md_second_6 → vp_in (x2_13 + ((3 : Int32))) 90 ∧ ∀ md_forms_17 : Nat → Int32, md_forms_17 = upd md_forms_16 (x2_13 + ((3 : Int32))).toNatClampNeg md_third_7 → vp_in (x2_13 + ((4 : Int32))) 90 ∧ ∀ md_forms_18 : Nat → Int32, md_forms_18 = upd md_forms_17 (x2_13 + ((4 : Int32))).toNatClampNeg md_side_8 → vp_in (x2_13 + ((5 : Int32))) 90 ∧ ∀ md_forms_19 : Nat → Int32, md_forms_19 = upd md_forms_18 (x2_13 + ((5 : Int32))).toNatClampNeg md_hang_9 → vp_in p0 5 ∧ (vp_in p0 5 ∧ ∀ md_formMany_20 : Nat → Int32, md_formMany_20 = upd md_formMany p0.toNatClampNeg ((md_formMany p0.toNatClampNeg) + ((1 : Int32))) → vp_in p0 5 ∧ (post (md_formMany_20 p0.toNatClampNeg) ((0 : Int32)) md_place_3 md_letter_4 md_first_5 md_second_6 md_third_7 md_side_8 md_hang_9 md_forms_19 md_formMany_20)))) ∧ ((md_formMany p0.toNatClampNeg) = ((3 : Int32)) → post ((-4 : Int32)) ((0 : Int32)) md_place_3 md_letter_4 md_first_5 md_second_6 md_third_7 md_side_8 md_hang_9 md_forms md_formMany))) ∧ (¬ r_10 = ((-9 : Int32)) → post ((-3 : Int32)) ((0 : Int32)) md_place_3 md_letter_4 md_first_5 md_second_6 md_third_7 md_side_8 md_hang_9 md_forms md_formMany))) ∧ (¬ r_1 = 0 → post ((-1 : Int32)) ((0 : Int32)) md_place md_letter md_first md_second md_third md_side md_hang md_forms md_formMany))
set_option maxHeartbeats 4000000 in
set_option maxRecDepth 100000 in
theorem c_X8_form (l : Launch) (D : va_G) (cI cZ : ClassId) (md : Nat → Nat) (md_thrown : Int32) (md_text : Nat → Int32) (md_textSize : Int32) (md_place : Int32) (md_letter : Int32) (md_first : Int32) (md_second : Int32) (md_third : Int32) (md_side : Int32) (md_hang : Int32) (md_forms : Nat → Int32) (md_formMany : Nat → Int32) (md_seats : Nat → Int32) (md_now : Int32) (md_barAlways : Int32) (md_noPut : Int32) (md_far : Nat → Int32) (md_queue : Nat → Int32) (md_from : Nat → Int32) (md_by : Nat → Int32) (md_many : Int32) (md_is : Nat → Int32) (md_next : Nat → Int32) (md_rollSet : Nat → Int32) (md_rollAct : Nat → Int32) (md_rolls : Int32) (md_slots : Nat → Int32) (md_isKept : Nat → Int32) (p0 : Int32) (post : Int32 → Int32 → Int32 → Int32 → Int32 → Int32 → Int32 → Int32 → Int32 → (Nat → Int32) → (Nat → Int32) → Prop) (hm : wp_X8_form md_thrown md_text md_textSize md_place md_letter md_first md_second md_third md_side md_hang md_forms md_formMany p0 post) : Mi l D cI cZ yX8_form cX8_form 3 .int 5 113 [.ref (md 0), .int p0] (W_md cI cZ md md_thrown md_text md_textSize md_place md_letter md_first md_second md_third md_side md_hang md_forms md_formMany md_seats md_now md_barAlways md_noPut md_far md_queue md_from md_by md_many md_is md_next md_rollSet md_rollAct md_rolls md_slots md_isKept) (S := Int32 × Int32 × Int32 × Int32 × Int32 × Int32 × Int32 × Int32 × (Nat → Int32) × (Nat → Int32)) (fun u => W_md cI cZ md (u.1) md_text md_textSize (u.2.1) (u.2.2.1) (u.2.2.2.1) (u.2.2.2.2.1) (u.2.2.2.2.2.1) (u.2.2.2.2.2.2.1) (u.2.2.2.2.2.2.2.1) (u.2.2.2.2.2.2.2.2.1) (u.2.2.2.2.2.2.2.2.2) md_seats md_now md_barAlways md_noPut md_far md_queue md_from md_by md_many md_is md_next md_rollSet md_rollAct md_rolls md_slots md_isKept) (fun r u => post r u.1 u.2.1 u.2.2.1 u.2.2.2.1 u.2.2.2.2.1 u.2.2.2.2.2.1 u.2.2.2.2.2.2.1 u.2.2.2.2.2.2.2.1 u.2.2.2.2.2.2.2.2.1 u.2.2.2.2.2.2.2.2.2) := by
  refine mk_Mi (by decide +kernel) (Nat.le_of_ble_eq_true rfl) ?_
  intro Γ hl0 hD0 hC hR
  subst hl0
  subst hD0
  have hC : CX Γ cI cZ cX8_form RX8 3 5 113 := hC
  show VV Γ (W_md cI cZ md md_thrown md_text md_textSize md_place md_letter md_first md_second md_third md_side md_hang md_forms md_formMany md_seats md_now md_barAlways md_noPut md_far md_queue md_from md_by md_many md_is md_next md_rollSet md_rollAct md_rolls md_slots md_isKept) [(0, .ref (md 0)), (1, .int p0)] 0 []
  unfold wp_X8_form at hm
  refine x_aload_n hC 0 dX8_form_0 rfl ?_
  refine x_iconst hC (0 : Int32) dX8_form_1 (by decide) ?_
  refine x_put hC 5 tyX8_ok nmX8 inX8g 0 rfl rfl 0 (by decide) fl_X8_60 rfl (ty := .int) (by decide +kernel) rfl rfl (Nat.le_of_ble_eq_true rfl) (W_md cI cZ md ((0 : Int32)) md_text md_textSize md_place md_letter md_first md_second md_third md_side md_hang md_forms md_formMany md_seats md_now md_barAlways md_noPut md_far md_queue md_from md_by md_many md_is md_next md_rollSet md_rollAct md_rolls md_slots md_isKept) rfl dX8_form_2 ?_
  refine x_iload_n hC 1 dX8_form_5 rfl ?_
  refine x_callSi hC _ [] [0, 1, 2, 3, 4, 5, 6, 7, 8, 9, 10, 11, 12, 13, 14] [0, 1, 2, 3, 4, 5, 6, 7, 8, 9, 10, 11, 12, 13, 14] (W_md cI cZ md ((0 : Int32)) md_text md_textSize md_place md_letter md_first md_second md_third md_side md_hang md_forms md_formMany md_seats md_now md_barAlways md_noPut md_far md_queue md_from md_by md_many md_is md_next md_rollSet md_rollAct md_rolls md_slots md_isKept) (fun _ => W_md cI cZ md ((0 : Int32)) md_text md_textSize md_place md_letter md_first md_second md_third md_side md_hang md_forms md_formMany md_seats md_now md_barAlways md_noPut md_far md_queue md_from md_by md_many md_is md_next md_rollSet md_rollAct md_rolls md_slots md_isKept) ok_X8_noClause ml_X8_137 (c_X8_noClause (gl Γ) (gD Γ) cI cZ   p0 _ hm) (by decide) (by decide) rfl (Nat.le_of_ble_eq_true rfl) rfl rfl rfl rfl (by decide) rfl (fun _ => rfl) rfl dX8_form_6 ?_
  rintro r_1 _ hm
  refine x_if_eq hC 14 dX8_form_9 (by decide) (fun c_2 => ?_) (fun c_2 => ?_)
  · replace hm := hm.1 c_2
    refine x_aload_n hC 0 dX8_form_14 rfl ?_
    refine x_callVi hC _ [0, 1, 2, 3, 4, 5, 6, 7, 8, 9, 10, 11, 12, 13, 14] [] [0, 1, 2, 3, 4, 5, 6, 7, 8, 9, 10, 11, 12, 13, 14] (([] : va_W)) (fun u => W_md cI cZ md ((0 : Int32)) md_text md_textSize (u.1) (u.2.1) (u.2.2.1) (u.2.2.2.1) (u.2.2.2.2.1) (u.2.2.2.2.2.1) (u.2.2.2.2.2.2) md_forms md_formMany md_seats md_now md_barAlways md_noPut md_far md_queue md_from md_by md_many md_is md_next md_rollSet md_rollAct md_rolls md_slots md_isKept) ok_X8_read ml_X8_134 0 5 (c_X8_read (gl Γ) (gD Γ) cI cZ md ((0 : Int32)) md_text md_textSize md_place md_letter md_first md_second md_third md_side md_hang md_forms md_formMany md_seats md_now md_barAlways md_noPut md_far md_queue md_from md_by md_many md_is md_next md_rollSet md_rollAct md_rolls md_slots md_isKept  _ hm) (by decide) (by decide) rfl (Nat.le_of_ble_eq_true rfl) rfl rfl rfl rfl (by decide) rfl (fun _ => rfl) rfl rfl rfl rfl dX8_form_15 ?_
    rintro r_10 ⟨md_place_3, md_letter_4, md_first_5, md_second_6, md_third_7, md_side_8, md_hang_9⟩ hm
    refine x_bipush hC (-9 : Int32) dX8_form_18 (by decide) ?_
    refine x_icmp_eq hC 26 dX8_form_20 (by decide) (fun c_11 => ?_) (fun c_11 => ?_)
    · replace hm := hm.1 c_11
      refine x_aload_n hC 0 dX8_form_26 rfl ?_
      refine x_get hC 5 inX8g 0 rfl rfl 11 (by decide) fl_X8_16 rfl dX8_form_27 ?_
      refine x_iload_n hC 1 dX8_form_30 rfl ?_
      refine x_iald hC 3 rfl hm.1 dX8_form_31 ?_
      replace hm := hm.2
      refine x_iconst hC (3 : Int32) dX8_form_32 (by decide) ?_
      refine x_icmp_ne hC 39 dX8_form_33 (by decide) (fun c_12 => ?_) (fun c_12 => ?_)
      · replace hm := hm.1 c_12
        refine x_bipush hC (18 : Int32) dX8_form_39 (by decide) ?_
        refine x_iload_n hC 1 dX8_form_41 rfl ?_
        refine x_imul hC dX8_form_42 ?_
        refine x_bipush hC (6 : Int32) dX8_form_43 (by decide) ?_
        refine x_aload_n hC 0 dX8_form_45 rfl ?_
        refine x_get hC 5 inX8g 0 rfl rfl 11 (by decide) fl_X8_16 rfl dX8_form_46 ?_
        refine x_iload_n hC 1 dX8_form_49 rfl ?_
        refine x_iald hC 3 rfl hm.1 dX8_form_50 ?_
        replace hm := hm.2
        refine x_imul hC dX8_form_51 ?_
        refine x_iadd hC dX8_form_52 ?_
        refine x_top (fun x2_13 ex2_13 => ?_)
        replace hm := hm x2_13 ex2_13
        refine x_istore_n hC [(0, .ref (md 0)), (1, .int p0), (2, .int x2_13)] [1, 2, 0] dX8_form_53 (by decide) rfl ?_
        refine x_aload_n hC 0 dX8_form_54 rfl ?_
        refine x_get hC 5 inX8g 0 rfl rfl 10 (by decide) fl_X8_13 rfl dX8_form_55 ?_
        refine x_iload_n hC 2 dX8_form_58 rfl ?_
        refine x_aload_n hC 0 dX8_form_59 rfl ?_
        refine x_get hC 5 inX8g 0 rfl rfl 4 (by decide) fl_X8_101 rfl dX8_form_60 ?_
        refine x_iastN hC 2 rfl hm.1 (fun md_forms_14 => W_md cI cZ md ((0 : Int32)) md_text md_textSize md_place_3 md_letter_4 md_first_5 md_second_6 md_third_7 md_side_8 md_hang_9 md_forms_14 md_formMany md_seats md_now md_barAlways md_noPut md_far md_queue md_from md_by md_many md_is md_next md_rollSet md_rollAct md_rolls md_slots md_isKept) (fun _ => rfl) dX8_form_63 (fun md_forms_14 emd_forms_14 => ?_)
        replace hm := hm.2 md_forms_14 emd_forms_14
        refine x_aload_n hC 0 dX8_form_64 rfl ?_
        refine x_get hC 5 inX8g 0 rfl rfl 10 (by decide) fl_X8_13 rfl dX8_form_65 ?_
        refine x_iload_n hC 2 dX8_form_68 rfl ?_
        refine x_iconst hC (1 : Int32) dX8_form_69 (by decide) ?_
        refine x_iadd hC dX8_form_70 ?_
        refine x_aload_n hC 0 dX8_form_71 rfl ?_
        refine x_get hC 5 inX8g 0 rfl rfl 5 (by decide) fl_X8_104 rfl dX8_form_72 ?_
        refine x_iastN hC 2 rfl hm.1 (fun md_forms_15 => W_md cI cZ md ((0 : Int32)) md_text md_textSize md_place_3 md_letter_4 md_first_5 md_second_6 md_third_7 md_side_8 md_hang_9 md_forms_15 md_formMany md_seats md_now md_barAlways md_noPut md_far md_queue md_from md_by md_many md_is md_next md_rollSet md_rollAct md_rolls md_slots md_isKept) (fun _ => rfl) dX8_form_75 (fun md_forms_15 emd_forms_15 => ?_)
        replace hm := hm.2 md_forms_15 emd_forms_15
        refine x_aload_n hC 0 dX8_form_76 rfl ?_
        refine x_get hC 5 inX8g 0 rfl rfl 10 (by decide) fl_X8_13 rfl dX8_form_77 ?_
        refine x_iload_n hC 2 dX8_form_80 rfl ?_
        refine x_iconst hC (2 : Int32) dX8_form_81 (by decide) ?_
        refine x_iadd hC dX8_form_82 ?_
        refine x_aload_n hC 0 dX8_form_83 rfl ?_
        refine x_get hC 5 inX8g 0 rfl rfl 6 (by decide) fl_X8_107 rfl dX8_form_84 ?_
        refine x_iastN hC 2 rfl hm.1 (fun md_forms_16 => W_md cI cZ md ((0 : Int32)) md_text md_textSize md_place_3 md_letter_4 md_first_5 md_second_6 md_third_7 md_side_8 md_hang_9 md_forms_16 md_formMany md_seats md_now md_barAlways md_noPut md_far md_queue md_from md_by md_many md_is md_next md_rollSet md_rollAct md_rolls md_slots md_isKept) (fun _ => rfl) dX8_form_87 (fun md_forms_16 emd_forms_16 => ?_)
        replace hm := hm.2 md_forms_16 emd_forms_16
        refine x_aload_n hC 0 dX8_form_88 rfl ?_
        refine x_get hC 5 inX8g 0 rfl rfl 10 (by decide) fl_X8_13 rfl dX8_form_89 ?_
        refine x_iload_n hC 2 dX8_form_92 rfl ?_
        refine x_iconst hC (3 : Int32) dX8_form_93 (by decide) ?_
        refine x_iadd hC dX8_form_94 ?_
        refine x_aload_n hC 0 dX8_form_95 rfl ?_
        refine x_get hC 5 inX8g 0 rfl rfl 7 (by decide) fl_X8_110 rfl dX8_form_96 ?_
        refine x_iastN hC 2 rfl hm.1 (fun md_forms_17 => W_md cI cZ md ((0 : Int32)) md_text md_textSize md_place_3 md_letter_4 md_first_5 md_second_6 md_third_7 md_side_8 md_hang_9 md_forms_17 md_formMany md_seats md_now md_barAlways md_noPut md_far md_queue md_from md_by md_many md_is md_next md_rollSet md_rollAct md_rolls md_slots md_isKept) (fun _ => rfl) dX8_form_99 (fun md_forms_17 emd_forms_17 => ?_)
        replace hm := hm.2 md_forms_17 emd_forms_17
        refine x_aload_n hC 0 dX8_form_100 rfl ?_
        refine x_get hC 5 inX8g 0 rfl rfl 10 (by decide) fl_X8_13 rfl dX8_form_101 ?_
        refine x_iload_n hC 2 dX8_form_104 rfl ?_
        refine x_iconst hC (4 : Int32) dX8_form_105 (by decide) ?_
        refine x_iadd hC dX8_form_106 ?_
        refine x_aload_n hC 0 dX8_form_107 rfl ?_
        refine x_get hC 5 inX8g 0 rfl rfl 8 (by decide) fl_X8_113 rfl dX8_form_108 ?_
        refine x_iastN hC 2 rfl hm.1 (fun md_forms_18 => W_md cI cZ md ((0 : Int32)) md_text md_textSize md_place_3 md_letter_4 md_first_5 md_second_6 md_third_7 md_side_8 md_hang_9 md_forms_18 md_formMany md_seats md_now md_barAlways md_noPut md_far md_queue md_from md_by md_many md_is md_next md_rollSet md_rollAct md_rolls md_slots md_isKept) (fun _ => rfl) dX8_form_111 (fun md_forms_18 emd_forms_18 => ?_)
        replace hm := hm.2 md_forms_18 emd_forms_18
        refine x_aload_n hC 0 dX8_form_112 rfl ?_
        refine x_get hC 5 inX8g 0 rfl rfl 10 (by decide) fl_X8_13 rfl dX8_form_113 ?_
        refine x_iload_n hC 2 dX8_form_116 rfl ?_
        refine x_iconst hC (5 : Int32) dX8_form_117 (by decide) ?_
        refine x_iadd hC dX8_form_118 ?_
        refine x_aload_n hC 0 dX8_form_119 rfl ?_
        refine x_get hC 5 inX8g 0 rfl rfl 9 (by decide) fl_X8_116 rfl dX8_form_120 ?_
        refine x_iastN hC 2 rfl hm.1 (fun md_forms_19 => W_md cI cZ md ((0 : Int32)) md_text md_textSize md_place_3 md_letter_4 md_first_5 md_second_6 md_third_7 md_side_8 md_hang_9 md_forms_19 md_formMany md_seats md_now md_barAlways md_noPut md_far md_queue md_from md_by md_many md_is md_next md_rollSet md_rollAct md_rolls md_slots md_isKept) (fun _ => rfl) dX8_form_123 (fun md_forms_19 emd_forms_19 => ?_)
        replace hm := hm.2 md_forms_19 emd_forms_19
        refine x_aload_n hC 0 dX8_form_124 rfl ?_
        refine x_get hC 5 inX8g 0 rfl rfl 11 (by decide) fl_X8_16 rfl dX8_form_125 ?_
        refine x_iload_n hC 1 dX8_form_128 rfl ?_
        refine x_dup2 hC dX8_form_129 rfl rfl ?_
        refine x_iald hC 3 rfl hm.1 dX8_form_130 ?_
        replace hm := hm.2
        refine x_iconst hC (1 : Int32) dX8_form_131 (by decide) ?_
        refine x_iadd hC dX8_form_132 ?_
        refine x_iastN hC 3 rfl hm.1 (fun md_formMany_20 => W_md cI cZ md ((0 : Int32)) md_text md_textSize md_place_3 md_letter_4 md_first_5 md_second_6 md_third_7 md_side_8 md_hang_9 md_forms_19 md_formMany_20 md_seats md_now md_barAlways md_noPut md_far md_queue md_from md_by md_many md_is md_next md_rollSet md_rollAct md_rolls md_slots md_isKept) (fun _ => rfl) dX8_form_133 (fun md_formMany_20 emd_formMany_20 => ?_)
        replace hm := hm.2 md_formMany_20 emd_formMany_20
        refine x_aload_n hC 0 dX8_form_134 rfl ?_
        refine x_get hC 5 inX8g 0 rfl rfl 11 (by decide) fl_X8_16 rfl dX8_form_135 ?_
        refine x_iload_n hC 1 dX8_form_138 rfl ?_
        refine x_iald hC 3 rfl hm.1 dX8_form_139 ?_
        replace hm := hm.2
        exact hR (md_formMany_20 p0.toNatClampNeg) ((0 : Int32), md_place_3, md_letter_4, md_first_5, md_second_6, md_third_7, md_side_8, md_hang_9, md_forms_19, md_formMany_20) [(0, .ref (md 0)), (1, .int p0), (2, .int x2_13)] 140 hm rfl dX8_form_140
      · replace hm := hm.2 c_12
        refine x_bipush hC (-4 : Int32) dX8_form_36 (by decide) ?_
        exact hR ((-4 : Int32)) ((0 : Int32), md_place_3, md_letter_4, md_first_5, md_second_6, md_third_7, md_side_8, md_hang_9, md_forms, md_formMany) [(0, .ref (md 0)), (1, .int p0)] 38 hm rfl dX8_form_38
    · replace hm := hm.2 c_11
      refine x_bipush hC (-3 : Int32) dX8_form_23 (by decide) ?_
      exact hR ((-3 : Int32)) ((0 : Int32), md_place_3, md_letter_4, md_first_5, md_second_6, md_third_7, md_side_8, md_hang_9, md_forms, md_formMany) [(0, .ref (md 0)), (1, .int p0)] 25 hm rfl dX8_form_25
  · replace hm := hm.2 c_2
    refine x_iconst hC (-1 : Int32) dX8_form_12 (by decide) ?_
    exact hR ((-1 : Int32)) ((0 : Int32), md_place, md_letter, md_first, md_second, md_third, md_side, md_hang, md_forms, md_formMany) [(0, .ref (md 0)), (1, .int p0)] 13 hm rfl dX8_form_13

def wp_X8_holds (md_forms : Nat → Int32) (md_formMany : Nat → Int32) (md_seats : Nat → Int32) (md_barAlways : Int32) (md_noPut : Int32) (md_far : Nat → Int32) (md_queue : Nat → Int32) (md_from : Nat → Int32) (md_by : Nat → Int32) (md_many : Int32) (p0 : Int32) (p1 : Int32) (p2 : Int32) (post : Int32 → (Nat → Int32) → (Nat → Int32) → (Nat → Int32) → (Nat → Int32) → Int32 → Prop) : Prop := wp_X8_wave md_forms md_formMany md_seats md_barAlways md_noPut md_far md_queue md_from md_by md_many p0 p1 p1 (fun (md_far_1 : Nat → Int32) (md_queue_2 : Nat → Int32) (md_from_3 : Nat → Int32) (md_by_4 : Nat → Int32) (md_many_5 : Int32) => wp_X8_soMany md_queue_2 md_many_5 p2 (fun (r_6 : Int32) => (¬ r_6 = md_many_5 → post ((0 : Int32)) md_far_1 md_queue_2 md_from_3 md_by_4 md_many_5) ∧ (r_6 = md_many_5 → post ((1 : Int32)) md_far_1 md_queue_2 md_from_3 md_by_4 md_many_5)))
set_option maxHeartbeats 4000000 in
set_option maxRecDepth 100000 in
theorem c_X8_holds (l : Launch) (D : va_G) (cI cZ : ClassId) (md : Nat → Nat) (md_thrown : Int32) (md_text : Nat → Int32) (md_textSize : Int32) (md_place : Int32) (md_letter : Int32) (md_first : Int32) (md_second : Int32) (md_third : Int32) (md_side : Int32) (md_hang : Int32) (md_forms : Nat → Int32) (md_formMany : Nat → Int32) (md_seats : Nat → Int32) (md_now : Int32) (md_barAlways : Int32) (md_noPut : Int32) (md_far : Nat → Int32) (md_queue : Nat → Int32) (md_from : Nat → Int32) (md_by : Nat → Int32) (md_many : Int32) (md_is : Nat → Int32) (md_next : Nat → Int32) (md_rollSet : Nat → Int32) (md_rollAct : Nat → Int32) (md_rolls : Int32) (md_slots : Nat → Int32) (md_isKept : Nat → Int32) (p0 : Int32) (p1 : Int32) (p2 : Int32) (post : Int32 → (Nat → Int32) → (Nat → Int32) → (Nat → Int32) → (Nat → Int32) → Int32 → Prop) (hm : wp_X8_holds md_forms md_formMany md_seats md_barAlways md_noPut md_far md_queue md_from md_by md_many p0 p1 p2 post) : Mi l D cI cZ yX8_holds cX8_holds 4 .boolean 6 148 [.ref (md 0), .int p0, .int p1, .int p2] (W_md cI cZ md md_thrown md_text md_textSize md_place md_letter md_first md_second md_third md_side md_hang md_forms md_formMany md_seats md_now md_barAlways md_noPut md_far md_queue md_from md_by md_many md_is md_next md_rollSet md_rollAct md_rolls md_slots md_isKept) (S := (Nat → Int32) × (Nat → Int32) × (Nat → Int32) × (Nat → Int32) × Int32) (fun u => W_md cI cZ md md_thrown md_text md_textSize md_place md_letter md_first md_second md_third md_side md_hang md_forms md_formMany md_seats md_now md_barAlways md_noPut (u.1) (u.2.1) (u.2.2.1) (u.2.2.2.1) (u.2.2.2.2) md_is md_next md_rollSet md_rollAct md_rolls md_slots md_isKept) (fun r u => post r u.1 u.2.1 u.2.2.1 u.2.2.2.1 u.2.2.2.2) := by
  refine mk_Mi (by decide +kernel) (Nat.le_of_ble_eq_true rfl) ?_
  intro Γ hl0 hD0 hC hR
  subst hl0
  subst hD0
  have hC : CX Γ cI cZ cX8_holds RX8 4 6 148 := hC
  show VV Γ (W_md cI cZ md md_thrown md_text md_textSize md_place md_letter md_first md_second md_third md_side md_hang md_forms md_formMany md_seats md_now md_barAlways md_noPut md_far md_queue md_from md_by md_many md_is md_next md_rollSet md_rollAct md_rolls md_slots md_isKept) [(0, .ref (md 0)), (1, .int p0), (2, .int p1), (3, .int p2)] 0 []
  unfold wp_X8_holds at hm
  refine x_aload_n hC 0 dX8_holds_0 rfl ?_
  refine x_iload_n hC 1 dX8_holds_1 rfl ?_
  refine x_iload_n hC 2 dX8_holds_2 rfl ?_
  refine x_iload_n hC 2 dX8_holds_3 rfl ?_
  refine x_callVv hC _ [0, 1, 2, 3, 4, 5, 6, 7, 8, 9, 10, 11, 12, 13, 14] [] [0, 1, 2, 3, 4, 5, 6, 7, 8, 9, 10, 11, 12, 13, 14] (([] : va_W)) (fun u => W_md cI cZ md md_thrown md_text md_textSize md_place md_letter md_first md_second md_third md_side md_hang md_forms md_formMany md_seats md_now md_barAlways md_noPut (u.1) (u.2.1) (u.2.2.1) (u.2.2.2.1) (u.2.2.2.2) md_is md_next md_rollSet md_rollAct md_rolls md_slots md_isKept) ok_X8_wave ml_X8_198 0 5 (c_X8_wave (gl Γ) (gD Γ) cI cZ md md_thrown md_text md_textSize md_place md_letter md_first md_second md_third md_side md_hang md_forms md_formMany md_seats md_now md_barAlways md_noPut md_far md_queue md_from md_by md_many md_is md_next md_rollSet md_rollAct md_rolls md_slots md_isKept p0 p1 p1 _ hm) (by decide) (by decide) rfl (Nat.le_of_ble_eq_true rfl) rfl rfl rfl rfl (by decide) rfl (fun _ => rfl) rfl rfl rfl rfl dX8_holds_4 ?_
  rintro ⟨md_far_1, md_queue_2, md_from_3, md_by_4, md_many_5⟩ hm
  refine x_aload_n hC 0 dX8_holds_7 rfl ?_
  refine x_iload_n hC 3 dX8_holds_8 rfl ?_
  refine x_callVi hC _ [0, 1, 2, 3, 4, 5, 6, 7, 8, 9, 10, 11, 12, 13, 14] [] [0, 1, 2, 3, 4, 5, 6, 7, 8, 9, 10, 11, 12, 13, 14] (([] : va_W)) (fun _ => W_md cI cZ md md_thrown md_text md_textSize md_place md_letter md_first md_second md_third md_side md_hang md_forms md_formMany md_seats md_now md_barAlways md_noPut md_far_1 md_queue_2 md_from_3 md_by_4 md_many_5 md_is md_next md_rollSet md_rollAct md_rolls md_slots md_isKept) ok_X8_soMany ml_X8_202 0 5 (c_X8_soMany (gl Γ) (gD Γ) cI cZ md md_thrown md_text md_textSize md_place md_letter md_first md_second md_third md_side md_hang md_forms md_formMany md_seats md_now md_barAlways md_noPut md_far_1 md_queue_2 md_from_3 md_by_4 md_many_5 md_is md_next md_rollSet md_rollAct md_rolls md_slots md_isKept p2 _ hm) (by decide) (by decide) rfl (Nat.le_of_ble_eq_true rfl) rfl rfl rfl rfl (by decide) rfl (fun _ => rfl) rfl rfl rfl rfl dX8_holds_9 ?_
  rintro r_6 _ hm
  refine x_aload_n hC 0 dX8_holds_12 rfl ?_
  refine x_get hC 5 inX8g 0 rfl rfl 20 (by decide) fl_X8_195 rfl dX8_holds_13 ?_
  refine x_icmp_ne hC 23 dX8_holds_16 (by decide) (fun c_7 => ?_) (fun c_7 => ?_)
  · replace hm := hm.1 c_7
    refine x_iconst hC (0 : Int32) dX8_holds_23 (by decide) ?_
    exact hR ((0 : Int32)) (md_far_1, md_queue_2, md_from_3, md_by_4, md_many_5) [(0, .ref (md 0)), (1, .int p0), (2, .int p1), (3, .int p2)] 24 hm rfl dX8_holds_24
  · replace hm := hm.2 c_7
    refine x_iconst hC (1 : Int32) dX8_holds_19 (by decide) ?_
    refine x_goto hC 24 dX8_holds_20 (by decide) ?_
    exact hR ((1 : Int32)) (md_far_1, md_queue_2, md_from_3, md_by_4, md_many_5) [(0, .ref (md 0)), (1, .int p0), (2, .int p1), (3, .int p2)] 24 hm rfl dX8_holds_24

def wpL_X8_hangs_43 (md_forms : Nat → Int32) (md_formMany : Nat → Int32) (md_seats : Nat → Int32) (md_now : Int32) (md_barAlways : Int32) (md_noPut : Int32)  (post : Int32 → Int32 → (Nat → Int32) → (Nat → Int32) → (Nat → Int32) → (Nat → Int32) → Int32 → Prop) : Nat → Int32 → (Nat → Int32) → (Nat → Int32) → (Nat → Int32) → (Nat → Int32) → Int32 → Int32 → Int32 → Int32 → Int32 → Prop
  | 0, _, _, _, _, _, _, _, _, _, _ => False
  | n + 1, md_thrown_12, md_far_13, md_queue_14, md_from_15, md_by_16, md_many_17, x1_18, x2_19, x3_20, x4_21 => (((5 : Int32)) ≤ x4_21 → post x3_20 md_thrown_12 md_far_13 md_queue_14 md_from_15 md_by_16 md_many_17) ∧ (¬ ((5 : Int32)) ≤ x4_21 → wp_X8_formOf  md_now x4_21 (fun (r_23 : Int32) => (r_23 ≤ 0 → ∀ x4_25 : Int32, x4_25 = x4_21 + (1 : Int32) → (wpL_X8_hangs_43 md_forms md_formMany md_seats md_now md_barAlways md_noPut  post n) md_thrown_12 md_far_13 md_queue_14 md_from_15 md_by_16 md_many_17 x1_18 x2_19 x3_20 x4_25) ∧ (¬ r_23 ≤ 0 → wp_X8_put  md_now x4_21 ((0 : Int32)) (fun (r_26 : Int32) => wp_X8_holds md_forms md_formMany md_seats md_barAlways md_noPut md_far_13 md_queue_14 md_from_15 md_by_16 md_many_17 r_26 x1_18 x2_19 (fun (r_32 : Int32) (md_far_27 : Nat → Int32) (md_queue_28 : Nat → Int32) (md_from_29 : Nat → Int32) (md_by_30 : Nat → Int32) (md_many_31 : Int32) => (¬ r_32 = 0 → ∀ x4_34 : Int32, x4_34 = x4_21 + (1 : Int32) → (wpL_X8_hangs_43 md_forms md_formMany md_seats md_now md_barAlways md_noPut  post n) md_thrown_12 md_far_27 md_queue_28 md_from_29 md_by_30 md_many_31 x1_18 x2_19 x3_20 x4_34) ∧ (r_32 = 0 → ∀ x3_35 : Int32, x3_35 = x3_20 ||| (((1 : Int32)) <<< (x4_21 &&& 31)) → ∀ x4_36 : Int32, x4_36 = x4_21 + (1 : Int32) → (wpL_X8_hangs_43 md_forms md_formMany md_seats md_now md_barAlways md_noPut  post n) md_thrown_12 md_far_27 md_queue_28 md_from_29 md_by_30 md_many_31 x1_18 x2_19 x3_35 x4_36))))))
def wp_X8_hangs (md_thrown : Int32) (md_forms : Nat → Int32) (md_formMany : Nat → Int32) (md_seats : Nat → Int32) (md_now : Int32) (md_barAlways : Int32) (md_noPut : Int32) (md_far : Nat → Int32) (md_queue : Nat → Int32) (md_from : Nat → Int32) (md_by : Nat → Int32) (md_many : Int32) (p0 : Int32) (p1 : Int32) (post : Int32 → Int32 → (Nat → Int32) → (Nat → Int32) → (Nat → Int32) → (Nat → Int32) → Int32 → Prop) : Prop := wp_X8_noSet  p0 (fun (r_1 : Int32) => (¬ r_1 = 0 → post ((-2 : Int32)) ((0 : Int32)) md_far md_queue md_from md_by md_many) ∧ (r_1 = 0 → wp_X8_noGoal  p1 (fun (r_3 : Int32) => (r_3 = 0 → wp_X8_holds md_forms md_formMany md_seats md_barAlways md_noPut md_far md_queue md_from md_by md_many md_now p0 p1 (fun (r_10 : Int32) (md_far_5 : Nat → Int32) (md_queue_6 : Nat → Int32) (md_from_7 : Nat → Int32) (md_by_8 : Nat → Int32) (md_many_9 : Int32) => (¬ r_10 = 0 → ∃ k43, wpL_X8_hangs_43 md_forms md_formMany md_seats md_now md_barAlways md_noPut  post k43 ((0 : Int32)) md_far_5 md_queue_6 md_from_7 md_by_8 md_many_9 p0 p1 ((0 : Int32)) ((0 : Int32))) ∧ (r_10 = 0 → post ((-9 : Int32)) ((0 : Int32)) md_far_5 md_queue_6 md_from_7 md_by_8 md_many_9))) ∧ (¬ r_3 = 0 → post ((-2 : Int32)) ((0 : Int32)) md_far md_queue md_from md_by md_many))))
set_option maxHeartbeats 4000000 in
set_option maxRecDepth 100000 in
theorem c_X8_hangs (l : Launch) (D : va_G) (cI cZ : ClassId) (md : Nat → Nat) (md_thrown : Int32) (md_text : Nat → Int32) (md_textSize : Int32) (md_place : Int32) (md_letter : Int32) (md_first : Int32) (md_second : Int32) (md_third : Int32) (md_side : Int32) (md_hang : Int32) (md_forms : Nat → Int32) (md_formMany : Nat → Int32) (md_seats : Nat → Int32) (md_now : Int32) (md_barAlways : Int32) (md_noPut : Int32) (md_far : Nat → Int32) (md_queue : Nat → Int32) (md_from : Nat → Int32) (md_by : Nat → Int32) (md_many : Int32) (md_is : Nat → Int32) (md_next : Nat → Int32) (md_rollSet : Nat → Int32) (md_rollAct : Nat → Int32) (md_rolls : Int32) (md_slots : Nat → Int32) (md_isKept : Nat → Int32) (p0 : Int32) (p1 : Int32) (post : Int32 → Int32 → (Nat → Int32) → (Nat → Int32) → (Nat → Int32) → (Nat → Int32) → Int32 → Prop) (hm : wp_X8_hangs md_thrown md_forms md_formMany md_seats md_now md_barAlways md_noPut md_far md_queue md_from md_by md_many p0 p1 post) : Mi l D cI cZ yX8_hangs cX8_hangs 5 .int 7 171 [.ref (md 0), .int p0, .int p1] (W_md cI cZ md md_thrown md_text md_textSize md_place md_letter md_first md_second md_third md_side md_hang md_forms md_formMany md_seats md_now md_barAlways md_noPut md_far md_queue md_from md_by md_many md_is md_next md_rollSet md_rollAct md_rolls md_slots md_isKept) (S := Int32 × (Nat → Int32) × (Nat → Int32) × (Nat → Int32) × (Nat → Int32) × Int32) (fun u => W_md cI cZ md (u.1) md_text md_textSize md_place md_letter md_first md_second md_third md_side md_hang md_forms md_formMany md_seats md_now md_barAlways md_noPut (u.2.1) (u.2.2.1) (u.2.2.2.1) (u.2.2.2.2.1) (u.2.2.2.2.2) md_is md_next md_rollSet md_rollAct md_rolls md_slots md_isKept) (fun r u => post r u.1 u.2.1 u.2.2.1 u.2.2.2.1 u.2.2.2.2.1 u.2.2.2.2.2) := by
  refine mk_Mi (by decide +kernel) (Nat.le_of_ble_eq_true rfl) ?_
  intro Γ hl0 hD0 hC hR
  subst hl0
  subst hD0
  have hC : CX Γ cI cZ cX8_hangs RX8 5 7 171 := hC
  show VV Γ (W_md cI cZ md md_thrown md_text md_textSize md_place md_letter md_first md_second md_third md_side md_hang md_forms md_formMany md_seats md_now md_barAlways md_noPut md_far md_queue md_from md_by md_many md_is md_next md_rollSet md_rollAct md_rolls md_slots md_isKept) [(0, .ref (md 0)), (1, .int p0), (2, .int p1)] 0 []
  have B_43 : ∀ (n : Nat) (md_thrown_12 : Int32) (md_far_13 : Nat → Int32) (md_queue_14 : Nat → Int32) (md_from_15 : Nat → Int32) (md_by_16 : Nat → Int32) (md_many_17 : Int32) (x1_18 : Int32) (x2_19 : Int32) (x3_20 : Int32) (x4_21 : Int32), wpL_X8_hangs_43 md_forms md_formMany md_seats md_now md_barAlways md_noPut  post n md_thrown_12 md_far_13 md_queue_14 md_from_15 md_by_16 md_many_17 x1_18 x2_19 x3_20 x4_21 → VV Γ (W_md cI cZ md md_thrown_12 md_text md_textSize md_place md_letter md_first md_second md_third md_side md_hang md_forms md_formMany md_seats md_now md_barAlways md_noPut md_far_13 md_queue_14 md_from_15 md_by_16 md_many_17 md_is md_next md_rollSet md_rollAct md_rolls md_slots md_isKept) [(0, .ref (md 0)), (1, .int x1_18), (2, .int x2_19), (3, .int x3_20), (4, .int x4_21)] 43 [] := by
    intro  n
    induction n with
    | zero => intro md_thrown_12 md_far_13 md_queue_14 md_from_15 md_by_16 md_many_17 x1_18 x2_19 x3_20 x4_21 hm; rw [wpL_X8_hangs_43] at hm; exact hm.elim
    | succ n ih =>
      intro md_thrown_12 md_far_13 md_queue_14 md_from_15 md_by_16 md_many_17 x1_18 x2_19 x3_20 x4_21 hm
      rw [wpL_X8_hangs_43] at hm
      refine x_iload hC 4 dX8_hangs_43 rfl ?_
      refine x_iconst hC (5 : Int32) dX8_hangs_45 (by decide) ?_
      refine x_icmp_ge hC 93 dX8_hangs_46 (by decide) (fun c_22 => ?_) (fun c_22 => ?_)
      · replace hm := hm.1 c_22
        refine x_iload_n hC 3 dX8_hangs_93 rfl ?_
        exact hR x3_20 (md_thrown_12, md_far_13, md_queue_14, md_from_15, md_by_16, md_many_17) [(0, .ref (md 0)), (1, .int x1_18), (2, .int x2_19), (3, .int x3_20), (4, .int x4_21)] 94 hm rfl dX8_hangs_94
      · replace hm := hm.2 c_22
        refine x_aload_n hC 0 dX8_hangs_49 rfl ?_
        refine x_get hC 5 inX8g 0 rfl rfl 13 (by decide) fl_X8_140 rfl dX8_hangs_50 ?_
        refine x_iload hC 4 dX8_hangs_53 rfl ?_
        refine x_callSi hC _ [] [0, 1, 2, 3, 4, 5, 6, 7, 8, 9, 10, 11, 12, 13, 14] [0, 1, 2, 3, 4, 5, 6, 7, 8, 9, 10, 11, 12, 13, 14] (W_md cI cZ md md_thrown_12 md_text md_textSize md_place md_letter md_first md_second md_third md_side md_hang md_forms md_formMany md_seats md_now md_barAlways md_noPut md_far_13 md_queue_14 md_from_15 md_by_16 md_many_17 md_is md_next md_rollSet md_rollAct md_rolls md_slots md_isKept) (fun _ => W_md cI cZ md md_thrown_12 md_text md_textSize md_place md_letter md_first md_second md_third md_side md_hang md_forms md_formMany md_seats md_now md_barAlways md_noPut md_far_13 md_queue_14 md_from_15 md_by_16 md_many_17 md_is md_next md_rollSet md_rollAct md_rolls md_slots md_isKept) ok_X8_formOf ml_X8_155 (c_X8_formOf (gl Γ) (gD Γ) cI cZ   md_now x4_21 _ hm) (by decide) (by decide) rfl (Nat.le_of_ble_eq_true rfl) rfl rfl rfl rfl (by decide) rfl (fun _ => rfl) rfl dX8_hangs_55 ?_
        rintro r_23 _ hm
        refine x_if_le hC 87 dX8_hangs_58 (by decide) (fun c_24 => ?_) (fun c_24 => ?_)
        · replace hm := hm.1 c_24
          obtain ⟨x4_25, ex4_25⟩ : ∃ y : Int32, y = x4_21 + (1 : Int32) := ⟨_, rfl⟩
          replace hm := hm x4_25 ex4_25
          refine x_iinc hC 4 x4_25 [(0, .ref (md 0)), (1, .int x1_18), (2, .int x2_19), (3, .int x3_20), (4, .int x4_25)] [1, 2, 3, 4, 0] dX8_hangs_87 rfl (by rw [ex4_25]; rfl) (by decide) rfl ?_
          refine x_goto hC 43 dX8_hangs_90 (by decide) ?_
          exact ih md_thrown_12 md_far_13 md_queue_14 md_from_15 md_by_16 md_many_17 x1_18 x2_19 x3_20 x4_25 hm
        · replace hm := hm.2 c_24
          refine x_aload_n hC 0 dX8_hangs_61 rfl ?_
          refine x_aload_n hC 0 dX8_hangs_62 rfl ?_
          refine x_get hC 5 inX8g 0 rfl rfl 13 (by decide) fl_X8_140 rfl dX8_hangs_63 ?_
          refine x_iload hC 4 dX8_hangs_66 rfl ?_
          refine x_iconst hC (0 : Int32) dX8_hangs_68 (by decide) ?_
          refine x_callSi hC _ [] [0, 1, 2, 3, 4, 5, 6, 7, 8, 9, 10, 11, 12, 13, 14] [0, 1, 2, 3, 4, 5, 6, 7, 8, 9, 10, 11, 12, 13, 14] (W_md cI cZ md md_thrown_12 md_text md_textSize md_place md_letter md_first md_second md_third md_side md_hang md_forms md_formMany md_seats md_now md_barAlways md_noPut md_far_13 md_queue_14 md_from_15 md_by_16 md_many_17 md_is md_next md_rollSet md_rollAct md_rolls md_slots md_isKept) (fun _ => W_md cI cZ md md_thrown_12 md_text md_textSize md_place md_letter md_first md_second md_third md_side md_hang md_forms md_formMany md_seats md_now md_barAlways md_noPut md_far_13 md_queue_14 md_from_15 md_by_16 md_many_17 md_is md_next md_rollSet md_rollAct md_rolls md_slots md_isKept) ok_X8_put ml_X8_143 (c_X8_put (gl Γ) (gD Γ) cI cZ   md_now x4_21 ((0 : Int32)) _ hm) (by decide) (by decide) rfl (Nat.le_of_ble_eq_true rfl) rfl rfl rfl rfl (by decide) rfl (fun _ => rfl) rfl dX8_hangs_69 ?_
          rintro r_26 _ hm
          refine x_iload_n hC 1 dX8_hangs_72 rfl ?_
          refine x_iload_n hC 2 dX8_hangs_73 rfl ?_
          refine x_callVi hC _ [0, 1, 2, 3, 4, 5, 6, 7, 8, 9, 10, 11, 12, 13, 14] [] [0, 1, 2, 3, 4, 5, 6, 7, 8, 9, 10, 11, 12, 13, 14] (([] : va_W)) (fun u => W_md cI cZ md md_thrown_12 md_text md_textSize md_place md_letter md_first md_second md_third md_side md_hang md_forms md_formMany md_seats md_now md_barAlways md_noPut (u.1) (u.2.1) (u.2.2.1) (u.2.2.2.1) (u.2.2.2.2) md_is md_next md_rollSet md_rollAct md_rolls md_slots md_isKept) ok_X8_holds ml_X8_213 0 5 (c_X8_holds (gl Γ) (gD Γ) cI cZ md md_thrown_12 md_text md_textSize md_place md_letter md_first md_second md_third md_side md_hang md_forms md_formMany md_seats md_now md_barAlways md_noPut md_far_13 md_queue_14 md_from_15 md_by_16 md_many_17 md_is md_next md_rollSet md_rollAct md_rolls md_slots md_isKept r_26 x1_18 x2_19 _ hm) (by decide) (by decide) rfl (Nat.le_of_ble_eq_true rfl) rfl rfl rfl rfl (by decide) rfl (fun _ => rfl) rfl rfl rfl rfl dX8_hangs_74 ?_
          rintro r_32 ⟨md_far_27, md_queue_28, md_from_29, md_by_30, md_many_31⟩ hm
          refine x_if_ne hC 87 dX8_hangs_77 (by decide) (fun c_33 => ?_) (fun c_33 => ?_)
          · replace hm := hm.1 c_33
            obtain ⟨x4_34, ex4_34⟩ : ∃ y : Int32, y = x4_21 + (1 : Int32) := ⟨_, rfl⟩
            replace hm := hm x4_34 ex4_34
            refine x_iinc hC 4 x4_34 [(0, .ref (md 0)), (1, .int x1_18), (2, .int x2_19), (3, .int x3_20), (4, .int x4_34)] [1, 2, 3, 4, 0] dX8_hangs_87 rfl (by rw [ex4_34]; rfl) (by decide) rfl ?_
            refine x_goto hC 43 dX8_hangs_90 (by decide) ?_
            exact ih md_thrown_12 md_far_27 md_queue_28 md_from_29 md_by_30 md_many_31 x1_18 x2_19 x3_20 x4_34 hm
          · replace hm := hm.2 c_33
            refine x_iload_n hC 3 dX8_hangs_80 rfl ?_
            refine x_iconst hC (1 : Int32) dX8_hangs_81 (by decide) ?_
            refine x_iload hC 4 dX8_hangs_82 rfl ?_
            refine x_ishl hC dX8_hangs_84 ?_
            refine x_ior hC dX8_hangs_85 ?_
            refine x_top (fun x3_35 ex3_35 => ?_)
            replace hm := hm x3_35 ex3_35
            refine x_istore_n hC [(0, .ref (md 0)), (1, .int x1_18), (2, .int x2_19), (3, .int x3_35), (4, .int x4_21)] [1, 2, 3, 0, 4] dX8_hangs_86 (by decide) rfl ?_
            obtain ⟨x4_36, ex4_36⟩ : ∃ y : Int32, y = x4_21 + (1 : Int32) := ⟨_, rfl⟩
            replace hm := hm x4_36 ex4_36
            refine x_iinc hC 4 x4_36 [(0, .ref (md 0)), (1, .int x1_18), (2, .int x2_19), (3, .int x3_35), (4, .int x4_36)] [1, 2, 3, 4, 0] dX8_hangs_87 rfl (by rw [ex4_36]; rfl) (by decide) rfl ?_
            refine x_goto hC 43 dX8_hangs_90 (by decide) ?_
            exact ih md_thrown_12 md_far_27 md_queue_28 md_from_29 md_by_30 md_many_31 x1_18 x2_19 x3_35 x4_36 hm
  unfold wp_X8_hangs at hm
  refine x_aload_n hC 0 dX8_hangs_0 rfl ?_
  refine x_iconst hC (0 : Int32) dX8_hangs_1 (by decide) ?_
  refine x_put hC 5 tyX8_ok nmX8 inX8g 0 rfl rfl 0 (by decide) fl_X8_60 rfl (ty := .int) (by decide +kernel) rfl rfl (Nat.le_of_ble_eq_true rfl) (W_md cI cZ md ((0 : Int32)) md_text md_textSize md_place md_letter md_first md_second md_third md_side md_hang md_forms md_formMany md_seats md_now md_barAlways md_noPut md_far md_queue md_from md_by md_many md_is md_next md_rollSet md_rollAct md_rolls md_slots md_isKept) rfl dX8_hangs_2 ?_
  refine x_iload_n hC 1 dX8_hangs_5 rfl ?_
  refine x_callSi hC _ [] [0, 1, 2, 3, 4, 5, 6, 7, 8, 9, 10, 11, 12, 13, 14] [0, 1, 2, 3, 4, 5, 6, 7, 8, 9, 10, 11, 12, 13, 14] (W_md cI cZ md ((0 : Int32)) md_text md_textSize md_place md_letter md_first md_second md_third md_side md_hang md_forms md_formMany md_seats md_now md_barAlways md_noPut md_far md_queue md_from md_by md_many md_is md_next md_rollSet md_rollAct md_rolls md_slots md_isKept) (fun _ => W_md cI cZ md ((0 : Int32)) md_text md_textSize md_place md_letter md_first md_second md_third md_side md_hang md_forms md_formMany md_seats md_now md_barAlways md_noPut md_far md_queue md_from md_by md_many md_is md_next md_rollSet md_rollAct md_rolls md_slots md_isKept) ok_X8_noSet ml_X8_171 (c_X8_noSet (gl Γ) (gD Γ) cI cZ   p0 _ hm) (by decide) (by decide) rfl (Nat.le_of_ble_eq_true rfl) rfl rfl rfl rfl (by decide) rfl (fun _ => rfl) rfl dX8_hangs_6 ?_
  rintro r_1 _ hm
  refine x_if_ne hC 19 dX8_hangs_9 (by decide) (fun c_2 => ?_) (fun c_2 => ?_)
  · replace hm := hm.1 c_2
    refine x_bipush hC (-2 : Int32) dX8_hangs_19 (by decide) ?_
    exact hR ((-2 : Int32)) ((0 : Int32), md_far, md_queue, md_from, md_by, md_many) [(0, .ref (md 0)), (1, .int p0), (2, .int p1)] 21 hm rfl dX8_hangs_21
  · replace hm := hm.2 c_2
    refine x_iload_n hC 2 dX8_hangs_12 rfl ?_
    refine x_callSi hC _ [] [0, 1, 2, 3, 4, 5, 6, 7, 8, 9, 10, 11, 12, 13, 14] [0, 1, 2, 3, 4, 5, 6, 7, 8, 9, 10, 11, 12, 13, 14] (W_md cI cZ md ((0 : Int32)) md_text md_textSize md_place md_letter md_first md_second md_third md_side md_hang md_forms md_formMany md_seats md_now md_barAlways md_noPut md_far md_queue md_from md_by md_many md_is md_next md_rollSet md_rollAct md_rolls md_slots md_isKept) (fun _ => W_md cI cZ md ((0 : Int32)) md_text md_textSize md_place md_letter md_first md_second md_third md_side md_hang md_forms md_formMany md_seats md_now md_barAlways md_noPut md_far md_queue md_from md_by md_many md_is md_next md_rollSet md_rollAct md_rolls md_slots md_isKept) ok_X8_noGoal ml_X8_177 (c_X8_noGoal (gl Γ) (gD Γ) cI cZ   p1 _ hm) (by decide) (by decide) rfl (Nat.le_of_ble_eq_true rfl) rfl rfl rfl rfl (by decide) rfl (fun _ => rfl) rfl dX8_hangs_13 ?_
    rintro r_3 _ hm
    refine x_if_eq hC 22 dX8_hangs_16 (by decide) (fun c_4 => ?_) (fun c_4 => ?_)
    · replace hm := hm.1 c_4
      refine x_aload_n hC 0 dX8_hangs_22 rfl ?_
      refine x_aload_n hC 0 dX8_hangs_23 rfl ?_
      refine x_get hC 5 inX8g 0 rfl rfl 13 (by decide) fl_X8_140 rfl dX8_hangs_24 ?_
      refine x_iload_n hC 1 dX8_hangs_27 rfl ?_
      refine x_iload_n hC 2 dX8_hangs_28 rfl ?_
      refine x_callVi hC _ [0, 1, 2, 3, 4, 5, 6, 7, 8, 9, 10, 11, 12, 13, 14] [] [0, 1, 2, 3, 4, 5, 6, 7, 8, 9, 10, 11, 12, 13, 14] (([] : va_W)) (fun u => W_md cI cZ md ((0 : Int32)) md_text md_textSize md_place md_letter md_first md_second md_third md_side md_hang md_forms md_formMany md_seats md_now md_barAlways md_noPut (u.1) (u.2.1) (u.2.2.1) (u.2.2.2.1) (u.2.2.2.2) md_is md_next md_rollSet md_rollAct md_rolls md_slots md_isKept) ok_X8_holds ml_X8_213 0 5 (c_X8_holds (gl Γ) (gD Γ) cI cZ md ((0 : Int32)) md_text md_textSize md_place md_letter md_first md_second md_third md_side md_hang md_forms md_formMany md_seats md_now md_barAlways md_noPut md_far md_queue md_from md_by md_many md_is md_next md_rollSet md_rollAct md_rolls md_slots md_isKept md_now p0 p1 _ hm) (by decide) (by decide) rfl (Nat.le_of_ble_eq_true rfl) rfl rfl rfl rfl (by decide) rfl (fun _ => rfl) rfl rfl rfl rfl dX8_hangs_29 ?_
      rintro r_10 ⟨md_far_5, md_queue_6, md_from_7, md_by_8, md_many_9⟩ hm
      refine x_if_ne hC 38 dX8_hangs_32 (by decide) (fun c_11 => ?_) (fun c_11 => ?_)
      · replace hm := hm.1 c_11
        refine x_iconst hC (0 : Int32) dX8_hangs_38 (by decide) ?_
        refine x_istore_n hC [(0, .ref (md 0)), (1, .int p0), (2, .int p1), (3, .int ((0 : Int32)))] [1, 2, 3, 0] dX8_hangs_39 (by decide) rfl ?_
        refine x_iconst hC (0 : Int32) dX8_hangs_40 (by decide) ?_
        refine x_istore hC [(0, .ref (md 0)), (1, .int p0), (2, .int p1), (3, .int ((0 : Int32))), (4, .int ((0 : Int32)))] [1, 2, 3, 4, 0] dX8_hangs_41 (by decide) rfl ?_
        obtain ⟨n_37, hm⟩ := hm
        exact B_43  n_37 ((0 : Int32)) md_far_5 md_queue_6 md_from_7 md_by_8 md_many_9 p0 p1 ((0 : Int32)) ((0 : Int32)) hm
      · replace hm := hm.2 c_11
        refine x_bipush hC (-9 : Int32) dX8_hangs_35 (by decide) ?_
        exact hR ((-9 : Int32)) ((0 : Int32), md_far_5, md_queue_6, md_from_7, md_by_8, md_many_9) [(0, .ref (md 0)), (1, .int p0), (2, .int p1)] 37 hm rfl dX8_hangs_37
    · replace hm := hm.2 c_4
      refine x_bipush hC (-2 : Int32) dX8_hangs_19 (by decide) ?_
      exact hR ((-2 : Int32)) ((0 : Int32), md_far, md_queue, md_from, md_by, md_many) [(0, .ref (md 0)), (1, .int p0), (2, .int p1)] 21 hm rfl dX8_hangs_21

def wp_X8_hold (md_thrown : Int32) (md_forms : Nat → Int32) (md_formMany : Nat → Int32) (md_seats : Nat → Int32) (md_now : Int32) (md_barAlways : Int32) (md_noPut : Int32) (md_far : Nat → Int32) (md_queue : Nat → Int32) (md_from : Nat → Int32) (md_by : Nat → Int32) (md_many : Int32) (p0 : Int32) (p1 : Int32) (post : Int32 → Int32 → (Nat → Int32) → (Nat → Int32) → (Nat → Int32) → (Nat → Int32) → Int32 → Prop) : Prop := wp_X8_noSet  p0 (fun (r_1 : Int32) => (¬ r_1 = 0 → post ((-2 : Int32)) ((0 : Int32)) md_far md_queue md_from md_by md_many) ∧ (r_1 = 0 → wp_X8_noGoal  p1 (fun (r_3 : Int32) => (r_3 = 0 → wp_X8_holds md_forms md_formMany md_seats md_barAlways md_noPut md_far md_queue md_from md_by md_many md_now p0 p1 (fun (r_10 : Int32) (md_far_5 : Nat → Int32) (md_queue_6 : Nat → Int32) (md_from_7 : Nat → Int32) (md_by_8 : Nat → Int32) (md_many_9 : Int32) => (r_10 = 0 → post ((0 : Int32)) ((0 : Int32)) md_far_5 md_queue_6 md_from_7 md_by_8 md_many_9) ∧ (¬ r_10 = 0 → post ((1 : Int32)) ((0 : Int32)) md_far_5 md_queue_6 md_from_7 md_by_8 md_many_9))) ∧ (¬ r_3 = 0 → post ((-2 : Int32)) ((0 : Int32)) md_far md_queue md_from md_by md_many))))
set_option maxHeartbeats 4000000 in
set_option maxRecDepth 100000 in
theorem c_X8_hold (l : Launch) (D : va_G) (cI cZ : ClassId) (md : Nat → Nat) (md_thrown : Int32) (md_text : Nat → Int32) (md_textSize : Int32) (md_place : Int32) (md_letter : Int32) (md_first : Int32) (md_second : Int32) (md_third : Int32) (md_side : Int32) (md_hang : Int32) (md_forms : Nat → Int32) (md_formMany : Nat → Int32) (md_seats : Nat → Int32) (md_now : Int32) (md_barAlways : Int32) (md_noPut : Int32) (md_far : Nat → Int32) (md_queue : Nat → Int32) (md_from : Nat → Int32) (md_by : Nat → Int32) (md_many : Int32) (md_is : Nat → Int32) (md_next : Nat → Int32) (md_rollSet : Nat → Int32) (md_rollAct : Nat → Int32) (md_rolls : Int32) (md_slots : Nat → Int32) (md_isKept : Nat → Int32) (p0 : Int32) (p1 : Int32) (post : Int32 → Int32 → (Nat → Int32) → (Nat → Int32) → (Nat → Int32) → (Nat → Int32) → Int32 → Prop) (hm : wp_X8_hold md_thrown md_forms md_formMany md_seats md_now md_barAlways md_noPut md_far md_queue md_from md_by md_many p0 p1 post) : Mi l D cI cZ yX8_hold cX8_hold 3 .int 7 171 [.ref (md 0), .int p0, .int p1] (W_md cI cZ md md_thrown md_text md_textSize md_place md_letter md_first md_second md_third md_side md_hang md_forms md_formMany md_seats md_now md_barAlways md_noPut md_far md_queue md_from md_by md_many md_is md_next md_rollSet md_rollAct md_rolls md_slots md_isKept) (S := Int32 × (Nat → Int32) × (Nat → Int32) × (Nat → Int32) × (Nat → Int32) × Int32) (fun u => W_md cI cZ md (u.1) md_text md_textSize md_place md_letter md_first md_second md_third md_side md_hang md_forms md_formMany md_seats md_now md_barAlways md_noPut (u.2.1) (u.2.2.1) (u.2.2.2.1) (u.2.2.2.2.1) (u.2.2.2.2.2) md_is md_next md_rollSet md_rollAct md_rolls md_slots md_isKept) (fun r u => post r u.1 u.2.1 u.2.2.1 u.2.2.2.1 u.2.2.2.2.1 u.2.2.2.2.2) := by
  refine mk_Mi (by decide +kernel) (Nat.le_of_ble_eq_true rfl) ?_
  intro Γ hl0 hD0 hC hR
  subst hl0
  subst hD0
  have hC : CX Γ cI cZ cX8_hold RX8 3 7 171 := hC
  show VV Γ (W_md cI cZ md md_thrown md_text md_textSize md_place md_letter md_first md_second md_third md_side md_hang md_forms md_formMany md_seats md_now md_barAlways md_noPut md_far md_queue md_from md_by md_many md_is md_next md_rollSet md_rollAct md_rolls md_slots md_isKept) [(0, .ref (md 0)), (1, .int p0), (2, .int p1)] 0 []
  unfold wp_X8_hold at hm
  refine x_aload_n hC 0 dX8_hold_0 rfl ?_
  refine x_iconst hC (0 : Int32) dX8_hold_1 (by decide) ?_
  refine x_put hC 5 tyX8_ok nmX8 inX8g 0 rfl rfl 0 (by decide) fl_X8_60 rfl (ty := .int) (by decide +kernel) rfl rfl (Nat.le_of_ble_eq_true rfl) (W_md cI cZ md ((0 : Int32)) md_text md_textSize md_place md_letter md_first md_second md_third md_side md_hang md_forms md_formMany md_seats md_now md_barAlways md_noPut md_far md_queue md_from md_by md_many md_is md_next md_rollSet md_rollAct md_rolls md_slots md_isKept) rfl dX8_hold_2 ?_
  refine x_iload_n hC 1 dX8_hold_5 rfl ?_
  refine x_callSi hC _ [] [0, 1, 2, 3, 4, 5, 6, 7, 8, 9, 10, 11, 12, 13, 14] [0, 1, 2, 3, 4, 5, 6, 7, 8, 9, 10, 11, 12, 13, 14] (W_md cI cZ md ((0 : Int32)) md_text md_textSize md_place md_letter md_first md_second md_third md_side md_hang md_forms md_formMany md_seats md_now md_barAlways md_noPut md_far md_queue md_from md_by md_many md_is md_next md_rollSet md_rollAct md_rolls md_slots md_isKept) (fun _ => W_md cI cZ md ((0 : Int32)) md_text md_textSize md_place md_letter md_first md_second md_third md_side md_hang md_forms md_formMany md_seats md_now md_barAlways md_noPut md_far md_queue md_from md_by md_many md_is md_next md_rollSet md_rollAct md_rolls md_slots md_isKept) ok_X8_noSet ml_X8_171 (c_X8_noSet (gl Γ) (gD Γ) cI cZ   p0 _ hm) (by decide) (by decide) rfl (Nat.le_of_ble_eq_true rfl) rfl rfl rfl rfl (by decide) rfl (fun _ => rfl) rfl dX8_hold_6 ?_
  rintro r_1 _ hm
  refine x_if_ne hC 19 dX8_hold_9 (by decide) (fun c_2 => ?_) (fun c_2 => ?_)
  · replace hm := hm.1 c_2
    refine x_bipush hC (-2 : Int32) dX8_hold_19 (by decide) ?_
    exact hR ((-2 : Int32)) ((0 : Int32), md_far, md_queue, md_from, md_by, md_many) [(0, .ref (md 0)), (1, .int p0), (2, .int p1)] 21 hm rfl dX8_hold_21
  · replace hm := hm.2 c_2
    refine x_iload_n hC 2 dX8_hold_12 rfl ?_
    refine x_callSi hC _ [] [0, 1, 2, 3, 4, 5, 6, 7, 8, 9, 10, 11, 12, 13, 14] [0, 1, 2, 3, 4, 5, 6, 7, 8, 9, 10, 11, 12, 13, 14] (W_md cI cZ md ((0 : Int32)) md_text md_textSize md_place md_letter md_first md_second md_third md_side md_hang md_forms md_formMany md_seats md_now md_barAlways md_noPut md_far md_queue md_from md_by md_many md_is md_next md_rollSet md_rollAct md_rolls md_slots md_isKept) (fun _ => W_md cI cZ md ((0 : Int32)) md_text md_textSize md_place md_letter md_first md_second md_third md_side md_hang md_forms md_formMany md_seats md_now md_barAlways md_noPut md_far md_queue md_from md_by md_many md_is md_next md_rollSet md_rollAct md_rolls md_slots md_isKept) ok_X8_noGoal ml_X8_177 (c_X8_noGoal (gl Γ) (gD Γ) cI cZ   p1 _ hm) (by decide) (by decide) rfl (Nat.le_of_ble_eq_true rfl) rfl rfl rfl rfl (by decide) rfl (fun _ => rfl) rfl dX8_hold_13 ?_
    rintro r_3 _ hm
    refine x_if_eq hC 22 dX8_hold_16 (by decide) (fun c_4 => ?_) (fun c_4 => ?_)
    · replace hm := hm.1 c_4
      refine x_aload_n hC 0 dX8_hold_22 rfl ?_
      refine x_aload_n hC 0 dX8_hold_23 rfl ?_
      refine x_get hC 5 inX8g 0 rfl rfl 13 (by decide) fl_X8_140 rfl dX8_hold_24 ?_
      refine x_iload_n hC 1 dX8_hold_27 rfl ?_
      refine x_iload_n hC 2 dX8_hold_28 rfl ?_
      refine x_callVi hC _ [0, 1, 2, 3, 4, 5, 6, 7, 8, 9, 10, 11, 12, 13, 14] [] [0, 1, 2, 3, 4, 5, 6, 7, 8, 9, 10, 11, 12, 13, 14] (([] : va_W)) (fun u => W_md cI cZ md ((0 : Int32)) md_text md_textSize md_place md_letter md_first md_second md_third md_side md_hang md_forms md_formMany md_seats md_now md_barAlways md_noPut (u.1) (u.2.1) (u.2.2.1) (u.2.2.2.1) (u.2.2.2.2) md_is md_next md_rollSet md_rollAct md_rolls md_slots md_isKept) ok_X8_holds ml_X8_213 0 5 (c_X8_holds (gl Γ) (gD Γ) cI cZ md ((0 : Int32)) md_text md_textSize md_place md_letter md_first md_second md_third md_side md_hang md_forms md_formMany md_seats md_now md_barAlways md_noPut md_far md_queue md_from md_by md_many md_is md_next md_rollSet md_rollAct md_rolls md_slots md_isKept md_now p0 p1 _ hm) (by decide) (by decide) rfl (Nat.le_of_ble_eq_true rfl) rfl rfl rfl rfl (by decide) rfl (fun _ => rfl) rfl rfl rfl rfl dX8_hold_29 ?_
      rintro r_10 ⟨md_far_5, md_queue_6, md_from_7, md_by_8, md_many_9⟩ hm
      refine x_if_eq hC 39 dX8_hold_32 (by decide) (fun c_11 => ?_) (fun c_11 => ?_)
      · replace hm := hm.1 c_11
        refine x_iconst hC (0 : Int32) dX8_hold_39 (by decide) ?_
        exact hR ((0 : Int32)) ((0 : Int32), md_far_5, md_queue_6, md_from_7, md_by_8, md_many_9) [(0, .ref (md 0)), (1, .int p0), (2, .int p1)] 40 hm rfl dX8_hold_40
      · replace hm := hm.2 c_11
        refine x_iconst hC (1 : Int32) dX8_hold_35 (by decide) ?_
        refine x_goto hC 40 dX8_hold_36 (by decide) ?_
        exact hR ((1 : Int32)) ((0 : Int32), md_far_5, md_queue_6, md_from_7, md_by_8, md_many_9) [(0, .ref (md 0)), (1, .int p0), (2, .int p1)] 40 hm rfl dX8_hold_40
    · replace hm := hm.2 c_4
      refine x_bipush hC (-2 : Int32) dX8_hold_19 (by decide) ?_
      exact hR ((-2 : Int32)) ((0 : Int32), md_far, md_queue, md_from, md_by, md_many) [(0, .ref (md 0)), (1, .int p0), (2, .int p1)] 21 hm rfl dX8_hold_21

def wpL_X8_rows_4 (md_queue : Nat → Int32) (md_many : Int32)  (post : Int32 → Prop) : Nat → Int32 → Int32 → Prop
  | 0, _, _ => False
  | n + 1, x1_1, x2_2 => (md_many ≤ x2_2 → post x1_1 ) ∧ (¬ md_many ≤ x2_2 → vp_in x2_2 16384 ∧ (∀ x1_4 : Int32, x1_4 = x1_1 ||| (((1 : Int32)) <<< (((md_queue x2_2.toNatClampNeg) &&& ((15 : Int32))) &&& 31)) → ∀ x2_5 : Int32, x2_5 = x2_2 + (1 : Int32) → (wpL_X8_rows_4 md_queue md_many  post n) x1_4 x2_5))
def wp_X8_rows (md_queue : Nat → Int32) (md_many : Int32)  (post : Int32 → Prop) : Prop := ∃ k4, wpL_X8_rows_4 md_queue md_many  post k4 ((0 : Int32)) ((0 : Int32))
set_option maxHeartbeats 4000000 in
set_option maxRecDepth 100000 in
theorem c_X8_rows (l : Launch) (D : va_G) (cI cZ : ClassId) (md : Nat → Nat) (md_thrown : Int32) (md_text : Nat → Int32) (md_textSize : Int32) (md_place : Int32) (md_letter : Int32) (md_first : Int32) (md_second : Int32) (md_third : Int32) (md_side : Int32) (md_hang : Int32) (md_forms : Nat → Int32) (md_formMany : Nat → Int32) (md_seats : Nat → Int32) (md_now : Int32) (md_barAlways : Int32) (md_noPut : Int32) (md_far : Nat → Int32) (md_queue : Nat → Int32) (md_from : Nat → Int32) (md_by : Nat → Int32) (md_many : Int32) (md_is : Nat → Int32) (md_next : Nat → Int32) (md_rollSet : Nat → Int32) (md_rollAct : Nat → Int32) (md_rolls : Int32) (md_slots : Nat → Int32) (md_isKept : Nat → Int32)  (post : Int32 → Prop) (hm : wp_X8_rows md_queue md_many  post) : Mi l D cI cZ yX8_rows cX8_rows 3 .int 0 0 [.ref (md 0)] (W_md cI cZ md md_thrown md_text md_textSize md_place md_letter md_first md_second md_third md_side md_hang md_forms md_formMany md_seats md_now md_barAlways md_noPut md_far md_queue md_from md_by md_many md_is md_next md_rollSet md_rollAct md_rolls md_slots md_isKept) (S := Unit) (fun _ => W_md cI cZ md md_thrown md_text md_textSize md_place md_letter md_first md_second md_third md_side md_hang md_forms md_formMany md_seats md_now md_barAlways md_noPut md_far md_queue md_from md_by md_many md_is md_next md_rollSet md_rollAct md_rolls md_slots md_isKept) (fun r _ => post r ) := by
  refine mk_Mi (by decide +kernel) (Nat.le_of_ble_eq_true rfl) ?_
  intro Γ hl0 hD0 hC hR
  subst hl0
  subst hD0
  have hC : CX Γ cI cZ cX8_rows RX8 3 0 0 := hC
  show VV Γ (W_md cI cZ md md_thrown md_text md_textSize md_place md_letter md_first md_second md_third md_side md_hang md_forms md_formMany md_seats md_now md_barAlways md_noPut md_far md_queue md_from md_by md_many md_is md_next md_rollSet md_rollAct md_rolls md_slots md_isKept) [(0, .ref (md 0))] 0 []
  have B_4 : ∀ (n : Nat) (x1_1 : Int32) (x2_2 : Int32), wpL_X8_rows_4 md_queue md_many  post n x1_1 x2_2 → VV Γ (W_md cI cZ md md_thrown md_text md_textSize md_place md_letter md_first md_second md_third md_side md_hang md_forms md_formMany md_seats md_now md_barAlways md_noPut md_far md_queue md_from md_by md_many md_is md_next md_rollSet md_rollAct md_rolls md_slots md_isKept) [(0, .ref (md 0)), (1, .int x1_1), (2, .int x2_2)] 4 [] := by
    intro  n
    induction n with
    | zero => intro x1_1 x2_2 hm; rw [wpL_X8_rows_4] at hm; exact hm.elim
    | succ n ih =>
      intro x1_1 x2_2 hm
      rw [wpL_X8_rows_4] at hm
      refine x_iload_n hC 2 dX8_rows_4 rfl ?_
      refine x_aload_n hC 0 dX8_rows_5 rfl ?_
      refine x_get hC 5 inX8g 0 rfl rfl 20 (by decide) fl_X8_195 rfl dX8_rows_6 ?_
      refine x_icmp_ge hC 32 dX8_rows_9 (by decide) (fun c_3 => ?_) (fun c_3 => ?_)
      · replace hm := hm.1 c_3
        refine x_iload_n hC 1 dX8_rows_32 rfl ?_
        exact hR x1_1 () [(0, .ref (md 0)), (1, .int x1_1), (2, .int x2_2)] 33 hm rfl dX8_rows_33
      · replace hm := hm.2 c_3
        refine x_iload_n hC 1 dX8_rows_12 rfl ?_
        refine x_iconst hC (1 : Int32) dX8_rows_13 (by decide) ?_
        refine x_aload_n hC 0 dX8_rows_14 rfl ?_
        refine x_get hC 5 inX8g 0 rfl rfl 17 (by decide) fl_X8_32 rfl dX8_rows_15 ?_
        refine x_iload_n hC 2 dX8_rows_18 rfl ?_
        refine x_iald hC 6 rfl hm.1 dX8_rows_19 ?_
        replace hm := hm.2
        refine x_bipush hC (15 : Int32) dX8_rows_20 (by decide) ?_
        refine x_iand hC dX8_rows_22 ?_
        refine x_ishl hC dX8_rows_23 ?_
        refine x_ior hC dX8_rows_24 ?_
        refine x_top (fun x1_4 ex1_4 => ?_)
        replace hm := hm x1_4 ex1_4
        refine x_istore_n hC [(0, .ref (md 0)), (1, .int x1_4), (2, .int x2_2)] [1, 0, 2] dX8_rows_25 (by decide) rfl ?_
        obtain ⟨x2_5, ex2_5⟩ : ∃ y : Int32, y = x2_2 + (1 : Int32) := ⟨_, rfl⟩
        replace hm := hm x2_5 ex2_5
        refine x_iinc hC 2 x2_5 [(0, .ref (md 0)), (1, .int x1_4), (2, .int x2_5)] [1, 2, 0] dX8_rows_26 rfl (by rw [ex2_5]; rfl) (by decide) rfl ?_
        refine x_goto hC 4 dX8_rows_29 (by decide) ?_
        exact ih x1_4 x2_5 hm
  unfold wp_X8_rows at hm
  refine x_iconst hC (0 : Int32) dX8_rows_0 (by decide) ?_
  refine x_istore_n hC [(0, .ref (md 0)), (1, .int ((0 : Int32)))] [1, 0] dX8_rows_1 (by decide) rfl ?_
  refine x_iconst hC (0 : Int32) dX8_rows_2 (by decide) ?_
  refine x_istore_n hC [(0, .ref (md 0)), (1, .int ((0 : Int32))), (2, .int ((0 : Int32)))] [1, 2, 0] dX8_rows_3 (by decide) rfl ?_
  obtain ⟨n_6, hm⟩ := hm
  exact B_4  n_6 ((0 : Int32)) ((0 : Int32)) hm

def wp_X8_idle (md_thrown : Int32) (md_forms : Nat → Int32) (md_formMany : Nat → Int32) (md_seats : Nat → Int32) (md_now : Int32) (md_barAlways : Int32) (md_noPut : Int32) (md_far : Nat → Int32) (md_queue : Nat → Int32) (md_from : Nat → Int32) (md_by : Nat → Int32) (md_many : Int32) (p0 : Int32) (p1 : Int32) (post : Int32 → Int32 → Int32 → (Nat → Int32) → (Nat → Int32) → (Nat → Int32) → (Nat → Int32) → Int32 → Prop) : Prop := wp_X8_noSet  p0 (fun (r_1 : Int32) => (r_1 = 0 → wp_X8_noClause  p1 (fun (r_3 : Int32) => (r_3 = 0 → wp_X8_wave md_forms md_formMany md_seats md_barAlways md_noPut md_far md_queue md_from md_by md_many md_now p0 p0 (fun (md_far_5 : Nat → Int32) (md_queue_6 : Nat → Int32) (md_from_7 : Nat → Int32) (md_by_8 : Nat → Int32) (md_many_9 : Int32) => wp_X8_rows md_queue_6 md_many_9  (fun (r_10 : Int32) => wp_X8_put  md_now p1 ((0 : Int32)) (fun (r_11 : Int32) => wp_X8_wave md_forms md_formMany md_seats md_barAlways p1 md_far_5 md_queue_6 md_from_7 md_by_8 md_many_9 r_11 p0 p0 (fun (md_far_12 : Nat → Int32) (md_queue_13 : Nat → Int32) (md_from_14 : Nat → Int32) (md_by_15 : Nat → Int32) (md_many_16 : Int32) => wp_X8_rows md_queue_13 md_many_16  (fun (r_17 : Int32) => (¬ r_17 = r_10 → post ((0 : Int32)) ((0 : Int32)) ((-9 : Int32)) md_far_12 md_queue_13 md_from_14 md_by_15 md_many_16) ∧ (r_17 = r_10 → post ((1 : Int32)) ((0 : Int32)) ((-9 : Int32)) md_far_12 md_queue_13 md_from_14 md_by_15 md_many_16))))))) ∧ (¬ r_3 = 0 → post ((-1 : Int32)) ((0 : Int32)) md_noPut md_far md_queue md_from md_by md_many))) ∧ (¬ r_1 = 0 → post ((-2 : Int32)) ((0 : Int32)) md_noPut md_far md_queue md_from md_by md_many))
set_option maxHeartbeats 4000000 in
set_option maxRecDepth 100000 in
theorem c_X8_idle (l : Launch) (D : va_G) (cI cZ : ClassId) (md : Nat → Nat) (md_thrown : Int32) (md_text : Nat → Int32) (md_textSize : Int32) (md_place : Int32) (md_letter : Int32) (md_first : Int32) (md_second : Int32) (md_third : Int32) (md_side : Int32) (md_hang : Int32) (md_forms : Nat → Int32) (md_formMany : Nat → Int32) (md_seats : Nat → Int32) (md_now : Int32) (md_barAlways : Int32) (md_noPut : Int32) (md_far : Nat → Int32) (md_queue : Nat → Int32) (md_from : Nat → Int32) (md_by : Nat → Int32) (md_many : Int32) (md_is : Nat → Int32) (md_next : Nat → Int32) (md_rollSet : Nat → Int32) (md_rollAct : Nat → Int32) (md_rolls : Int32) (md_slots : Nat → Int32) (md_isKept : Nat → Int32) (p0 : Int32) (p1 : Int32) (post : Int32 → Int32 → Int32 → (Nat → Int32) → (Nat → Int32) → (Nat → Int32) → (Nat → Int32) → Int32 → Prop) (hm : wp_X8_idle md_thrown md_forms md_formMany md_seats md_now md_barAlways md_noPut md_far md_queue md_from md_by md_many p0 p1 post) : Mi l D cI cZ yX8_idle cX8_idle 4 .int 6 148 [.ref (md 0), .int p0, .int p1] (W_md cI cZ md md_thrown md_text md_textSize md_place md_letter md_first md_second md_third md_side md_hang md_forms md_formMany md_seats md_now md_barAlways md_noPut md_far md_queue md_from md_by md_many md_is md_next md_rollSet md_rollAct md_rolls md_slots md_isKept) (S := Int32 × Int32 × (Nat → Int32) × (Nat → Int32) × (Nat → Int32) × (Nat → Int32) × Int32) (fun u => W_md cI cZ md (u.1) md_text md_textSize md_place md_letter md_first md_second md_third md_side md_hang md_forms md_formMany md_seats md_now md_barAlways (u.2.1) (u.2.2.1) (u.2.2.2.1) (u.2.2.2.2.1) (u.2.2.2.2.2.1) (u.2.2.2.2.2.2) md_is md_next md_rollSet md_rollAct md_rolls md_slots md_isKept) (fun r u => post r u.1 u.2.1 u.2.2.1 u.2.2.2.1 u.2.2.2.2.1 u.2.2.2.2.2.1 u.2.2.2.2.2.2) := by
  refine mk_Mi (by decide +kernel) (Nat.le_of_ble_eq_true rfl) ?_
  intro Γ hl0 hD0 hC hR
  subst hl0
  subst hD0
  have hC : CX Γ cI cZ cX8_idle RX8 4 6 148 := hC
  show VV Γ (W_md cI cZ md md_thrown md_text md_textSize md_place md_letter md_first md_second md_third md_side md_hang md_forms md_formMany md_seats md_now md_barAlways md_noPut md_far md_queue md_from md_by md_many md_is md_next md_rollSet md_rollAct md_rolls md_slots md_isKept) [(0, .ref (md 0)), (1, .int p0), (2, .int p1)] 0 []
  unfold wp_X8_idle at hm
  refine x_aload_n hC 0 dX8_idle_0 rfl ?_
  refine x_iconst hC (0 : Int32) dX8_idle_1 (by decide) ?_
  refine x_put hC 5 tyX8_ok nmX8 inX8g 0 rfl rfl 0 (by decide) fl_X8_60 rfl (ty := .int) (by decide +kernel) rfl rfl (Nat.le_of_ble_eq_true rfl) (W_md cI cZ md ((0 : Int32)) md_text md_textSize md_place md_letter md_first md_second md_third md_side md_hang md_forms md_formMany md_seats md_now md_barAlways md_noPut md_far md_queue md_from md_by md_many md_is md_next md_rollSet md_rollAct md_rolls md_slots md_isKept) rfl dX8_idle_2 ?_
  refine x_iload_n hC 1 dX8_idle_5 rfl ?_
  refine x_callSi hC _ [] [0, 1, 2, 3, 4, 5, 6, 7, 8, 9, 10, 11, 12, 13, 14] [0, 1, 2, 3, 4, 5, 6, 7, 8, 9, 10, 11, 12, 13, 14] (W_md cI cZ md ((0 : Int32)) md_text md_textSize md_place md_letter md_first md_second md_third md_side md_hang md_forms md_formMany md_seats md_now md_barAlways md_noPut md_far md_queue md_from md_by md_many md_is md_next md_rollSet md_rollAct md_rolls md_slots md_isKept) (fun _ => W_md cI cZ md ((0 : Int32)) md_text md_textSize md_place md_letter md_first md_second md_third md_side md_hang md_forms md_formMany md_seats md_now md_barAlways md_noPut md_far md_queue md_from md_by md_many md_is md_next md_rollSet md_rollAct md_rolls md_slots md_isKept) ok_X8_noSet ml_X8_171 (c_X8_noSet (gl Γ) (gD Γ) cI cZ   p0 _ hm) (by decide) (by decide) rfl (Nat.le_of_ble_eq_true rfl) rfl rfl rfl rfl (by decide) rfl (fun _ => rfl) rfl dX8_idle_6 ?_
  rintro r_1 _ hm
  refine x_if_eq hC 15 dX8_idle_9 (by decide) (fun c_2 => ?_) (fun c_2 => ?_)
  · replace hm := hm.1 c_2
    refine x_iload_n hC 2 dX8_idle_15 rfl ?_
    refine x_callSi hC _ [] [0, 1, 2, 3, 4, 5, 6, 7, 8, 9, 10, 11, 12, 13, 14] [0, 1, 2, 3, 4, 5, 6, 7, 8, 9, 10, 11, 12, 13, 14] (W_md cI cZ md ((0 : Int32)) md_text md_textSize md_place md_letter md_first md_second md_third md_side md_hang md_forms md_formMany md_seats md_now md_barAlways md_noPut md_far md_queue md_from md_by md_many md_is md_next md_rollSet md_rollAct md_rolls md_slots md_isKept) (fun _ => W_md cI cZ md ((0 : Int32)) md_text md_textSize md_place md_letter md_first md_second md_third md_side md_hang md_forms md_formMany md_seats md_now md_barAlways md_noPut md_far md_queue md_from md_by md_many md_is md_next md_rollSet md_rollAct md_rolls md_slots md_isKept) ok_X8_noClause ml_X8_137 (c_X8_noClause (gl Γ) (gD Γ) cI cZ   p1 _ hm) (by decide) (by decide) rfl (Nat.le_of_ble_eq_true rfl) rfl rfl rfl rfl (by decide) rfl (fun _ => rfl) rfl dX8_idle_16 ?_
    rintro r_3 _ hm
    refine x_if_eq hC 24 dX8_idle_19 (by decide) (fun c_4 => ?_) (fun c_4 => ?_)
    · replace hm := hm.1 c_4
      refine x_aload_n hC 0 dX8_idle_24 rfl ?_
      refine x_aload_n hC 0 dX8_idle_25 rfl ?_
      refine x_get hC 5 inX8g 0 rfl rfl 13 (by decide) fl_X8_140 rfl dX8_idle_26 ?_
      refine x_iload_n hC 1 dX8_idle_29 rfl ?_
      refine x_iload_n hC 1 dX8_idle_30 rfl ?_
      refine x_callVv hC _ [0, 1, 2, 3, 4, 5, 6, 7, 8, 9, 10, 11, 12, 13, 14] [] [0, 1, 2, 3, 4, 5, 6, 7, 8, 9, 10, 11, 12, 13, 14] (([] : va_W)) (fun u => W_md cI cZ md ((0 : Int32)) md_text md_textSize md_place md_letter md_first md_second md_third md_side md_hang md_forms md_formMany md_seats md_now md_barAlways md_noPut (u.1) (u.2.1) (u.2.2.1) (u.2.2.2.1) (u.2.2.2.2) md_is md_next md_rollSet md_rollAct md_rolls md_slots md_isKept) ok_X8_wave ml_X8_198 0 5 (c_X8_wave (gl Γ) (gD Γ) cI cZ md ((0 : Int32)) md_text md_textSize md_place md_letter md_first md_second md_third md_side md_hang md_forms md_formMany md_seats md_now md_barAlways md_noPut md_far md_queue md_from md_by md_many md_is md_next md_rollSet md_rollAct md_rolls md_slots md_isKept md_now p0 p0 _ hm) (by decide) (by decide) rfl (Nat.le_of_ble_eq_true rfl) rfl rfl rfl rfl (by decide) rfl (fun _ => rfl) rfl rfl rfl rfl dX8_idle_31 ?_
      rintro ⟨md_far_5, md_queue_6, md_from_7, md_by_8, md_many_9⟩ hm
      refine x_aload_n hC 0 dX8_idle_34 rfl ?_
      refine x_callVi hC _ [0, 1, 2, 3, 4, 5, 6, 7, 8, 9, 10, 11, 12, 13, 14] [] [0, 1, 2, 3, 4, 5, 6, 7, 8, 9, 10, 11, 12, 13, 14] (([] : va_W)) (fun _ => W_md cI cZ md ((0 : Int32)) md_text md_textSize md_place md_letter md_first md_second md_third md_side md_hang md_forms md_formMany md_seats md_now md_barAlways md_noPut md_far_5 md_queue_6 md_from_7 md_by_8 md_many_9 md_is md_next md_rollSet md_rollAct md_rolls md_slots md_isKept) ok_X8_rows ml_X8_231 0 5 (c_X8_rows (gl Γ) (gD Γ) cI cZ md ((0 : Int32)) md_text md_textSize md_place md_letter md_first md_second md_third md_side md_hang md_forms md_formMany md_seats md_now md_barAlways md_noPut md_far_5 md_queue_6 md_from_7 md_by_8 md_many_9 md_is md_next md_rollSet md_rollAct md_rolls md_slots md_isKept  _ hm) (by decide) (by decide) rfl (Nat.le_of_ble_eq_true rfl) rfl rfl rfl rfl (by decide) rfl (fun _ => rfl) rfl rfl rfl rfl dX8_idle_35 ?_
      rintro r_10 _ hm
      refine x_istore_n hC [(0, .ref (md 0)), (1, .int p0), (2, .int p1), (3, .int r_10)] [1, 2, 3, 0] dX8_idle_38 (by decide) rfl ?_
      refine x_aload_n hC 0 dX8_idle_39 rfl ?_
      refine x_iload_n hC 2 dX8_idle_40 rfl ?_
      refine x_put hC 5 tyX8_ok nmX8 inX8g 0 rfl rfl 15 (by decide) fl_X8_26 rfl (ty := .int) (by decide +kernel) rfl rfl (Nat.le_of_ble_eq_true rfl) (W_md cI cZ md ((0 : Int32)) md_text md_textSize md_place md_letter md_first md_second md_third md_side md_hang md_forms md_formMany md_seats md_now md_barAlways p1 md_far_5 md_queue_6 md_from_7 md_by_8 md_many_9 md_is md_next md_rollSet md_rollAct md_rolls md_slots md_isKept) rfl dX8_idle_41 ?_
      refine x_aload_n hC 0 dX8_idle_44 rfl ?_
      refine x_aload_n hC 0 dX8_idle_45 rfl ?_
      refine x_get hC 5 inX8g 0 rfl rfl 13 (by decide) fl_X8_140 rfl dX8_idle_46 ?_
      refine x_iload_n hC 2 dX8_idle_49 rfl ?_
      refine x_iconst hC (0 : Int32) dX8_idle_50 (by decide) ?_
      refine x_callSi hC _ [] [0, 1, 2, 3, 4, 5, 6, 7, 8, 9, 10, 11, 12, 13, 14] [0, 1, 2, 3, 4, 5, 6, 7, 8, 9, 10, 11, 12, 13, 14] (W_md cI cZ md ((0 : Int32)) md_text md_textSize md_place md_letter md_first md_second md_third md_side md_hang md_forms md_formMany md_seats md_now md_barAlways p1 md_far_5 md_queue_6 md_from_7 md_by_8 md_many_9 md_is md_next md_rollSet md_rollAct md_rolls md_slots md_isKept) (fun _ => W_md cI cZ md ((0 : Int32)) md_text md_textSize md_place md_letter md_first md_second md_third md_side md_hang md_forms md_formMany md_seats md_now md_barAlways p1 md_far_5 md_queue_6 md_from_7 md_by_8 md_many_9 md_is md_next md_rollSet md_rollAct md_rolls md_slots md_isKept) ok_X8_put ml_X8_143 (c_X8_put (gl Γ) (gD Γ) cI cZ   md_now p1 ((0 : Int32)) _ hm) (by decide) (by decide) rfl (Nat.le_of_ble_eq_true rfl) rfl rfl rfl rfl (by decide) rfl (fun _ => rfl) rfl dX8_idle_51 ?_
      rintro r_11 _ hm
      refine x_iload_n hC 1 dX8_idle_54 rfl ?_
      refine x_iload_n hC 1 dX8_idle_55 rfl ?_
      refine x_callVv hC _ [0, 1, 2, 3, 4, 5, 6, 7, 8, 9, 10, 11, 12, 13, 14] [] [0, 1, 2, 3, 4, 5, 6, 7, 8, 9, 10, 11, 12, 13, 14] (([] : va_W)) (fun u => W_md cI cZ md ((0 : Int32)) md_text md_textSize md_place md_letter md_first md_second md_third md_side md_hang md_forms md_formMany md_seats md_now md_barAlways p1 (u.1) (u.2.1) (u.2.2.1) (u.2.2.2.1) (u.2.2.2.2) md_is md_next md_rollSet md_rollAct md_rolls md_slots md_isKept) ok_X8_wave ml_X8_198 0 5 (c_X8_wave (gl Γ) (gD Γ) cI cZ md ((0 : Int32)) md_text md_textSize md_place md_letter md_first md_second md_third md_side md_hang md_forms md_formMany md_seats md_now md_barAlways p1 md_far_5 md_queue_6 md_from_7 md_by_8 md_many_9 md_is md_next md_rollSet md_rollAct md_rolls md_slots md_isKept r_11 p0 p0 _ hm) (by decide) (by decide) rfl (Nat.le_of_ble_eq_true rfl) rfl rfl rfl rfl (by decide) rfl (fun _ => rfl) rfl rfl rfl rfl dX8_idle_56 ?_
      rintro ⟨md_far_12, md_queue_13, md_from_14, md_by_15, md_many_16⟩ hm
      refine x_aload_n hC 0 dX8_idle_59 rfl ?_
      refine x_bipush hC (-9 : Int32) dX8_idle_60 (by decide) ?_
      refine x_put hC 5 tyX8_ok nmX8 inX8g 0 rfl rfl 15 (by decide) fl_X8_26 rfl (ty := .int) (by decide +kernel) rfl rfl (Nat.le_of_ble_eq_true rfl) (W_md cI cZ md ((0 : Int32)) md_text md_textSize md_place md_letter md_first md_second md_third md_side md_hang md_forms md_formMany md_seats md_now md_barAlways ((-9 : Int32)) md_far_12 md_queue_13 md_from_14 md_by_15 md_many_16 md_is md_next md_rollSet md_rollAct md_rolls md_slots md_isKept) rfl dX8_idle_62 ?_
      refine x_aload_n hC 0 dX8_idle_65 rfl ?_
      refine x_callVi hC _ [0, 1, 2, 3, 4, 5, 6, 7, 8, 9, 10, 11, 12, 13, 14] [] [0, 1, 2, 3, 4, 5, 6, 7, 8, 9, 10, 11, 12, 13, 14] (([] : va_W)) (fun _ => W_md cI cZ md ((0 : Int32)) md_text md_textSize md_place md_letter md_first md_second md_third md_side md_hang md_forms md_formMany md_seats md_now md_barAlways ((-9 : Int32)) md_far_12 md_queue_13 md_from_14 md_by_15 md_many_16 md_is md_next md_rollSet md_rollAct md_rolls md_slots md_isKept) ok_X8_rows ml_X8_231 0 5 (c_X8_rows (gl Γ) (gD Γ) cI cZ md ((0 : Int32)) md_text md_textSize md_place md_letter md_first md_second md_third md_side md_hang md_forms md_formMany md_seats md_now md_barAlways ((-9 : Int32)) md_far_12 md_queue_13 md_from_14 md_by_15 md_many_16 md_is md_next md_rollSet md_rollAct md_rolls md_slots md_isKept  _ hm) (by decide) (by decide) rfl (Nat.le_of_ble_eq_true rfl) rfl rfl rfl rfl (by decide) rfl (fun _ => rfl) rfl rfl rfl rfl dX8_idle_66 ?_
      rintro r_17 _ hm
      refine x_iload_n hC 3 dX8_idle_69 rfl ?_
      refine x_icmp_ne hC 77 dX8_idle_70 (by decide) (fun c_18 => ?_) (fun c_18 => ?_)
      · replace hm := hm.1 c_18
        refine x_iconst hC (0 : Int32) dX8_idle_77 (by decide) ?_
        exact hR ((0 : Int32)) ((0 : Int32), (-9 : Int32), md_far_12, md_queue_13, md_from_14, md_by_15, md_many_16) [(0, .ref (md 0)), (1, .int p0), (2, .int p1), (3, .int r_10)] 78 hm rfl dX8_idle_78
      · replace hm := hm.2 c_18
        refine x_iconst hC (1 : Int32) dX8_idle_73 (by decide) ?_
        refine x_goto hC 78 dX8_idle_74 (by decide) ?_
        exact hR ((1 : Int32)) ((0 : Int32), (-9 : Int32), md_far_12, md_queue_13, md_from_14, md_by_15, md_many_16) [(0, .ref (md 0)), (1, .int p0), (2, .int p1), (3, .int r_10)] 78 hm rfl dX8_idle_78
    · replace hm := hm.2 c_4
      refine x_iconst hC (-1 : Int32) dX8_idle_22 (by decide) ?_
      exact hR ((-1 : Int32)) ((0 : Int32), md_noPut, md_far, md_queue, md_from, md_by, md_many) [(0, .ref (md 0)), (1, .int p0), (2, .int p1)] 23 hm rfl dX8_idle_23
  · replace hm := hm.2 c_2
    refine x_bipush hC (-2 : Int32) dX8_idle_12 (by decide) ?_
    exact hR ((-2 : Int32)) ((0 : Int32), md_noPut, md_far, md_queue, md_from, md_by, md_many) [(0, .ref (md 0)), (1, .int p0), (2, .int p1)] 14 hm rfl dX8_idle_14

def wp_X8_is (md_thrown : Int32) (md_now : Int32) (p0 : Int32) (post : Int32 → Int32 → Prop) : Prop := wp_X8_noGoal  p0 (fun (r_1 : Int32) => (r_1 = 0 → wp_X8_isSo  md_now p0 (fun (r_3 : Int32) => (r_3 = 0 → post ((0 : Int32)) ((0 : Int32))) ∧ (¬ r_3 = 0 → post ((1 : Int32)) ((0 : Int32))))) ∧ (¬ r_1 = 0 → post ((-2 : Int32)) ((0 : Int32))))
set_option maxHeartbeats 4000000 in
set_option maxRecDepth 100000 in
theorem c_X8_is (l : Launch) (D : va_G) (cI cZ : ClassId) (md : Nat → Nat) (md_thrown : Int32) (md_text : Nat → Int32) (md_textSize : Int32) (md_place : Int32) (md_letter : Int32) (md_first : Int32) (md_second : Int32) (md_third : Int32) (md_side : Int32) (md_hang : Int32) (md_forms : Nat → Int32) (md_formMany : Nat → Int32) (md_seats : Nat → Int32) (md_now : Int32) (md_barAlways : Int32) (md_noPut : Int32) (md_far : Nat → Int32) (md_queue : Nat → Int32) (md_from : Nat → Int32) (md_by : Nat → Int32) (md_many : Int32) (md_is : Nat → Int32) (md_next : Nat → Int32) (md_rollSet : Nat → Int32) (md_rollAct : Nat → Int32) (md_rolls : Int32) (md_slots : Nat → Int32) (md_isKept : Nat → Int32) (p0 : Int32) (post : Int32 → Int32 → Prop) (hm : wp_X8_is md_thrown md_now p0 post) : Mi l D cI cZ yX8_is cX8_is 2 .int 2 47 [.ref (md 0), .int p0] (W_md cI cZ md md_thrown md_text md_textSize md_place md_letter md_first md_second md_third md_side md_hang md_forms md_formMany md_seats md_now md_barAlways md_noPut md_far md_queue md_from md_by md_many md_is md_next md_rollSet md_rollAct md_rolls md_slots md_isKept) (S := Int32) (fun u => W_md cI cZ md u md_text md_textSize md_place md_letter md_first md_second md_third md_side md_hang md_forms md_formMany md_seats md_now md_barAlways md_noPut md_far md_queue md_from md_by md_many md_is md_next md_rollSet md_rollAct md_rolls md_slots md_isKept) (fun r u => post r u) := by
  refine mk_Mi (by decide +kernel) (Nat.le_of_ble_eq_true rfl) ?_
  intro Γ hl0 hD0 hC hR
  subst hl0
  subst hD0
  have hC : CX Γ cI cZ cX8_is RX8 2 2 47 := hC
  show VV Γ (W_md cI cZ md md_thrown md_text md_textSize md_place md_letter md_first md_second md_third md_side md_hang md_forms md_formMany md_seats md_now md_barAlways md_noPut md_far md_queue md_from md_by md_many md_is md_next md_rollSet md_rollAct md_rolls md_slots md_isKept) [(0, .ref (md 0)), (1, .int p0)] 0 []
  unfold wp_X8_is at hm
  refine x_aload_n hC 0 dX8_is_0 rfl ?_
  refine x_iconst hC (0 : Int32) dX8_is_1 (by decide) ?_
  refine x_put hC 5 tyX8_ok nmX8 inX8g 0 rfl rfl 0 (by decide) fl_X8_60 rfl (ty := .int) (by decide +kernel) rfl rfl (Nat.le_of_ble_eq_true rfl) (W_md cI cZ md ((0 : Int32)) md_text md_textSize md_place md_letter md_first md_second md_third md_side md_hang md_forms md_formMany md_seats md_now md_barAlways md_noPut md_far md_queue md_from md_by md_many md_is md_next md_rollSet md_rollAct md_rolls md_slots md_isKept) rfl dX8_is_2 ?_
  refine x_iload_n hC 1 dX8_is_5 rfl ?_
  refine x_callSi hC _ [] [0, 1, 2, 3, 4, 5, 6, 7, 8, 9, 10, 11, 12, 13, 14] [0, 1, 2, 3, 4, 5, 6, 7, 8, 9, 10, 11, 12, 13, 14] (W_md cI cZ md ((0 : Int32)) md_text md_textSize md_place md_letter md_first md_second md_third md_side md_hang md_forms md_formMany md_seats md_now md_barAlways md_noPut md_far md_queue md_from md_by md_many md_is md_next md_rollSet md_rollAct md_rolls md_slots md_isKept) (fun _ => W_md cI cZ md ((0 : Int32)) md_text md_textSize md_place md_letter md_first md_second md_third md_side md_hang md_forms md_formMany md_seats md_now md_barAlways md_noPut md_far md_queue md_from md_by md_many md_is md_next md_rollSet md_rollAct md_rolls md_slots md_isKept) ok_X8_noGoal ml_X8_177 (c_X8_noGoal (gl Γ) (gD Γ) cI cZ   p0 _ hm) (by decide) (by decide) rfl (Nat.le_of_ble_eq_true rfl) rfl rfl rfl rfl (by decide) rfl (fun _ => rfl) rfl dX8_is_6 ?_
  rintro r_1 _ hm
  refine x_if_eq hC 17 dX8_is_9 (by decide) (fun c_2 => ?_) (fun c_2 => ?_)
  · replace hm := hm.1 c_2
    refine x_aload_n hC 0 dX8_is_17 rfl ?_
    refine x_get hC 5 inX8g 0 rfl rfl 13 (by decide) fl_X8_140 rfl dX8_is_18 ?_
    refine x_iload_n hC 1 dX8_is_21 rfl ?_
    refine x_callSi hC _ [] [0, 1, 2, 3, 4, 5, 6, 7, 8, 9, 10, 11, 12, 13, 14] [0, 1, 2, 3, 4, 5, 6, 7, 8, 9, 10, 11, 12, 13, 14] (W_md cI cZ md ((0 : Int32)) md_text md_textSize md_place md_letter md_first md_second md_third md_side md_hang md_forms md_formMany md_seats md_now md_barAlways md_noPut md_far md_queue md_from md_by md_many md_is md_next md_rollSet md_rollAct md_rolls md_slots md_isKept) (fun _ => W_md cI cZ md ((0 : Int32)) md_text md_textSize md_place md_letter md_first md_second md_third md_side md_hang md_forms md_formMany md_seats md_now md_barAlways md_noPut md_far md_queue md_from md_by md_many md_is md_next md_rollSet md_rollAct md_rolls md_slots md_isKept) ok_X8_isSo ml_X8_164 (c_X8_isSo (gl Γ) (gD Γ) cI cZ   md_now p0 _ hm) (by decide) (by decide) rfl (Nat.le_of_ble_eq_true rfl) rfl rfl rfl rfl (by decide) rfl (fun _ => rfl) rfl dX8_is_22 ?_
    rintro r_3 _ hm
    refine x_if_eq hC 32 dX8_is_25 (by decide) (fun c_4 => ?_) (fun c_4 => ?_)
    · replace hm := hm.1 c_4
      refine x_iconst hC (0 : Int32) dX8_is_32 (by decide) ?_
      exact hR ((0 : Int32)) (0 : Int32) [(0, .ref (md 0)), (1, .int p0)] 33 hm rfl dX8_is_33
    · replace hm := hm.2 c_4
      refine x_iconst hC (1 : Int32) dX8_is_28 (by decide) ?_
      refine x_goto hC 33 dX8_is_29 (by decide) ?_
      exact hR ((1 : Int32)) (0 : Int32) [(0, .ref (md 0)), (1, .int p0)] 33 hm rfl dX8_is_33
  · replace hm := hm.2 c_2
    refine x_bipush hC (-2 : Int32) dX8_is_12 (by decide) ?_
    refine x_goto hC 33 dX8_is_14 (by decide) ?_
    exact hR ((-2 : Int32)) (0 : Int32) [(0, .ref (md 0)), (1, .int p0)] 33 hm rfl dX8_is_33

def wpL_X8_judge_12 (md_forms : Nat → Int32) (md_formMany : Nat → Int32) (md_seats : Nat → Int32) (md_now : Int32) (md_barAlways : Int32) (md_noPut : Int32) (md_rollSet : Nat → Int32) (md_rollAct : Nat → Int32) (md_rolls : Int32)  (post : Int32 → Int32 → Prop) : Nat → Int32 → Int32 → Int32 → Int32 → Prop
  | 0, _, _, _, _ => False
  | n + 1, md_thrown_1, x1_2, x2_3, x3_4 => (md_rolls ≤ x3_4 → post ((-9 : Int32)) md_thrown_1) ∧ (¬ md_rolls ≤ x3_4 → vp_in x3_4 20 ∧ (vp_in x3_4 20 ∧ (wp_X8_whyNot md_forms md_formMany md_seats md_barAlways md_noPut x2_3 (md_rollSet x3_4.toNatClampNeg) (md_rollAct x3_4.toNatClampNeg) (fun (r_6 : Int32) => (r_6 = 0 → vp_in x3_4 20 ∧ (wp_X8_done md_forms x2_3 (md_rollAct x3_4.toNatClampNeg) (fun (r_8 : Int32) => ∀ x3_9 : Int32, x3_9 = x3_4 + (1 : Int32) → (wpL_X8_judge_12 md_forms md_formMany md_seats md_now md_barAlways md_noPut md_rollSet md_rollAct md_rolls  post n) md_thrown_1 x1_2 r_8 x3_9))) ∧ (¬ r_6 = 0 → (x1_2 = 0 → post x3_4 md_thrown_1) ∧ (¬ x1_2 = 0 → post r_6 md_thrown_1))))))
def wp_X8_judge (md_thrown : Int32) (md_forms : Nat → Int32) (md_formMany : Nat → Int32) (md_seats : Nat → Int32) (md_now : Int32) (md_barAlways : Int32) (md_noPut : Int32) (md_rollSet : Nat → Int32) (md_rollAct : Nat → Int32) (md_rolls : Int32) (p0 : Int32) (post : Int32 → Int32 → Prop) : Prop := ∃ k12, wpL_X8_judge_12 md_forms md_formMany md_seats md_now md_barAlways md_noPut md_rollSet md_rollAct md_rolls  post k12 ((0 : Int32)) p0 md_now ((0 : Int32))
set_option maxHeartbeats 4000000 in
set_option maxRecDepth 100000 in
theorem c_X8_judge (l : Launch) (D : va_G) (cI cZ : ClassId) (md : Nat → Nat) (md_thrown : Int32) (md_text : Nat → Int32) (md_textSize : Int32) (md_place : Int32) (md_letter : Int32) (md_first : Int32) (md_second : Int32) (md_third : Int32) (md_side : Int32) (md_hang : Int32) (md_forms : Nat → Int32) (md_formMany : Nat → Int32) (md_seats : Nat → Int32) (md_now : Int32) (md_barAlways : Int32) (md_noPut : Int32) (md_far : Nat → Int32) (md_queue : Nat → Int32) (md_from : Nat → Int32) (md_by : Nat → Int32) (md_many : Int32) (md_is : Nat → Int32) (md_next : Nat → Int32) (md_rollSet : Nat → Int32) (md_rollAct : Nat → Int32) (md_rolls : Int32) (md_slots : Nat → Int32) (md_isKept : Nat → Int32) (p0 : Int32) (post : Int32 → Int32 → Prop) (hm : wp_X8_judge md_thrown md_forms md_formMany md_seats md_now md_barAlways md_noPut md_rollSet md_rollAct md_rolls p0 post) : Mi l D cI cZ yX8_judge cX8_judge 5 .int 5 120 [.ref (md 0), .int p0] (W_md cI cZ md md_thrown md_text md_textSize md_place md_letter md_first md_second md_third md_side md_hang md_forms md_formMany md_seats md_now md_barAlways md_noPut md_far md_queue md_from md_by md_many md_is md_next md_rollSet md_rollAct md_rolls md_slots md_isKept) (S := Int32) (fun u => W_md cI cZ md u md_text md_textSize md_place md_letter md_first md_second md_third md_side md_hang md_forms md_formMany md_seats md_now md_barAlways md_noPut md_far md_queue md_from md_by md_many md_is md_next md_rollSet md_rollAct md_rolls md_slots md_isKept) (fun r u => post r u) := by
  refine mk_Mi (by decide +kernel) (Nat.le_of_ble_eq_true rfl) ?_
  intro Γ hl0 hD0 hC hR
  subst hl0
  subst hD0
  have hC : CX Γ cI cZ cX8_judge RX8 5 5 120 := hC
  show VV Γ (W_md cI cZ md md_thrown md_text md_textSize md_place md_letter md_first md_second md_third md_side md_hang md_forms md_formMany md_seats md_now md_barAlways md_noPut md_far md_queue md_from md_by md_many md_is md_next md_rollSet md_rollAct md_rolls md_slots md_isKept) [(0, .ref (md 0)), (1, .int p0)] 0 []
  have B_12 : ∀ (n : Nat) (md_thrown_1 : Int32) (x1_2 : Int32) (x2_3 : Int32) (x3_4 : Int32), wpL_X8_judge_12 md_forms md_formMany md_seats md_now md_barAlways md_noPut md_rollSet md_rollAct md_rolls  post n md_thrown_1 x1_2 x2_3 x3_4 → VV Γ (W_md cI cZ md md_thrown_1 md_text md_textSize md_place md_letter md_first md_second md_third md_side md_hang md_forms md_formMany md_seats md_now md_barAlways md_noPut md_far md_queue md_from md_by md_many md_is md_next md_rollSet md_rollAct md_rolls md_slots md_isKept) [(0, .ref (md 0)), (1, .int x1_2), (2, .int x2_3), (3, .int x3_4)] 12 [] := by
    intro  n
    induction n with
    | zero => intro md_thrown_1 x1_2 x2_3 x3_4 hm; rw [wpL_X8_judge_12] at hm; exact hm.elim
    | succ n ih =>
      intro md_thrown_1 x1_2 x2_3 x3_4 hm
      rw [wpL_X8_judge_12] at hm
      refine x_iload_n hC 3 dX8_judge_12 rfl ?_
      refine x_aload_n hC 0 dX8_judge_13 rfl ?_
      refine x_get hC 5 inX8g 0 rfl rfl 25 (by decide) fl_X8_234 rfl dX8_judge_14 ?_
      refine x_icmp_ge hC 73 dX8_judge_17 (by decide) (fun c_5 => ?_) (fun c_5 => ?_)
      · replace hm := hm.1 c_5
        refine x_bipush hC (-9 : Int32) dX8_judge_73 (by decide) ?_
        exact hR ((-9 : Int32)) md_thrown_1 [(0, .ref (md 0)), (1, .int x1_2), (2, .int x2_3), (3, .int x3_4)] 75 hm rfl dX8_judge_75
      · replace hm := hm.2 c_5
        refine x_aload_n hC 0 dX8_judge_20 rfl ?_
        refine x_iload_n hC 2 dX8_judge_21 rfl ?_
        refine x_aload_n hC 0 dX8_judge_22 rfl ?_
        refine x_get hC 5 inX8g 0 rfl rfl 23 (by decide) fl_X8_48 rfl dX8_judge_23 ?_
        refine x_iload_n hC 3 dX8_judge_26 rfl ?_
        refine x_iald hC 11 rfl hm.1 dX8_judge_27 ?_
        replace hm := hm.2
        refine x_aload_n hC 0 dX8_judge_28 rfl ?_
        refine x_get hC 5 inX8g 0 rfl rfl 24 (by decide) fl_X8_51 rfl dX8_judge_29 ?_
        refine x_iload_n hC 3 dX8_judge_32 rfl ?_
        refine x_iald hC 12 rfl hm.1 dX8_judge_33 ?_
        replace hm := hm.2
        refine x_callVi hC _ [0, 1, 2, 3, 4, 5, 6, 7, 8, 9, 10, 11, 12, 13, 14] [] [0, 1, 2, 3, 4, 5, 6, 7, 8, 9, 10, 11, 12, 13, 14] (([] : va_W)) (fun _ => W_md cI cZ md md_thrown_1 md_text md_textSize md_place md_letter md_first md_second md_third md_side md_hang md_forms md_formMany md_seats md_now md_barAlways md_noPut md_far md_queue md_from md_by md_many md_is md_next md_rollSet md_rollAct md_rolls md_slots md_isKept) ok_X8_whyNot ml_X8_186 0 5 (c_X8_whyNot (gl Γ) (gD Γ) cI cZ md md_thrown_1 md_text md_textSize md_place md_letter md_first md_second md_third md_side md_hang md_forms md_formMany md_seats md_now md_barAlways md_noPut md_far md_queue md_from md_by md_many md_is md_next md_rollSet md_rollAct md_rolls md_slots md_isKept x2_3 (md_rollSet x3_4.toNatClampNeg) (md_rollAct x3_4.toNatClampNeg) _ hm) (by decide) (by decide) rfl (Nat.le_of_ble_eq_true rfl) rfl rfl rfl rfl (by decide) rfl (fun _ => rfl) rfl rfl rfl rfl dX8_judge_34 ?_
        rintro r_6 _ hm
        refine x_istore hC [(0, .ref (md 0)), (1, .int x1_2), (2, .int x2_3), (3, .int x3_4), (4, .int r_6)] [1, 2, 3, 4, 0] dX8_judge_37 (by decide) rfl ?_
        refine x_iload hC 4 dX8_judge_39 rfl ?_
        refine x_if_eq hC 55 dX8_judge_41 (by decide) (fun c_7 => ?_) (fun c_7 => ?_)
        · replace hm := hm.1 c_7
          refine x_aload_n hC 0 dX8_judge_55 rfl ?_
          refine x_iload_n hC 2 dX8_judge_56 rfl ?_
          refine x_aload_n hC 0 dX8_judge_57 rfl ?_
          refine x_get hC 5 inX8g 0 rfl rfl 24 (by decide) fl_X8_51 rfl dX8_judge_58 ?_
          refine x_iload_n hC 3 dX8_judge_61 rfl ?_
          refine x_iald hC 12 rfl hm.1 dX8_judge_62 ?_
          replace hm := hm.2
          refine x_callVi hC _ [0, 1, 2, 3, 4, 5, 6, 7, 8, 9, 10, 11, 12, 13, 14] [] [0, 1, 2, 3, 4, 5, 6, 7, 8, 9, 10, 11, 12, 13, 14] (([] : va_W)) (fun _ => W_md cI cZ md md_thrown_1 md_text md_textSize md_place md_letter md_first md_second md_third md_side md_hang md_forms md_formMany md_seats md_now md_barAlways md_noPut md_far md_queue md_from md_by md_many md_is md_next md_rollSet md_rollAct md_rolls md_slots md_isKept) ok_X8_done ml_X8_183 0 5 (c_X8_done (gl Γ) (gD Γ) cI cZ md md_thrown_1 md_text md_textSize md_place md_letter md_first md_second md_third md_side md_hang md_forms md_formMany md_seats md_now md_barAlways md_noPut md_far md_queue md_from md_by md_many md_is md_next md_rollSet md_rollAct md_rolls md_slots md_isKept x2_3 (md_rollAct x3_4.toNatClampNeg) _ hm) (by decide) (by decide) rfl (Nat.le_of_ble_eq_true rfl) rfl rfl rfl rfl (by decide) rfl (fun _ => rfl) rfl rfl rfl rfl dX8_judge_63 ?_
          rintro r_8 _ hm
          refine x_istore_n hC [(0, .ref (md 0)), (1, .int x1_2), (2, .int r_8), (3, .int x3_4), (4, .int r_6)] [1, 2, 0, 3, 4] dX8_judge_66 (by decide) rfl ?_
          obtain ⟨x3_9, ex3_9⟩ : ∃ y : Int32, y = x3_4 + (1 : Int32) := ⟨_, rfl⟩
          replace hm := hm x3_9 ex3_9
          refine x_iinc hC 3 x3_9 [(0, .ref (md 0)), (1, .int x1_2), (2, .int r_8), (3, .int x3_9), (4, .int r_6)] [1, 2, 3, 0, 4] dX8_judge_67 rfl (by rw [ex3_9]; rfl) (by decide) rfl ?_
          refine x_goto hC 12 dX8_judge_70 (by decide) ?_
          refine x_lsub [0, 1, 2, 3] rfl ?_
          exact ih md_thrown_1 x1_2 r_8 x3_9 hm
        · replace hm := hm.2 c_7
          refine x_iload_n hC 1 dX8_judge_44 rfl ?_
          refine x_if_eq hC 53 dX8_judge_45 (by decide) (fun c_10 => ?_) (fun c_10 => ?_)
          · replace hm := hm.1 c_10
            refine x_iload_n hC 3 dX8_judge_53 rfl ?_
            exact hR x3_4 md_thrown_1 [(0, .ref (md 0)), (1, .int x1_2), (2, .int x2_3), (3, .int x3_4), (4, .int r_6)] 54 hm rfl dX8_judge_54
          · replace hm := hm.2 c_10
            refine x_iload hC 4 dX8_judge_48 rfl ?_
            refine x_goto hC 54 dX8_judge_50 (by decide) ?_
            exact hR r_6 md_thrown_1 [(0, .ref (md 0)), (1, .int x1_2), (2, .int x2_3), (3, .int x3_4), (4, .int r_6)] 54 hm rfl dX8_judge_54
  unfold wp_X8_judge at hm
  refine x_aload_n hC 0 dX8_judge_0 rfl ?_
  refine x_iconst hC (0 : Int32) dX8_judge_1 (by decide) ?_
  refine x_put hC 5 tyX8_ok nmX8 inX8g 0 rfl rfl 0 (by decide) fl_X8_60 rfl (ty := .int) (by decide +kernel) rfl rfl (Nat.le_of_ble_eq_true rfl) (W_md cI cZ md ((0 : Int32)) md_text md_textSize md_place md_letter md_first md_second md_third md_side md_hang md_forms md_formMany md_seats md_now md_barAlways md_noPut md_far md_queue md_from md_by md_many md_is md_next md_rollSet md_rollAct md_rolls md_slots md_isKept) rfl dX8_judge_2 ?_
  refine x_aload_n hC 0 dX8_judge_5 rfl ?_
  refine x_get hC 5 inX8g 0 rfl rfl 13 (by decide) fl_X8_140 rfl dX8_judge_6 ?_
  refine x_istore_n hC [(0, .ref (md 0)), (1, .int p0), (2, .int md_now)] [1, 2, 0] dX8_judge_9 (by decide) rfl ?_
  refine x_iconst hC (0 : Int32) dX8_judge_10 (by decide) ?_
  refine x_istore_n hC [(0, .ref (md 0)), (1, .int p0), (2, .int md_now), (3, .int ((0 : Int32)))] [1, 2, 3, 0] dX8_judge_11 (by decide) rfl ?_
  obtain ⟨n_11, hm⟩ := hm
  exact B_12  n_11 ((0 : Int32)) p0 md_now ((0 : Int32)) hm

def wpJ_X8_keep_33 (md_now : Int32)  (post : Int32 → Int32 → (Nat → Int32) → (Nat → Int32) → Prop) (md_thrown_4 : Int32) (md_slots_5 : Nat → Int32) (md_isKept_6 : Nat → Int32) (x1_7 : Int32) (s0_8 : Int32) : Prop := vp_in x1_7 3 ∧ ∀ md_isKept_9 : Nat → Int32, md_isKept_9 = upd md_isKept_6 x1_7.toNatClampNeg (vp_nar .boolean ((1 : Int32))) → vp_in x1_7 3 ∧ ∀ md_slots_10 : Nat → Int32, md_slots_10 = upd md_slots_5 x1_7.toNatClampNeg md_now → post s0_8 md_thrown_4 md_slots_10 md_isKept_9
def wp_X8_keep (md_thrown : Int32) (md_now : Int32) (md_slots : Nat → Int32) (md_isKept : Nat → Int32) (p0 : Int32) (post : Int32 → Int32 → (Nat → Int32) → (Nat → Int32) → Prop) : Prop := wp_X8_in  p0.toInt64 ((0 : Int64)) ((2 : Int64)) (fun (r_1 : Int32) => (¬ r_1 = 0 → vp_in p0 3 ∧ (((md_isKept p0.toNatClampNeg) = 0 → wpJ_X8_keep_33 md_now  post ((0 : Int32)) md_slots md_isKept p0 ((1 : Int32))) ∧ (¬ (md_isKept p0.toNatClampNeg) = 0 → wpJ_X8_keep_33 md_now  post ((0 : Int32)) md_slots md_isKept p0 ((0 : Int32))))) ∧ (r_1 = 0 → post ((-1 : Int32)) ((0 : Int32)) md_slots md_isKept))
set_option maxHeartbeats 4000000 in
set_option maxRecDepth 100000 in
theorem c_X8_keep (l : Launch) (D : va_G) (cI cZ : ClassId) (md : Nat → Nat) (md_thrown : Int32) (md_text : Nat → Int32) (md_textSize : Int32) (md_place : Int32) (md_letter : Int32) (md_first : Int32) (md_second : Int32) (md_third : Int32) (md_side : Int32) (md_hang : Int32) (md_forms : Nat → Int32) (md_formMany : Nat → Int32) (md_seats : Nat → Int32) (md_now : Int32) (md_barAlways : Int32) (md_noPut : Int32) (md_far : Nat → Int32) (md_queue : Nat → Int32) (md_from : Nat → Int32) (md_by : Nat → Int32) (md_many : Int32) (md_is : Nat → Int32) (md_next : Nat → Int32) (md_rollSet : Nat → Int32) (md_rollAct : Nat → Int32) (md_rolls : Int32) (md_slots : Nat → Int32) (md_isKept : Nat → Int32) (p0 : Int32) (post : Int32 → Int32 → (Nat → Int32) → (Nat → Int32) → Prop) (hm : wp_X8_keep md_thrown md_now md_slots md_isKept p0 post) : Mi l D cI cZ yX8_keep cX8_keep 3 .int 1 25 [.ref (md 0), .int p0] (W_md cI cZ md md_thrown md_text md_textSize md_place md_letter md_first md_second md_third md_side md_hang md_forms md_formMany md_seats md_now md_barAlways md_noPut md_far md_queue md_from md_by md_many md_is md_next md_rollSet md_rollAct md_rolls md_slots md_isKept) (S := Int32 × (Nat → Int32) × (Nat → Int32)) (fun u => W_md cI cZ md (u.1) md_text md_textSize md_place md_letter md_first md_second md_third md_side md_hang md_forms md_formMany md_seats md_now md_barAlways md_noPut md_far md_queue md_from md_by md_many md_is md_next md_rollSet md_rollAct md_rolls (u.2.1) (u.2.2)) (fun r u => post r u.1 u.2.1 u.2.2) := by
  refine mk_Mi (by decide +kernel) (Nat.le_of_ble_eq_true rfl) ?_
  intro Γ hl0 hD0 hC hR
  subst hl0
  subst hD0
  have hC : CX Γ cI cZ cX8_keep RX8 3 1 25 := hC
  show VV Γ (W_md cI cZ md md_thrown md_text md_textSize md_place md_letter md_first md_second md_third md_side md_hang md_forms md_formMany md_seats md_now md_barAlways md_noPut md_far md_queue md_from md_by md_many md_is md_next md_rollSet md_rollAct md_rolls md_slots md_isKept) [(0, .ref (md 0)), (1, .int p0)] 0 []
  have B_33 : ∀ (md_thrown_4 : Int32) (md_slots_5 : Nat → Int32) (md_isKept_6 : Nat → Int32) (x1_7 : Int32) (s0_8 : Int32), wpJ_X8_keep_33 md_now  post md_thrown_4 md_slots_5 md_isKept_6 x1_7 s0_8 → VV Γ (W_md cI cZ md md_thrown_4 md_text md_textSize md_place md_letter md_first md_second md_third md_side md_hang md_forms md_formMany md_seats md_now md_barAlways md_noPut md_far md_queue md_from md_by md_many md_is md_next md_rollSet md_rollAct md_rolls md_slots_5 md_isKept_6) [(0, .ref (md 0)), (1, .int x1_7)] 33 [.int s0_8] := by
    intro  md_thrown_4 md_slots_5 md_isKept_6 x1_7 s0_8 hm
    unfold wpJ_X8_keep_33 at hm
    refine x_istore_n hC [(0, .ref (md 0)), (1, .int x1_7), (2, .int s0_8)] [1, 2, 0] dX8_keep_33 (by decide) rfl ?_
    refine x_aload_n hC 0 dX8_keep_34 rfl ?_
    refine x_get hC 5 inX8g 0 rfl rfl 27 (by decide) fl_X8_57 rfl dX8_keep_35 ?_
    refine x_iload_n hC 1 dX8_keep_38 rfl ?_
    refine x_iconst hC (1 : Int32) dX8_keep_39 (by decide) ?_
    refine x_zastN hC 14 rfl hm.1 (fun md_isKept_9 => W_md cI cZ md md_thrown_4 md_text md_textSize md_place md_letter md_first md_second md_third md_side md_hang md_forms md_formMany md_seats md_now md_barAlways md_noPut md_far md_queue md_from md_by md_many md_is md_next md_rollSet md_rollAct md_rolls md_slots_5 md_isKept_9) (fun _ => rfl) dX8_keep_40 (fun md_isKept_9 emd_isKept_9 => ?_)
    replace hm := hm.2 md_isKept_9 emd_isKept_9
    refine x_aload_n hC 0 dX8_keep_41 rfl ?_
    refine x_get hC 5 inX8g 0 rfl rfl 26 (by decide) fl_X8_54 rfl dX8_keep_42 ?_
    refine x_iload_n hC 1 dX8_keep_45 rfl ?_
    refine x_aload_n hC 0 dX8_keep_46 rfl ?_
    refine x_get hC 5 inX8g 0 rfl rfl 13 (by decide) fl_X8_140 rfl dX8_keep_47 ?_
    refine x_iastN hC 13 rfl hm.1 (fun md_slots_10 => W_md cI cZ md md_thrown_4 md_text md_textSize md_place md_letter md_first md_second md_third md_side md_hang md_forms md_formMany md_seats md_now md_barAlways md_noPut md_far md_queue md_from md_by md_many md_is md_next md_rollSet md_rollAct md_rolls md_slots_10 md_isKept_9) (fun _ => rfl) dX8_keep_50 (fun md_slots_10 emd_slots_10 => ?_)
    replace hm := hm.2 md_slots_10 emd_slots_10
    refine x_iload_n hC 2 dX8_keep_51 rfl ?_
    exact hR s0_8 (md_thrown_4, md_slots_10, md_isKept_9) [(0, .ref (md 0)), (1, .int x1_7), (2, .int s0_8)] 52 hm rfl dX8_keep_52
  unfold wp_X8_keep at hm
  refine x_aload_n hC 0 dX8_keep_0 rfl ?_
  refine x_iconst hC (0 : Int32) dX8_keep_1 (by decide) ?_
  refine x_put hC 5 tyX8_ok nmX8 inX8g 0 rfl rfl 0 (by decide) fl_X8_60 rfl (ty := .int) (by decide +kernel) rfl rfl (Nat.le_of_ble_eq_true rfl) (W_md cI cZ md ((0 : Int32)) md_text md_textSize md_place md_letter md_first md_second md_third md_side md_hang md_forms md_formMany md_seats md_now md_barAlways md_noPut md_far md_queue md_from md_by md_many md_is md_next md_rollSet md_rollAct md_rolls md_slots md_isKept) rfl dX8_keep_2 ?_
  refine x_iload_n hC 1 dX8_keep_5 rfl ?_
  refine x_i2l hC dX8_keep_6 ?_
  refine x_lconst hC (0 : Int64) dX8_keep_7 (by decide) ?_
  refine x_ldc2 hC kl_X8_149 dX8_keep_8 ?_
  refine x_callSi hC _ [] [0, 1, 2, 3, 4, 5, 6, 7, 8, 9, 10, 11, 12, 13, 14] [0, 1, 2, 3, 4, 5, 6, 7, 8, 9, 10, 11, 12, 13, 14] (W_md cI cZ md ((0 : Int32)) md_text md_textSize md_place md_letter md_first md_second md_third md_side md_hang md_forms md_formMany md_seats md_now md_barAlways md_noPut md_far md_queue md_from md_by md_many md_is md_next md_rollSet md_rollAct md_rolls md_slots md_isKept) (fun _ => W_md cI cZ md ((0 : Int32)) md_text md_textSize md_place md_letter md_first md_second md_third md_side md_hang md_forms md_formMany md_seats md_now md_barAlways md_noPut md_far md_queue md_from md_by md_many md_is md_next md_rollSet md_rollAct md_rolls md_slots md_isKept) ok_X8_in ml_X8_65 (c_X8_in (gl Γ) (gD Γ) cI cZ   p0.toInt64 ((0 : Int64)) ((2 : Int64)) _ hm) (by decide) (by decide) rfl (Nat.le_of_ble_eq_true rfl) rfl rfl rfl rfl (by decide) rfl (fun _ => rfl) rfl dX8_keep_11 ?_
  rintro r_1 _ hm
  refine x_if_ne hC 19 dX8_keep_14 (by decide) (fun c_2 => ?_) (fun c_2 => ?_)
  · replace hm := hm.1 c_2
    refine x_aload_n hC 0 dX8_keep_19 rfl ?_
    refine x_get hC 5 inX8g 0 rfl rfl 27 (by decide) fl_X8_57 rfl dX8_keep_20 ?_
    refine x_iload_n hC 1 dX8_keep_23 rfl ?_
    refine x_zald hC 14 rfl hm.1 dX8_keep_24 ?_
    replace hm := hm.2
    refine x_if_eq hC 32 dX8_keep_25 (by decide) (fun c_3 => ?_) (fun c_3 => ?_)
    · replace hm := hm.1 c_3
      refine x_iconst hC (1 : Int32) dX8_keep_32 (by decide) ?_
      exact B_33   ((0 : Int32)) md_slots md_isKept p0 ((1 : Int32)) hm
    · replace hm := hm.2 c_3
      refine x_iconst hC (0 : Int32) dX8_keep_28 (by decide) ?_
      refine x_goto hC 33 dX8_keep_29 (by decide) ?_
      exact B_33   ((0 : Int32)) md_slots md_isKept p0 ((0 : Int32)) hm
  · replace hm := hm.2 c_2
    refine x_iconst hC (-1 : Int32) dX8_keep_17 (by decide) ?_
    exact hR ((-1 : Int32)) ((0 : Int32), md_slots, md_isKept) [(0, .ref (md 0)), (1, .int p0)] 18 hm rfl dX8_keep_18

def wp_X8_reach (md_thrown : Int32) (md_forms : Nat → Int32) (md_formMany : Nat → Int32) (md_seats : Nat → Int32) (md_now : Int32) (md_barAlways : Int32) (md_noPut : Int32) (md_far : Nat → Int32) (md_queue : Nat → Int32) (md_from : Nat → Int32) (md_by : Nat → Int32) (md_many : Int32) (p0 : Int32) (post : Int32 → Int32 → (Nat → Int32) → (Nat → Int32) → (Nat → Int32) → (Nat → Int32) → Int32 → Prop) : Prop := wp_X8_noSet  p0 (fun (r_1 : Int32) => (r_1 = 0 → wp_X8_wave md_forms md_formMany md_seats md_barAlways md_noPut md_far md_queue md_from md_by md_many md_now p0 p0 (fun (md_far_3 : Nat → Int32) (md_queue_4 : Nat → Int32) (md_from_5 : Nat → Int32) (md_by_6 : Nat → Int32) (md_many_7 : Int32) => post md_many_7 ((0 : Int32)) md_far_3 md_queue_4 md_from_5 md_by_6 md_many_7)) ∧ (¬ r_1 = 0 → post ((-2 : Int32)) ((0 : Int32)) md_far md_queue md_from md_by md_many))
set_option maxHeartbeats 4000000 in
set_option maxRecDepth 100000 in
theorem c_X8_reach (l : Launch) (D : va_G) (cI cZ : ClassId) (md : Nat → Nat) (md_thrown : Int32) (md_text : Nat → Int32) (md_textSize : Int32) (md_place : Int32) (md_letter : Int32) (md_first : Int32) (md_second : Int32) (md_third : Int32) (md_side : Int32) (md_hang : Int32) (md_forms : Nat → Int32) (md_formMany : Nat → Int32) (md_seats : Nat → Int32) (md_now : Int32) (md_barAlways : Int32) (md_noPut : Int32) (md_far : Nat → Int32) (md_queue : Nat → Int32) (md_from : Nat → Int32) (md_by : Nat → Int32) (md_many : Int32) (md_is : Nat → Int32) (md_next : Nat → Int32) (md_rollSet : Nat → Int32) (md_rollAct : Nat → Int32) (md_rolls : Int32) (md_slots : Nat → Int32) (md_isKept : Nat → Int32) (p0 : Int32) (post : Int32 → Int32 → (Nat → Int32) → (Nat → Int32) → (Nat → Int32) → (Nat → Int32) → Int32 → Prop) (hm : wp_X8_reach md_thrown md_forms md_formMany md_seats md_now md_barAlways md_noPut md_far md_queue md_from md_by md_many p0 post) : Mi l D cI cZ yX8_reach cX8_reach 2 .int 6 148 [.ref (md 0), .int p0] (W_md cI cZ md md_thrown md_text md_textSize md_place md_letter md_first md_second md_third md_side md_hang md_forms md_formMany md_seats md_now md_barAlways md_noPut md_far md_queue md_from md_by md_many md_is md_next md_rollSet md_rollAct md_rolls md_slots md_isKept) (S := Int32 × (Nat → Int32) × (Nat → Int32) × (Nat → Int32) × (Nat → Int32) × Int32) (fun u => W_md cI cZ md (u.1) md_text md_textSize md_place md_letter md_first md_second md_third md_side md_hang md_forms md_formMany md_seats md_now md_barAlways md_noPut (u.2.1) (u.2.2.1) (u.2.2.2.1) (u.2.2.2.2.1) (u.2.2.2.2.2) md_is md_next md_rollSet md_rollAct md_rolls md_slots md_isKept) (fun r u => post r u.1 u.2.1 u.2.2.1 u.2.2.2.1 u.2.2.2.2.1 u.2.2.2.2.2) := by
  refine mk_Mi (by decide +kernel) (Nat.le_of_ble_eq_true rfl) ?_
  intro Γ hl0 hD0 hC hR
  subst hl0
  subst hD0
  have hC : CX Γ cI cZ cX8_reach RX8 2 6 148 := hC
  show VV Γ (W_md cI cZ md md_thrown md_text md_textSize md_place md_letter md_first md_second md_third md_side md_hang md_forms md_formMany md_seats md_now md_barAlways md_noPut md_far md_queue md_from md_by md_many md_is md_next md_rollSet md_rollAct md_rolls md_slots md_isKept) [(0, .ref (md 0)), (1, .int p0)] 0 []
  unfold wp_X8_reach at hm
  refine x_aload_n hC 0 dX8_reach_0 rfl ?_
  refine x_iconst hC (0 : Int32) dX8_reach_1 (by decide) ?_
  refine x_put hC 5 tyX8_ok nmX8 inX8g 0 rfl rfl 0 (by decide) fl_X8_60 rfl (ty := .int) (by decide +kernel) rfl rfl (Nat.le_of_ble_eq_true rfl) (W_md cI cZ md ((0 : Int32)) md_text md_textSize md_place md_letter md_first md_second md_third md_side md_hang md_forms md_formMany md_seats md_now md_barAlways md_noPut md_far md_queue md_from md_by md_many md_is md_next md_rollSet md_rollAct md_rolls md_slots md_isKept) rfl dX8_reach_2 ?_
  refine x_iload_n hC 1 dX8_reach_5 rfl ?_
  refine x_callSi hC _ [] [0, 1, 2, 3, 4, 5, 6, 7, 8, 9, 10, 11, 12, 13, 14] [0, 1, 2, 3, 4, 5, 6, 7, 8, 9, 10, 11, 12, 13, 14] (W_md cI cZ md ((0 : Int32)) md_text md_textSize md_place md_letter md_first md_second md_third md_side md_hang md_forms md_formMany md_seats md_now md_barAlways md_noPut md_far md_queue md_from md_by md_many md_is md_next md_rollSet md_rollAct md_rolls md_slots md_isKept) (fun _ => W_md cI cZ md ((0 : Int32)) md_text md_textSize md_place md_letter md_first md_second md_third md_side md_hang md_forms md_formMany md_seats md_now md_barAlways md_noPut md_far md_queue md_from md_by md_many md_is md_next md_rollSet md_rollAct md_rolls md_slots md_isKept) ok_X8_noSet ml_X8_171 (c_X8_noSet (gl Γ) (gD Γ) cI cZ   p0 _ hm) (by decide) (by decide) rfl (Nat.le_of_ble_eq_true rfl) rfl rfl rfl rfl (by decide) rfl (fun _ => rfl) rfl dX8_reach_6 ?_
  rintro r_1 _ hm
  refine x_if_eq hC 15 dX8_reach_9 (by decide) (fun c_2 => ?_) (fun c_2 => ?_)
  · replace hm := hm.1 c_2
    refine x_aload_n hC 0 dX8_reach_15 rfl ?_
    refine x_aload_n hC 0 dX8_reach_16 rfl ?_
    refine x_get hC 5 inX8g 0 rfl rfl 13 (by decide) fl_X8_140 rfl dX8_reach_17 ?_
    refine x_iload_n hC 1 dX8_reach_20 rfl ?_
    refine x_iload_n hC 1 dX8_reach_21 rfl ?_
    refine x_callVv hC _ [0, 1, 2, 3, 4, 5, 6, 7, 8, 9, 10, 11, 12, 13, 14] [] [0, 1, 2, 3, 4, 5, 6, 7, 8, 9, 10, 11, 12, 13, 14] (([] : va_W)) (fun u => W_md cI cZ md ((0 : Int32)) md_text md_textSize md_place md_letter md_first md_second md_third md_side md_hang md_forms md_formMany md_seats md_now md_barAlways md_noPut (u.1) (u.2.1) (u.2.2.1) (u.2.2.2.1) (u.2.2.2.2) md_is md_next md_rollSet md_rollAct md_rolls md_slots md_isKept) ok_X8_wave ml_X8_198 0 5 (c_X8_wave (gl Γ) (gD Γ) cI cZ md ((0 : Int32)) md_text md_textSize md_place md_letter md_first md_second md_third md_side md_hang md_forms md_formMany md_seats md_now md_barAlways md_noPut md_far md_queue md_from md_by md_many md_is md_next md_rollSet md_rollAct md_rolls md_slots md_isKept md_now p0 p0 _ hm) (by decide) (by decide) rfl (Nat.le_of_ble_eq_true rfl) rfl rfl rfl rfl (by decide) rfl (fun _ => rfl) rfl rfl rfl rfl dX8_reach_22 ?_
    rintro ⟨md_far_3, md_queue_4, md_from_5, md_by_6, md_many_7⟩ hm
    refine x_aload_n hC 0 dX8_reach_25 rfl ?_
    refine x_get hC 5 inX8g 0 rfl rfl 20 (by decide) fl_X8_195 rfl dX8_reach_26 ?_
    exact hR md_many_7 ((0 : Int32), md_far_3, md_queue_4, md_from_5, md_by_6, md_many_7) [(0, .ref (md 0)), (1, .int p0)] 29 hm rfl dX8_reach_29
  · replace hm := hm.2 c_2
    refine x_bipush hC (-2 : Int32) dX8_reach_12 (by decide) ?_
    exact hR ((-2 : Int32)) ((0 : Int32), md_far, md_queue, md_from, md_by, md_many) [(0, .ref (md 0)), (1, .int p0)] 14 hm rfl dX8_reach_14

def wpL_X8_remedy_28 (md_forms : Nat → Int32) (md_formMany : Nat → Int32) (md_seats : Nat → Int32) (md_now : Int32) (md_noPut : Int32)  (post : Int32 → Int32 → Int32 → (Nat → Int32) → (Nat → Int32) → (Nat → Int32) → (Nat → Int32) → Int32 → Prop) : Nat → Int32 → Int32 → (Nat → Int32) → (Nat → Int32) → (Nat → Int32) → (Nat → Int32) → Int32 → Int32 → Int32 → Int32 → Int32 → Prop
  | 0, _, _, _, _, _, _, _, _, _, _, _ => False
  | n + 1, md_thrown_5, md_barAlways_6, md_far_7, md_queue_8, md_from_9, md_by_10, md_many_11, x1_12, x2_13, x3_14, x4_15 => (((5 : Int32)) ≤ x4_15 → post x3_14 md_thrown_5 ((-9 : Int32)) md_far_7 md_queue_8 md_from_9 md_by_10 md_many_11) ∧ (¬ ((5 : Int32)) ≤ x4_15 → (¬ x3_14 = ((-9 : Int32)) → post x3_14 md_thrown_5 ((-9 : Int32)) md_far_7 md_queue_8 md_from_9 md_by_10 md_many_11) ∧ (x3_14 = ((-9 : Int32)) → wp_X8_holds md_forms md_formMany md_seats x4_15 md_noPut md_far_7 md_queue_8 md_from_9 md_by_10 md_many_11 md_now x1_12 x2_13 (fun (r_23 : Int32) (md_far_18 : Nat → Int32) (md_queue_19 : Nat → Int32) (md_from_20 : Nat → Int32) (md_by_21 : Nat → Int32) (md_many_22 : Int32) => (r_23 = 0 → ∀ x4_25 : Int32, x4_25 = x4_15 + (1 : Int32) → (wpL_X8_remedy_28 md_forms md_formMany md_seats md_now md_noPut  post n) md_thrown_5 x4_15 md_far_18 md_queue_19 md_from_20 md_by_21 md_many_22 x1_12 x2_13 ((-9 : Int32)) x4_25) ∧ (¬ r_23 = 0 → ∀ x4_26 : Int32, x4_26 = x4_15 + (1 : Int32) → (wpL_X8_remedy_28 md_forms md_formMany md_seats md_now md_noPut  post n) md_thrown_5 x4_15 md_far_18 md_queue_19 md_from_20 md_by_21 md_many_22 x1_12 x2_13 x4_15 x4_26))))
def wp_X8_remedy (md_thrown : Int32) (md_forms : Nat → Int32) (md_formMany : Nat → Int32) (md_seats : Nat → Int32) (md_now : Int32) (md_barAlways : Int32) (md_noPut : Int32) (md_far : Nat → Int32) (md_queue : Nat → Int32) (md_from : Nat → Int32) (md_by : Nat → Int32) (md_many : Int32) (p0 : Int32) (p1 : Int32) (post : Int32 → Int32 → Int32 → (Nat → Int32) → (Nat → Int32) → (Nat → Int32) → (Nat → Int32) → Int32 → Prop) : Prop := wp_X8_noSet  p0 (fun (r_1 : Int32) => (¬ r_1 = 0 → post ((-2 : Int32)) ((0 : Int32)) md_barAlways md_far md_queue md_from md_by md_many) ∧ (r_1 = 0 → wp_X8_noGoal  p1 (fun (r_3 : Int32) => (r_3 = 0 → ∃ k28, wpL_X8_remedy_28 md_forms md_formMany md_seats md_now md_noPut  post k28 ((0 : Int32)) md_barAlways md_far md_queue md_from md_by md_many p0 p1 ((-9 : Int32)) ((0 : Int32))) ∧ (¬ r_3 = 0 → post ((-2 : Int32)) ((0 : Int32)) md_barAlways md_far md_queue md_from md_by md_many))))
set_option maxHeartbeats 4000000 in
set_option maxRecDepth 100000 in
theorem c_X8_remedy (l : Launch) (D : va_G) (cI cZ : ClassId) (md : Nat → Nat) (md_thrown : Int32) (md_text : Nat → Int32) (md_textSize : Int32) (md_place : Int32) (md_letter : Int32) (md_first : Int32) (md_second : Int32) (md_third : Int32) (md_side : Int32) (md_hang : Int32) (md_forms : Nat → Int32) (md_formMany : Nat → Int32) (md_seats : Nat → Int32) (md_now : Int32) (md_barAlways : Int32) (md_noPut : Int32) (md_far : Nat → Int32) (md_queue : Nat → Int32) (md_from : Nat → Int32) (md_by : Nat → Int32) (md_many : Int32) (md_is : Nat → Int32) (md_next : Nat → Int32) (md_rollSet : Nat → Int32) (md_rollAct : Nat → Int32) (md_rolls : Int32) (md_slots : Nat → Int32) (md_isKept : Nat → Int32) (p0 : Int32) (p1 : Int32) (post : Int32 → Int32 → Int32 → (Nat → Int32) → (Nat → Int32) → (Nat → Int32) → (Nat → Int32) → Int32 → Prop) (hm : wp_X8_remedy md_thrown md_forms md_formMany md_seats md_now md_barAlways md_noPut md_far md_queue md_from md_by md_many p0 p1 post) : Mi l D cI cZ yX8_remedy cX8_remedy 5 .int 7 171 [.ref (md 0), .int p0, .int p1] (W_md cI cZ md md_thrown md_text md_textSize md_place md_letter md_first md_second md_third md_side md_hang md_forms md_formMany md_seats md_now md_barAlways md_noPut md_far md_queue md_from md_by md_many md_is md_next md_rollSet md_rollAct md_rolls md_slots md_isKept) (S := Int32 × Int32 × (Nat → Int32) × (Nat → Int32) × (Nat → Int32) × (Nat → Int32) × Int32) (fun u => W_md cI cZ md (u.1) md_text md_textSize md_place md_letter md_first md_second md_third md_side md_hang md_forms md_formMany md_seats md_now (u.2.1) md_noPut (u.2.2.1) (u.2.2.2.1) (u.2.2.2.2.1) (u.2.2.2.2.2.1) (u.2.2.2.2.2.2) md_is md_next md_rollSet md_rollAct md_rolls md_slots md_isKept) (fun r u => post r u.1 u.2.1 u.2.2.1 u.2.2.2.1 u.2.2.2.2.1 u.2.2.2.2.2.1 u.2.2.2.2.2.2) := by
  refine mk_Mi (by decide +kernel) (Nat.le_of_ble_eq_true rfl) ?_
  intro Γ hl0 hD0 hC hR
  subst hl0
  subst hD0
  have hC : CX Γ cI cZ cX8_remedy RX8 5 7 171 := hC
  show VV Γ (W_md cI cZ md md_thrown md_text md_textSize md_place md_letter md_first md_second md_third md_side md_hang md_forms md_formMany md_seats md_now md_barAlways md_noPut md_far md_queue md_from md_by md_many md_is md_next md_rollSet md_rollAct md_rolls md_slots md_isKept) [(0, .ref (md 0)), (1, .int p0), (2, .int p1)] 0 []
  have B_28 : ∀ (n : Nat) (md_thrown_5 : Int32) (md_barAlways_6 : Int32) (md_far_7 : Nat → Int32) (md_queue_8 : Nat → Int32) (md_from_9 : Nat → Int32) (md_by_10 : Nat → Int32) (md_many_11 : Int32) (x1_12 : Int32) (x2_13 : Int32) (x3_14 : Int32) (x4_15 : Int32), wpL_X8_remedy_28 md_forms md_formMany md_seats md_now md_noPut  post n md_thrown_5 md_barAlways_6 md_far_7 md_queue_8 md_from_9 md_by_10 md_many_11 x1_12 x2_13 x3_14 x4_15 → VV Γ (W_md cI cZ md md_thrown_5 md_text md_textSize md_place md_letter md_first md_second md_third md_side md_hang md_forms md_formMany md_seats md_now md_barAlways_6 md_noPut md_far_7 md_queue_8 md_from_9 md_by_10 md_many_11 md_is md_next md_rollSet md_rollAct md_rolls md_slots md_isKept) [(0, .ref (md 0)), (1, .int x1_12), (2, .int x2_13), (3, .int x3_14), (4, .int x4_15)] 28 [] := by
    intro  n
    induction n with
    | zero => intro md_thrown_5 md_barAlways_6 md_far_7 md_queue_8 md_from_9 md_by_10 md_many_11 x1_12 x2_13 x3_14 x4_15 hm; rw [wpL_X8_remedy_28] at hm; exact hm.elim
    | succ n ih =>
      intro md_thrown_5 md_barAlways_6 md_far_7 md_queue_8 md_from_9 md_by_10 md_many_11 x1_12 x2_13 x3_14 x4_15 hm
      rw [wpL_X8_remedy_28] at hm
      refine x_iload hC 4 dX8_remedy_28 rfl ?_
      refine x_iconst hC (5 : Int32) dX8_remedy_30 (by decide) ?_
      refine x_icmp_ge hC 73 dX8_remedy_31 (by decide) (fun c_16 => ?_) (fun c_16 => ?_)
      · replace hm := hm.1 c_16
        refine x_aload_n hC 0 dX8_remedy_73 rfl ?_
        refine x_bipush hC (-9 : Int32) dX8_remedy_74 (by decide) ?_
        refine x_put hC 5 tyX8_ok nmX8 inX8g 0 rfl rfl 14 (by decide) fl_X8_22 rfl (ty := .int) (by decide +kernel) rfl rfl (Nat.le_of_ble_eq_true rfl) (W_md cI cZ md md_thrown_5 md_text md_textSize md_place md_letter md_first md_second md_third md_side md_hang md_forms md_formMany md_seats md_now ((-9 : Int32)) md_noPut md_far_7 md_queue_8 md_from_9 md_by_10 md_many_11 md_is md_next md_rollSet md_rollAct md_rolls md_slots md_isKept) rfl dX8_remedy_76 ?_
        refine x_iload_n hC 3 dX8_remedy_79 rfl ?_
        exact hR x3_14 (md_thrown_5, (-9 : Int32), md_far_7, md_queue_8, md_from_9, md_by_10, md_many_11) [(0, .ref (md 0)), (1, .int x1_12), (2, .int x2_13), (3, .int x3_14), (4, .int x4_15)] 80 hm rfl dX8_remedy_80
      · replace hm := hm.2 c_16
        refine x_iload_n hC 3 dX8_remedy_34 rfl ?_
        refine x_bipush hC (-9 : Int32) dX8_remedy_35 (by decide) ?_
        refine x_icmp_ne hC 73 dX8_remedy_37 (by decide) (fun c_17 => ?_) (fun c_17 => ?_)
        · replace hm := hm.1 c_17
          refine x_aload_n hC 0 dX8_remedy_73 rfl ?_
          refine x_bipush hC (-9 : Int32) dX8_remedy_74 (by decide) ?_
          refine x_put hC 5 tyX8_ok nmX8 inX8g 0 rfl rfl 14 (by decide) fl_X8_22 rfl (ty := .int) (by decide +kernel) rfl rfl (Nat.le_of_ble_eq_true rfl) (W_md cI cZ md md_thrown_5 md_text md_textSize md_place md_letter md_first md_second md_third md_side md_hang md_forms md_formMany md_seats md_now ((-9 : Int32)) md_noPut md_far_7 md_queue_8 md_from_9 md_by_10 md_many_11 md_is md_next md_rollSet md_rollAct md_rolls md_slots md_isKept) rfl dX8_remedy_76 ?_
          refine x_iload_n hC 3 dX8_remedy_79 rfl ?_
          exact hR x3_14 (md_thrown_5, (-9 : Int32), md_far_7, md_queue_8, md_from_9, md_by_10, md_many_11) [(0, .ref (md 0)), (1, .int x1_12), (2, .int x2_13), (3, .int x3_14), (4, .int x4_15)] 80 hm rfl dX8_remedy_80
        · replace hm := hm.2 c_17
          refine x_aload_n hC 0 dX8_remedy_40 rfl ?_
          refine x_iload hC 4 dX8_remedy_41 rfl ?_
          refine x_put hC 5 tyX8_ok nmX8 inX8g 0 rfl rfl 14 (by decide) fl_X8_22 rfl (ty := .int) (by decide +kernel) rfl rfl (Nat.le_of_ble_eq_true rfl) (W_md cI cZ md md_thrown_5 md_text md_textSize md_place md_letter md_first md_second md_third md_side md_hang md_forms md_formMany md_seats md_now x4_15 md_noPut md_far_7 md_queue_8 md_from_9 md_by_10 md_many_11 md_is md_next md_rollSet md_rollAct md_rolls md_slots md_isKept) rfl dX8_remedy_43 ?_
          refine x_aload_n hC 0 dX8_remedy_46 rfl ?_
          refine x_aload_n hC 0 dX8_remedy_47 rfl ?_
          refine x_get hC 5 inX8g 0 rfl rfl 13 (by decide) fl_X8_140 rfl dX8_remedy_48 ?_
          refine x_iload_n hC 1 dX8_remedy_51 rfl ?_
          refine x_iload_n hC 2 dX8_remedy_52 rfl ?_
          refine x_callVi hC _ [0, 1, 2, 3, 4, 5, 6, 7, 8, 9, 10, 11, 12, 13, 14] [] [0, 1, 2, 3, 4, 5, 6, 7, 8, 9, 10, 11, 12, 13, 14] (([] : va_W)) (fun u => W_md cI cZ md md_thrown_5 md_text md_textSize md_place md_letter md_first md_second md_third md_side md_hang md_forms md_formMany md_seats md_now x4_15 md_noPut (u.1) (u.2.1) (u.2.2.1) (u.2.2.2.1) (u.2.2.2.2) md_is md_next md_rollSet md_rollAct md_rolls md_slots md_isKept) ok_X8_holds ml_X8_213 0 5 (c_X8_holds (gl Γ) (gD Γ) cI cZ md md_thrown_5 md_text md_textSize md_place md_letter md_first md_second md_third md_side md_hang md_forms md_formMany md_seats md_now x4_15 md_noPut md_far_7 md_queue_8 md_from_9 md_by_10 md_many_11 md_is md_next md_rollSet md_rollAct md_rolls md_slots md_isKept md_now x1_12 x2_13 _ hm) (by decide) (by decide) rfl (Nat.le_of_ble_eq_true rfl) rfl rfl rfl rfl (by decide) rfl (fun _ => rfl) rfl rfl rfl rfl dX8_remedy_53 ?_
          rintro r_23 ⟨md_far_18, md_queue_19, md_from_20, md_by_21, md_many_22⟩ hm
          refine x_if_eq hC 64 dX8_remedy_56 (by decide) (fun c_24 => ?_) (fun c_24 => ?_)
          · replace hm := hm.1 c_24
            refine x_bipush hC (-9 : Int32) dX8_remedy_64 (by decide) ?_
            refine x_istore_n hC [(0, .ref (md 0)), (1, .int x1_12), (2, .int x2_13), (3, .int ((-9 : Int32))), (4, .int x4_15)] [1, 2, 3, 0, 4] dX8_remedy_66 (by decide) rfl ?_
            obtain ⟨x4_25, ex4_25⟩ : ∃ y : Int32, y = x4_15 + (1 : Int32) := ⟨_, rfl⟩
            replace hm := hm x4_25 ex4_25
            refine x_iinc hC 4 x4_25 [(0, .ref (md 0)), (1, .int x1_12), (2, .int x2_13), (3, .int ((-9 : Int32))), (4, .int x4_25)] [1, 2, 3, 4, 0] dX8_remedy_67 rfl (by rw [ex4_25]; rfl) (by decide) rfl ?_
            refine x_goto hC 28 dX8_remedy_70 (by decide) ?_
            exact ih md_thrown_5 x4_15 md_far_18 md_queue_19 md_from_20 md_by_21 md_many_22 x1_12 x2_13 ((-9 : Int32)) x4_25 hm
          · replace hm := hm.2 c_24
            refine x_iload hC 4 dX8_remedy_59 rfl ?_
            refine x_goto hC 66 dX8_remedy_61 (by decide) ?_
            refine x_istore_n hC [(0, .ref (md 0)), (1, .int x1_12), (2, .int x2_13), (3, .int x4_15), (4, .int x4_15)] [1, 2, 3, 0, 4] dX8_remedy_66 (by decide) rfl ?_
            obtain ⟨x4_26, ex4_26⟩ : ∃ y : Int32, y = x4_15 + (1 : Int32) := ⟨_, rfl⟩
            replace hm := hm x4_26 ex4_26
            refine x_iinc hC 4 x4_26 [(0, .ref (md 0)), (1, .int x1_12), (2, .int x2_13), (3, .int x4_15), (4, .int x4_26)] [1, 2, 3, 4, 0] dX8_remedy_67 rfl (by rw [ex4_26]; rfl) (by decide) rfl ?_
            refine x_goto hC 28 dX8_remedy_70 (by decide) ?_
            exact ih md_thrown_5 x4_15 md_far_18 md_queue_19 md_from_20 md_by_21 md_many_22 x1_12 x2_13 x4_15 x4_26 hm
  unfold wp_X8_remedy at hm
  refine x_aload_n hC 0 dX8_remedy_0 rfl ?_
  refine x_iconst hC (0 : Int32) dX8_remedy_1 (by decide) ?_
  refine x_put hC 5 tyX8_ok nmX8 inX8g 0 rfl rfl 0 (by decide) fl_X8_60 rfl (ty := .int) (by decide +kernel) rfl rfl (Nat.le_of_ble_eq_true rfl) (W_md cI cZ md ((0 : Int32)) md_text md_textSize md_place md_letter md_first md_second md_third md_side md_hang md_forms md_formMany md_seats md_now md_barAlways md_noPut md_far md_queue md_from md_by md_many md_is md_next md_rollSet md_rollAct md_rolls md_slots md_isKept) rfl dX8_remedy_2 ?_
  refine x_iload_n hC 1 dX8_remedy_5 rfl ?_
  refine x_callSi hC _ [] [0, 1, 2, 3, 4, 5, 6, 7, 8, 9, 10, 11, 12, 13, 14] [0, 1, 2, 3, 4, 5, 6, 7, 8, 9, 10, 11, 12, 13, 14] (W_md cI cZ md ((0 : Int32)) md_text md_textSize md_place md_letter md_first md_second md_third md_side md_hang md_forms md_formMany md_seats md_now md_barAlways md_noPut md_far md_queue md_from md_by md_many md_is md_next md_rollSet md_rollAct md_rolls md_slots md_isKept) (fun _ => W_md cI cZ md ((0 : Int32)) md_text md_textSize md_place md_letter md_first md_second md_third md_side md_hang md_forms md_formMany md_seats md_now md_barAlways md_noPut md_far md_queue md_from md_by md_many md_is md_next md_rollSet md_rollAct md_rolls md_slots md_isKept) ok_X8_noSet ml_X8_171 (c_X8_noSet (gl Γ) (gD Γ) cI cZ   p0 _ hm) (by decide) (by decide) rfl (Nat.le_of_ble_eq_true rfl) rfl rfl rfl rfl (by decide) rfl (fun _ => rfl) rfl dX8_remedy_6 ?_
  rintro r_1 _ hm
  refine x_if_ne hC 19 dX8_remedy_9 (by decide) (fun c_2 => ?_) (fun c_2 => ?_)
  · replace hm := hm.1 c_2
    refine x_bipush hC (-2 : Int32) dX8_remedy_19 (by decide) ?_
    exact hR ((-2 : Int32)) ((0 : Int32), md_barAlways, md_far, md_queue, md_from, md_by, md_many) [(0, .ref (md 0)), (1, .int p0), (2, .int p1)] 21 hm rfl dX8_remedy_21
  · replace hm := hm.2 c_2
    refine x_iload_n hC 2 dX8_remedy_12 rfl ?_
    refine x_callSi hC _ [] [0, 1, 2, 3, 4, 5, 6, 7, 8, 9, 10, 11, 12, 13, 14] [0, 1, 2, 3, 4, 5, 6, 7, 8, 9, 10, 11, 12, 13, 14] (W_md cI cZ md ((0 : Int32)) md_text md_textSize md_place md_letter md_first md_second md_third md_side md_hang md_forms md_formMany md_seats md_now md_barAlways md_noPut md_far md_queue md_from md_by md_many md_is md_next md_rollSet md_rollAct md_rolls md_slots md_isKept) (fun _ => W_md cI cZ md ((0 : Int32)) md_text md_textSize md_place md_letter md_first md_second md_third md_side md_hang md_forms md_formMany md_seats md_now md_barAlways md_noPut md_far md_queue md_from md_by md_many md_is md_next md_rollSet md_rollAct md_rolls md_slots md_isKept) ok_X8_noGoal ml_X8_177 (c_X8_noGoal (gl Γ) (gD Γ) cI cZ   p1 _ hm) (by decide) (by decide) rfl (Nat.le_of_ble_eq_true rfl) rfl rfl rfl rfl (by decide) rfl (fun _ => rfl) rfl dX8_remedy_13 ?_
    rintro r_3 _ hm
    refine x_if_eq hC 22 dX8_remedy_16 (by decide) (fun c_4 => ?_) (fun c_4 => ?_)
    · replace hm := hm.1 c_4
      refine x_bipush hC (-9 : Int32) dX8_remedy_22 (by decide) ?_
      refine x_istore_n hC [(0, .ref (md 0)), (1, .int p0), (2, .int p1), (3, .int ((-9 : Int32)))] [1, 2, 3, 0] dX8_remedy_24 (by decide) rfl ?_
      refine x_iconst hC (0 : Int32) dX8_remedy_25 (by decide) ?_
      refine x_istore hC [(0, .ref (md 0)), (1, .int p0), (2, .int p1), (3, .int ((-9 : Int32))), (4, .int ((0 : Int32)))] [1, 2, 3, 4, 0] dX8_remedy_26 (by decide) rfl ?_
      obtain ⟨n_27, hm⟩ := hm
      exact B_28  n_27 ((0 : Int32)) md_barAlways md_far md_queue md_from md_by md_many p0 p1 ((-9 : Int32)) ((0 : Int32)) hm
    · replace hm := hm.2 c_4
      refine x_bipush hC (-2 : Int32) dX8_remedy_19 (by decide) ?_
      exact hR ((-2 : Int32)) ((0 : Int32), md_barAlways, md_far, md_queue, md_from, md_by, md_many) [(0, .ref (md 0)), (1, .int p0), (2, .int p1)] 21 hm rfl dX8_remedy_21

def wp_X8_roll (md_thrown : Int32) (md_rollSet : Nat → Int32) (md_rollAct : Nat → Int32) (md_rolls : Int32) (p0 : Int32) (p1 : Int32) (post : Int32 → Int32 → (Nat → Int32) → (Nat → Int32) → Int32 → Prop) : Prop := wp_X8_noSet  p0 (fun (r_1 : Int32) => (¬ r_1 = 0 → post ((-2 : Int32)) ((0 : Int32)) md_rollSet md_rollAct md_rolls) ∧ (r_1 = 0 → wp_X8_noAct  p1 (fun (r_3 : Int32) => (r_3 = 0 → (¬ md_rolls = ((20 : Int32)) → vp_in md_rolls 20 ∧ ∀ md_rollSet_6 : Nat → Int32, md_rollSet_6 = upd md_rollSet md_rolls.toNatClampNeg p0 → vp_in md_rolls 20 ∧ ∀ md_rollAct_7 : Nat → Int32, md_rollAct_7 = upd md_rollAct md_rolls.toNatClampNeg p1 → ∀ v_8 : Int32, v_8 = md_rolls + ((1 : Int32)) → post v_8 ((0 : Int32)) md_rollSet_6 md_rollAct_7 v_8) ∧ (md_rolls = ((20 : Int32)) → post ((-4 : Int32)) ((0 : Int32)) md_rollSet md_rollAct md_rolls)) ∧ (¬ r_3 = 0 → post ((-2 : Int32)) ((0 : Int32)) md_rollSet md_rollAct md_rolls))))
set_option maxHeartbeats 4000000 in
set_option maxRecDepth 100000 in
theorem c_X8_roll (l : Launch) (D : va_G) (cI cZ : ClassId) (md : Nat → Nat) (md_thrown : Int32) (md_text : Nat → Int32) (md_textSize : Int32) (md_place : Int32) (md_letter : Int32) (md_first : Int32) (md_second : Int32) (md_third : Int32) (md_side : Int32) (md_hang : Int32) (md_forms : Nat → Int32) (md_formMany : Nat → Int32) (md_seats : Nat → Int32) (md_now : Int32) (md_barAlways : Int32) (md_noPut : Int32) (md_far : Nat → Int32) (md_queue : Nat → Int32) (md_from : Nat → Int32) (md_by : Nat → Int32) (md_many : Int32) (md_is : Nat → Int32) (md_next : Nat → Int32) (md_rollSet : Nat → Int32) (md_rollAct : Nat → Int32) (md_rolls : Int32) (md_slots : Nat → Int32) (md_isKept : Nat → Int32) (p0 : Int32) (p1 : Int32) (post : Int32 → Int32 → (Nat → Int32) → (Nat → Int32) → Int32 → Prop) (hm : wp_X8_roll md_thrown md_rollSet md_rollAct md_rolls p0 p1 post) : Mi l D cI cZ yX8_roll cX8_roll 3 .int 2 45 [.ref (md 0), .int p0, .int p1] (W_md cI cZ md md_thrown md_text md_textSize md_place md_letter md_first md_second md_third md_side md_hang md_forms md_formMany md_seats md_now md_barAlways md_noPut md_far md_queue md_from md_by md_many md_is md_next md_rollSet md_rollAct md_rolls md_slots md_isKept) (S := Int32 × (Nat → Int32) × (Nat → Int32) × Int32) (fun u => W_md cI cZ md (u.1) md_text md_textSize md_place md_letter md_first md_second md_third md_side md_hang md_forms md_formMany md_seats md_now md_barAlways md_noPut md_far md_queue md_from md_by md_many md_is md_next (u.2.1) (u.2.2.1) (u.2.2.2) md_slots md_isKept) (fun r u => post r u.1 u.2.1 u.2.2.1 u.2.2.2) := by
  refine mk_Mi (by decide +kernel) (Nat.le_of_ble_eq_true rfl) ?_
  intro Γ hl0 hD0 hC hR
  subst hl0
  subst hD0
  have hC : CX Γ cI cZ cX8_roll RX8 3 2 45 := hC
  show VV Γ (W_md cI cZ md md_thrown md_text md_textSize md_place md_letter md_first md_second md_third md_side md_hang md_forms md_formMany md_seats md_now md_barAlways md_noPut md_far md_queue md_from md_by md_many md_is md_next md_rollSet md_rollAct md_rolls md_slots md_isKept) [(0, .ref (md 0)), (1, .int p0), (2, .int p1)] 0 []
  unfold wp_X8_roll at hm
  refine x_aload_n hC 0 dX8_roll_0 rfl ?_
  refine x_iconst hC (0 : Int32) dX8_roll_1 (by decide) ?_
  refine x_put hC 5 tyX8_ok nmX8 inX8g 0 rfl rfl 0 (by decide) fl_X8_60 rfl (ty := .int) (by decide +kernel) rfl rfl (Nat.le_of_ble_eq_true rfl) (W_md cI cZ md ((0 : Int32)) md_text md_textSize md_place md_letter md_first md_second md_third md_side md_hang md_forms md_formMany md_seats md_now md_barAlways md_noPut md_far md_queue md_from md_by md_many md_is md_next md_rollSet md_rollAct md_rolls md_slots md_isKept) rfl dX8_roll_2 ?_
  refine x_iload_n hC 1 dX8_roll_5 rfl ?_
  refine x_callSi hC _ [] [0, 1, 2, 3, 4, 5, 6, 7, 8, 9, 10, 11, 12, 13, 14] [0, 1, 2, 3, 4, 5, 6, 7, 8, 9, 10, 11, 12, 13, 14] (W_md cI cZ md ((0 : Int32)) md_text md_textSize md_place md_letter md_first md_second md_third md_side md_hang md_forms md_formMany md_seats md_now md_barAlways md_noPut md_far md_queue md_from md_by md_many md_is md_next md_rollSet md_rollAct md_rolls md_slots md_isKept) (fun _ => W_md cI cZ md ((0 : Int32)) md_text md_textSize md_place md_letter md_first md_second md_third md_side md_hang md_forms md_formMany md_seats md_now md_barAlways md_noPut md_far md_queue md_from md_by md_many md_is md_next md_rollSet md_rollAct md_rolls md_slots md_isKept) ok_X8_noSet ml_X8_171 (c_X8_noSet (gl Γ) (gD Γ) cI cZ   p0 _ hm) (by decide) (by decide) rfl (Nat.le_of_ble_eq_true rfl) rfl rfl rfl rfl (by decide) rfl (fun _ => rfl) rfl dX8_roll_6 ?_
  rintro r_1 _ hm
  refine x_if_ne hC 19 dX8_roll_9 (by decide) (fun c_2 => ?_) (fun c_2 => ?_)
  · replace hm := hm.1 c_2
    refine x_bipush hC (-2 : Int32) dX8_roll_19 (by decide) ?_
    exact hR ((-2 : Int32)) ((0 : Int32), md_rollSet, md_rollAct, md_rolls) [(0, .ref (md 0)), (1, .int p0), (2, .int p1)] 21 hm rfl dX8_roll_21
  · replace hm := hm.2 c_2
    refine x_iload_n hC 2 dX8_roll_12 rfl ?_
    refine x_callSi hC _ [] [0, 1, 2, 3, 4, 5, 6, 7, 8, 9, 10, 11, 12, 13, 14] [0, 1, 2, 3, 4, 5, 6, 7, 8, 9, 10, 11, 12, 13, 14] (W_md cI cZ md ((0 : Int32)) md_text md_textSize md_place md_letter md_first md_second md_third md_side md_hang md_forms md_formMany md_seats md_now md_barAlways md_noPut md_far md_queue md_from md_by md_many md_is md_next md_rollSet md_rollAct md_rolls md_slots md_isKept) (fun _ => W_md cI cZ md ((0 : Int32)) md_text md_textSize md_place md_letter md_first md_second md_third md_side md_hang md_forms md_formMany md_seats md_now md_barAlways md_noPut md_far md_queue md_from md_by md_many md_is md_next md_rollSet md_rollAct md_rolls md_slots md_isKept) ok_X8_noAct ml_X8_192 (c_X8_noAct (gl Γ) (gD Γ) cI cZ   p1 _ hm) (by decide) (by decide) rfl (Nat.le_of_ble_eq_true rfl) rfl rfl rfl rfl (by decide) rfl (fun _ => rfl) rfl dX8_roll_13 ?_
    rintro r_3 _ hm
    refine x_if_eq hC 22 dX8_roll_16 (by decide) (fun c_4 => ?_) (fun c_4 => ?_)
    · replace hm := hm.1 c_4
      refine x_aload_n hC 0 dX8_roll_22 rfl ?_
      refine x_get hC 5 inX8g 0 rfl rfl 25 (by decide) fl_X8_234 rfl dX8_roll_23 ?_
      refine x_bipush hC (20 : Int32) dX8_roll_26 (by decide) ?_
      refine x_icmp_ne hC 34 dX8_roll_28 (by decide) (fun c_5 => ?_) (fun c_5 => ?_)
      · replace hm := hm.1 c_5
        refine x_aload_n hC 0 dX8_roll_34 rfl ?_
        refine x_get hC 5 inX8g 0 rfl rfl 23 (by decide) fl_X8_48 rfl dX8_roll_35 ?_
        refine x_aload_n hC 0 dX8_roll_38 rfl ?_
        refine x_get hC 5 inX8g 0 rfl rfl 25 (by decide) fl_X8_234 rfl dX8_roll_39 ?_
        refine x_iload_n hC 1 dX8_roll_42 rfl ?_
        refine x_iastN hC 11 rfl hm.1 (fun md_rollSet_6 => W_md cI cZ md ((0 : Int32)) md_text md_textSize md_place md_letter md_first md_second md_third md_side md_hang md_forms md_formMany md_seats md_now md_barAlways md_noPut md_far md_queue md_from md_by md_many md_is md_next md_rollSet_6 md_rollAct md_rolls md_slots md_isKept) (fun _ => rfl) dX8_roll_43 (fun md_rollSet_6 emd_rollSet_6 => ?_)
        replace hm := hm.2 md_rollSet_6 emd_rollSet_6
        refine x_aload_n hC 0 dX8_roll_44 rfl ?_
        refine x_get hC 5 inX8g 0 rfl rfl 24 (by decide) fl_X8_51 rfl dX8_roll_45 ?_
        refine x_aload_n hC 0 dX8_roll_48 rfl ?_
        refine x_get hC 5 inX8g 0 rfl rfl 25 (by decide) fl_X8_234 rfl dX8_roll_49 ?_
        refine x_iload_n hC 2 dX8_roll_52 rfl ?_
        refine x_iastN hC 12 rfl hm.1 (fun md_rollAct_7 => W_md cI cZ md ((0 : Int32)) md_text md_textSize md_place md_letter md_first md_second md_third md_side md_hang md_forms md_formMany md_seats md_now md_barAlways md_noPut md_far md_queue md_from md_by md_many md_is md_next md_rollSet_6 md_rollAct_7 md_rolls md_slots md_isKept) (fun _ => rfl) dX8_roll_53 (fun md_rollAct_7 emd_rollAct_7 => ?_)
        replace hm := hm.2 md_rollAct_7 emd_rollAct_7
        refine x_aload_n hC 0 dX8_roll_54 rfl ?_
        refine x_dup hC dX8_roll_55 rfl ?_
        refine x_get hC 5 inX8g 0 rfl rfl 25 (by decide) fl_X8_234 rfl dX8_roll_56 ?_
        refine x_iconst hC (1 : Int32) dX8_roll_59 (by decide) ?_
        refine x_iadd hC dX8_roll_60 ?_
        refine x_top (fun v_8 ev_8 => ?_)
        replace hm := hm v_8 ev_8
        refine x_put hC 5 tyX8_ok nmX8 inX8g 0 rfl rfl 25 (by decide) fl_X8_234 rfl (ty := .int) (by decide +kernel) rfl rfl (Nat.le_of_ble_eq_true rfl) (W_md cI cZ md ((0 : Int32)) md_text md_textSize md_place md_letter md_first md_second md_third md_side md_hang md_forms md_formMany md_seats md_now md_barAlways md_noPut md_far md_queue md_from md_by md_many md_is md_next md_rollSet_6 md_rollAct_7 v_8 md_slots md_isKept) rfl dX8_roll_61 ?_
        refine x_aload_n hC 0 dX8_roll_64 rfl ?_
        refine x_get hC 5 inX8g 0 rfl rfl 25 (by decide) fl_X8_234 rfl dX8_roll_65 ?_
        exact hR v_8 ((0 : Int32), md_rollSet_6, md_rollAct_7, v_8) [(0, .ref (md 0)), (1, .int p0), (2, .int p1)] 68 hm rfl dX8_roll_68
      · replace hm := hm.2 c_5
        refine x_bipush hC (-4 : Int32) dX8_roll_31 (by decide) ?_
        exact hR ((-4 : Int32)) ((0 : Int32), md_rollSet, md_rollAct, md_rolls) [(0, .ref (md 0)), (1, .int p0), (2, .int p1)] 33 hm rfl dX8_roll_33
    · replace hm := hm.2 c_4
      refine x_bipush hC (-2 : Int32) dX8_roll_19 (by decide) ?_
      exact hR ((-2 : Int32)) ((0 : Int32), md_rollSet, md_rollAct, md_rolls) [(0, .ref (md 0)), (1, .int p0), (2, .int p1)] 21 hm rfl dX8_roll_21

def wp_X8_seats (md_thrown : Int32) (md_seats : Nat → Int32) (p0 : Int32) (p1 : Int32) (p2 : Int32) (post : Int32 → Int32 → (Nat → Int32) → Prop) : Prop := wp_X8_in  p0.toInt64 ((0 : Int64)) ((2 : Int64)) (fun (r_1 : Int32) => (r_1 = 0 → post ((-1 : Int32)) ((0 : Int32)) md_seats) ∧ (¬ r_1 = 0 → wp_X8_in  p1.toInt64 ((0 : Int64)) ((3 : Int64)) (fun (r_3 : Int32) => (¬ r_3 = 0 → wp_X8_in  p2.toInt64 ((0 : Int64)) ((99 : Int64)) (fun (r_5 : Int32) => (¬ r_5 = 0 → vp_in ((((4 : Int32)) * p0) + p1) 12 ∧ (∀ x4_7 : Int32, x4_7 = md_seats ((((4 : Int32)) * p0) + p1).toNatClampNeg → vp_in ((((4 : Int32)) * p0) + p1) 12 ∧ ∀ md_seats_8 : Nat → Int32, md_seats_8 = upd md_seats ((((4 : Int32)) * p0) + p1).toNatClampNeg p2 → post x4_7 ((0 : Int32)) md_seats_8)) ∧ (r_5 = 0 → post ((-2 : Int32)) ((0 : Int32)) md_seats))) ∧ (r_3 = 0 → post ((-1 : Int32)) ((0 : Int32)) md_seats))))
set_option maxHeartbeats 4000000 in
set_option maxRecDepth 100000 in
theorem c_X8_seats (l : Launch) (D : va_G) (cI cZ : ClassId) (md : Nat → Nat) (md_thrown : Int32) (md_text : Nat → Int32) (md_textSize : Int32) (md_place : Int32) (md_letter : Int32) (md_first : Int32) (md_second : Int32) (md_third : Int32) (md_side : Int32) (md_hang : Int32) (md_forms : Nat → Int32) (md_formMany : Nat → Int32) (md_seats : Nat → Int32) (md_now : Int32) (md_barAlways : Int32) (md_noPut : Int32) (md_far : Nat → Int32) (md_queue : Nat → Int32) (md_from : Nat → Int32) (md_by : Nat → Int32) (md_many : Int32) (md_is : Nat → Int32) (md_next : Nat → Int32) (md_rollSet : Nat → Int32) (md_rollAct : Nat → Int32) (md_rolls : Int32) (md_slots : Nat → Int32) (md_isKept : Nat → Int32) (p0 : Int32) (p1 : Int32) (p2 : Int32) (post : Int32 → Int32 → (Nat → Int32) → Prop) (hm : wp_X8_seats md_thrown md_seats p0 p1 p2 post) : Mi l D cI cZ yX8_seats cX8_seats 5 .int 1 25 [.ref (md 0), .int p0, .int p1, .int p2] (W_md cI cZ md md_thrown md_text md_textSize md_place md_letter md_first md_second md_third md_side md_hang md_forms md_formMany md_seats md_now md_barAlways md_noPut md_far md_queue md_from md_by md_many md_is md_next md_rollSet md_rollAct md_rolls md_slots md_isKept) (S := Int32 × (Nat → Int32)) (fun u => W_md cI cZ md (u.1) md_text md_textSize md_place md_letter md_first md_second md_third md_side md_hang md_forms md_formMany (u.2) md_now md_barAlways md_noPut md_far md_queue md_from md_by md_many md_is md_next md_rollSet md_rollAct md_rolls md_slots md_isKept) (fun r u => post r u.1 u.2) := by
  refine mk_Mi (by decide +kernel) (Nat.le_of_ble_eq_true rfl) ?_
  intro Γ hl0 hD0 hC hR
  subst hl0
  subst hD0
  have hC : CX Γ cI cZ cX8_seats RX8 5 1 25 := hC
  show VV Γ (W_md cI cZ md md_thrown md_text md_textSize md_place md_letter md_first md_second md_third md_side md_hang md_forms md_formMany md_seats md_now md_barAlways md_noPut md_far md_queue md_from md_by md_many md_is md_next md_rollSet md_rollAct md_rolls md_slots md_isKept) [(0, .ref (md 0)), (1, .int p0), (2, .int p1), (3, .int p2)] 0 []
  unfold wp_X8_seats at hm
  refine x_aload_n hC 0 dX8_seats_0 rfl ?_
  refine x_iconst hC (0 : Int32) dX8_seats_1 (by decide) ?_
  refine x_put hC 5 tyX8_ok nmX8 inX8g 0 rfl rfl 0 (by decide) fl_X8_60 rfl (ty := .int) (by decide +kernel) rfl rfl (Nat.le_of_ble_eq_true rfl) (W_md cI cZ md ((0 : Int32)) md_text md_textSize md_place md_letter md_first md_second md_third md_side md_hang md_forms md_formMany md_seats md_now md_barAlways md_noPut md_far md_queue md_from md_by md_many md_is md_next md_rollSet md_rollAct md_rolls md_slots md_isKept) rfl dX8_seats_2 ?_
  refine x_iload_n hC 1 dX8_seats_5 rfl ?_
  refine x_i2l hC dX8_seats_6 ?_
  refine x_lconst hC (0 : Int64) dX8_seats_7 (by decide) ?_
  refine x_ldc2 hC kl_X8_149 dX8_seats_8 ?_
  refine x_callSi hC _ [] [0, 1, 2, 3, 4, 5, 6, 7, 8, 9, 10, 11, 12, 13, 14] [0, 1, 2, 3, 4, 5, 6, 7, 8, 9, 10, 11, 12, 13, 14] (W_md cI cZ md ((0 : Int32)) md_text md_textSize md_place md_letter md_first md_second md_third md_side md_hang md_forms md_formMany md_seats md_now md_barAlways md_noPut md_far md_queue md_from md_by md_many md_is md_next md_rollSet md_rollAct md_rolls md_slots md_isKept) (fun _ => W_md cI cZ md ((0 : Int32)) md_text md_textSize md_place md_letter md_first md_second md_third md_side md_hang md_forms md_formMany md_seats md_now md_barAlways md_noPut md_far md_queue md_from md_by md_many md_is md_next md_rollSet md_rollAct md_rolls md_slots md_isKept) ok_X8_in ml_X8_65 (c_X8_in (gl Γ) (gD Γ) cI cZ   p0.toInt64 ((0 : Int64)) ((2 : Int64)) _ hm) (by decide) (by decide) rfl (Nat.le_of_ble_eq_true rfl) rfl rfl rfl rfl (by decide) rfl (fun _ => rfl) rfl dX8_seats_11 ?_
  rintro r_1 _ hm
  refine x_if_eq hC 29 dX8_seats_14 (by decide) (fun c_2 => ?_) (fun c_2 => ?_)
  · replace hm := hm.1 c_2
    refine x_iconst hC (-1 : Int32) dX8_seats_29 (by decide) ?_
    exact hR ((-1 : Int32)) ((0 : Int32), md_seats) [(0, .ref (md 0)), (1, .int p0), (2, .int p1), (3, .int p2)] 30 hm rfl dX8_seats_30
  · replace hm := hm.2 c_2
    refine x_iload_n hC 2 dX8_seats_17 rfl ?_
    refine x_i2l hC dX8_seats_18 ?_
    refine x_lconst hC (0 : Int64) dX8_seats_19 (by decide) ?_
    refine x_ldc2 hC kl_X8_151 dX8_seats_20 ?_
    refine x_callSi hC _ [] [0, 1, 2, 3, 4, 5, 6, 7, 8, 9, 10, 11, 12, 13, 14] [0, 1, 2, 3, 4, 5, 6, 7, 8, 9, 10, 11, 12, 13, 14] (W_md cI cZ md ((0 : Int32)) md_text md_textSize md_place md_letter md_first md_second md_third md_side md_hang md_forms md_formMany md_seats md_now md_barAlways md_noPut md_far md_queue md_from md_by md_many md_is md_next md_rollSet md_rollAct md_rolls md_slots md_isKept) (fun _ => W_md cI cZ md ((0 : Int32)) md_text md_textSize md_place md_letter md_first md_second md_third md_side md_hang md_forms md_formMany md_seats md_now md_barAlways md_noPut md_far md_queue md_from md_by md_many md_is md_next md_rollSet md_rollAct md_rolls md_slots md_isKept) ok_X8_in ml_X8_65 (c_X8_in (gl Γ) (gD Γ) cI cZ   p1.toInt64 ((0 : Int64)) ((3 : Int64)) _ hm) (by decide) (by decide) rfl (Nat.le_of_ble_eq_true rfl) rfl rfl rfl rfl (by decide) rfl (fun _ => rfl) rfl dX8_seats_23 ?_
    rintro r_3 _ hm
    refine x_if_ne hC 31 dX8_seats_26 (by decide) (fun c_4 => ?_) (fun c_4 => ?_)
    · replace hm := hm.1 c_4
      refine x_iload_n hC 3 dX8_seats_31 rfl ?_
      refine x_i2l hC dX8_seats_32 ?_
      refine x_lconst hC (0 : Int64) dX8_seats_33 (by decide) ?_
      refine x_ldc2 hC kl_X8_153 dX8_seats_34 ?_
      refine x_callSi hC _ [] [0, 1, 2, 3, 4, 5, 6, 7, 8, 9, 10, 11, 12, 13, 14] [0, 1, 2, 3, 4, 5, 6, 7, 8, 9, 10, 11, 12, 13, 14] (W_md cI cZ md ((0 : Int32)) md_text md_textSize md_place md_letter md_first md_second md_third md_side md_hang md_forms md_formMany md_seats md_now md_barAlways md_noPut md_far md_queue md_from md_by md_many md_is md_next md_rollSet md_rollAct md_rolls md_slots md_isKept) (fun _ => W_md cI cZ md ((0 : Int32)) md_text md_textSize md_place md_letter md_first md_second md_third md_side md_hang md_forms md_formMany md_seats md_now md_barAlways md_noPut md_far md_queue md_from md_by md_many md_is md_next md_rollSet md_rollAct md_rolls md_slots md_isKept) ok_X8_in ml_X8_65 (c_X8_in (gl Γ) (gD Γ) cI cZ   p2.toInt64 ((0 : Int64)) ((99 : Int64)) _ hm) (by decide) (by decide) rfl (Nat.le_of_ble_eq_true rfl) rfl rfl rfl rfl (by decide) rfl (fun _ => rfl) rfl dX8_seats_37 ?_
      rintro r_5 _ hm
      refine x_if_ne hC 46 dX8_seats_40 (by decide) (fun c_6 => ?_) (fun c_6 => ?_)
      · replace hm := hm.1 c_6
        refine x_aload_n hC 0 dX8_seats_46 rfl ?_
        refine x_get hC 5 inX8g 0 rfl rfl 12 (by decide) fl_X8_19 rfl dX8_seats_47 ?_
        refine x_iconst hC (4 : Int32) dX8_seats_50 (by decide) ?_
        refine x_iload_n hC 1 dX8_seats_51 rfl ?_
        refine x_imul hC dX8_seats_52 ?_
        refine x_iload_n hC 2 dX8_seats_53 rfl ?_
        refine x_iadd hC dX8_seats_54 ?_
        refine x_iald hC 4 rfl hm.1 dX8_seats_55 ?_
        replace hm := hm.2
        refine x_top (fun x4_7 ex4_7 => ?_)
        replace hm := hm x4_7 ex4_7
        refine x_istore hC [(0, .ref (md 0)), (1, .int p0), (2, .int p1), (3, .int p2), (4, .int x4_7)] [1, 2, 3, 4, 0] dX8_seats_56 (by decide) rfl ?_
        refine x_aload_n hC 0 dX8_seats_58 rfl ?_
        refine x_get hC 5 inX8g 0 rfl rfl 12 (by decide) fl_X8_19 rfl dX8_seats_59 ?_
        refine x_iconst hC (4 : Int32) dX8_seats_62 (by decide) ?_
        refine x_iload_n hC 1 dX8_seats_63 rfl ?_
        refine x_imul hC dX8_seats_64 ?_
        refine x_iload_n hC 2 dX8_seats_65 rfl ?_
        refine x_iadd hC dX8_seats_66 ?_
        refine x_iload_n hC 3 dX8_seats_67 rfl ?_
        refine x_iastN hC 4 rfl hm.1 (fun md_seats_8 => W_md cI cZ md ((0 : Int32)) md_text md_textSize md_place md_letter md_first md_second md_third md_side md_hang md_forms md_formMany md_seats_8 md_now md_barAlways md_noPut md_far md_queue md_from md_by md_many md_is md_next md_rollSet md_rollAct md_rolls md_slots md_isKept) (fun _ => rfl) dX8_seats_68 (fun md_seats_8 emd_seats_8 => ?_)
        replace hm := hm.2 md_seats_8 emd_seats_8
        refine x_iload hC 4 dX8_seats_69 rfl ?_
        exact hR x4_7 ((0 : Int32), md_seats_8) [(0, .ref (md 0)), (1, .int p0), (2, .int p1), (3, .int p2), (4, .int x4_7)] 71 hm rfl dX8_seats_71
      · replace hm := hm.2 c_6
        refine x_bipush hC (-2 : Int32) dX8_seats_43 (by decide) ?_
        exact hR ((-2 : Int32)) ((0 : Int32), md_seats) [(0, .ref (md 0)), (1, .int p0), (2, .int p1), (3, .int p2)] 45 hm rfl dX8_seats_45
    · replace hm := hm.2 c_4
      refine x_iconst hC (-1 : Int32) dX8_seats_29 (by decide) ?_
      exact hR ((-1 : Int32)) ((0 : Int32), md_seats) [(0, .ref (md 0)), (1, .int p0), (2, .int p1), (3, .int p2)] 30 hm rfl dX8_seats_30

def wp_X8_shortest (md_thrown : Int32) (md_forms : Nat → Int32) (md_formMany : Nat → Int32) (md_seats : Nat → Int32) (md_now : Int32) (md_barAlways : Int32) (md_noPut : Int32) (md_far : Nat → Int32) (md_queue : Nat → Int32) (md_from : Nat → Int32) (md_by : Nat → Int32) (md_many : Int32) (p0 : Int32) (p1 : Int32) (post : Int32 → Int32 → (Nat → Int32) → (Nat → Int32) → (Nat → Int32) → (Nat → Int32) → Int32 → Prop) : Prop := wp_X8_noSet  p0 (fun (r_1 : Int32) => (¬ r_1 = 0 → post ((-2 : Int32)) ((0 : Int32)) md_far md_queue md_from md_by md_many) ∧ (r_1 = 0 → wp_X8_noGoal  p1 (fun (r_3 : Int32) => (r_3 = 0 → wp_X8_wave md_forms md_formMany md_seats md_barAlways md_noPut md_far md_queue md_from md_by md_many md_now p0 p0 (fun (md_far_5 : Nat → Int32) (md_queue_6 : Nat → Int32) (md_from_7 : Nat → Int32) (md_by_8 : Nat → Int32) (md_many_9 : Int32) => wp_X8_firstSo md_queue_6 md_many_9 p1 (fun (r_10 : Int32) => (¬ r_10 = ((-9 : Int32)) → vp_in r_10 16384 ∧ (post (md_far_5 r_10.toNatClampNeg) ((0 : Int32)) md_far_5 md_queue_6 md_from_7 md_by_8 md_many_9)) ∧ (r_10 = ((-9 : Int32)) → post ((-9 : Int32)) ((0 : Int32)) md_far_5 md_queue_6 md_from_7 md_by_8 md_many_9)))) ∧ (¬ r_3 = 0 → post ((-2 : Int32)) ((0 : Int32)) md_far md_queue md_from md_by md_many))))
set_option maxHeartbeats 4000000 in
set_option maxRecDepth 100000 in
theorem c_X8_shortest (l : Launch) (D : va_G) (cI cZ : ClassId) (md : Nat → Nat) (md_thrown : Int32) (md_text : Nat → Int32) (md_textSize : Int32) (md_place : Int32) (md_letter : Int32) (md_first : Int32) (md_second : Int32) (md_third : Int32) (md_side : Int32) (md_hang : Int32) (md_forms : Nat → Int32) (md_formMany : Nat → Int32) (md_seats : Nat → Int32) (md_now : Int32) (md_barAlways : Int32) (md_noPut : Int32) (md_far : Nat → Int32) (md_queue : Nat → Int32) (md_from : Nat → Int32) (md_by : Nat → Int32) (md_many : Int32) (md_is : Nat → Int32) (md_next : Nat → Int32) (md_rollSet : Nat → Int32) (md_rollAct : Nat → Int32) (md_rolls : Int32) (md_slots : Nat → Int32) (md_isKept : Nat → Int32) (p0 : Int32) (p1 : Int32) (post : Int32 → Int32 → (Nat → Int32) → (Nat → Int32) → (Nat → Int32) → (Nat → Int32) → Int32 → Prop) (hm : wp_X8_shortest md_thrown md_forms md_formMany md_seats md_now md_barAlways md_noPut md_far md_queue md_from md_by md_many p0 p1 post) : Mi l D cI cZ yX8_shortest cX8_shortest 4 .int 6 148 [.ref (md 0), .int p0, .int p1] (W_md cI cZ md md_thrown md_text md_textSize md_place md_letter md_first md_second md_third md_side md_hang md_forms md_formMany md_seats md_now md_barAlways md_noPut md_far md_queue md_from md_by md_many md_is md_next md_rollSet md_rollAct md_rolls md_slots md_isKept) (S := Int32 × (Nat → Int32) × (Nat → Int32) × (Nat → Int32) × (Nat → Int32) × Int32) (fun u => W_md cI cZ md (u.1) md_text md_textSize md_place md_letter md_first md_second md_third md_side md_hang md_forms md_formMany md_seats md_now md_barAlways md_noPut (u.2.1) (u.2.2.1) (u.2.2.2.1) (u.2.2.2.2.1) (u.2.2.2.2.2) md_is md_next md_rollSet md_rollAct md_rolls md_slots md_isKept) (fun r u => post r u.1 u.2.1 u.2.2.1 u.2.2.2.1 u.2.2.2.2.1 u.2.2.2.2.2) := by
  refine mk_Mi (by decide +kernel) (Nat.le_of_ble_eq_true rfl) ?_
  intro Γ hl0 hD0 hC hR
  subst hl0
  subst hD0
  have hC : CX Γ cI cZ cX8_shortest RX8 4 6 148 := hC
  show VV Γ (W_md cI cZ md md_thrown md_text md_textSize md_place md_letter md_first md_second md_third md_side md_hang md_forms md_formMany md_seats md_now md_barAlways md_noPut md_far md_queue md_from md_by md_many md_is md_next md_rollSet md_rollAct md_rolls md_slots md_isKept) [(0, .ref (md 0)), (1, .int p0), (2, .int p1)] 0 []
  unfold wp_X8_shortest at hm
  refine x_aload_n hC 0 dX8_shortest_0 rfl ?_
  refine x_iconst hC (0 : Int32) dX8_shortest_1 (by decide) ?_
  refine x_put hC 5 tyX8_ok nmX8 inX8g 0 rfl rfl 0 (by decide) fl_X8_60 rfl (ty := .int) (by decide +kernel) rfl rfl (Nat.le_of_ble_eq_true rfl) (W_md cI cZ md ((0 : Int32)) md_text md_textSize md_place md_letter md_first md_second md_third md_side md_hang md_forms md_formMany md_seats md_now md_barAlways md_noPut md_far md_queue md_from md_by md_many md_is md_next md_rollSet md_rollAct md_rolls md_slots md_isKept) rfl dX8_shortest_2 ?_
  refine x_iload_n hC 1 dX8_shortest_5 rfl ?_
  refine x_callSi hC _ [] [0, 1, 2, 3, 4, 5, 6, 7, 8, 9, 10, 11, 12, 13, 14] [0, 1, 2, 3, 4, 5, 6, 7, 8, 9, 10, 11, 12, 13, 14] (W_md cI cZ md ((0 : Int32)) md_text md_textSize md_place md_letter md_first md_second md_third md_side md_hang md_forms md_formMany md_seats md_now md_barAlways md_noPut md_far md_queue md_from md_by md_many md_is md_next md_rollSet md_rollAct md_rolls md_slots md_isKept) (fun _ => W_md cI cZ md ((0 : Int32)) md_text md_textSize md_place md_letter md_first md_second md_third md_side md_hang md_forms md_formMany md_seats md_now md_barAlways md_noPut md_far md_queue md_from md_by md_many md_is md_next md_rollSet md_rollAct md_rolls md_slots md_isKept) ok_X8_noSet ml_X8_171 (c_X8_noSet (gl Γ) (gD Γ) cI cZ   p0 _ hm) (by decide) (by decide) rfl (Nat.le_of_ble_eq_true rfl) rfl rfl rfl rfl (by decide) rfl (fun _ => rfl) rfl dX8_shortest_6 ?_
  rintro r_1 _ hm
  refine x_if_ne hC 19 dX8_shortest_9 (by decide) (fun c_2 => ?_) (fun c_2 => ?_)
  · replace hm := hm.1 c_2
    refine x_bipush hC (-2 : Int32) dX8_shortest_19 (by decide) ?_
    exact hR ((-2 : Int32)) ((0 : Int32), md_far, md_queue, md_from, md_by, md_many) [(0, .ref (md 0)), (1, .int p0), (2, .int p1)] 21 hm rfl dX8_shortest_21
  · replace hm := hm.2 c_2
    refine x_iload_n hC 2 dX8_shortest_12 rfl ?_
    refine x_callSi hC _ [] [0, 1, 2, 3, 4, 5, 6, 7, 8, 9, 10, 11, 12, 13, 14] [0, 1, 2, 3, 4, 5, 6, 7, 8, 9, 10, 11, 12, 13, 14] (W_md cI cZ md ((0 : Int32)) md_text md_textSize md_place md_letter md_first md_second md_third md_side md_hang md_forms md_formMany md_seats md_now md_barAlways md_noPut md_far md_queue md_from md_by md_many md_is md_next md_rollSet md_rollAct md_rolls md_slots md_isKept) (fun _ => W_md cI cZ md ((0 : Int32)) md_text md_textSize md_place md_letter md_first md_second md_third md_side md_hang md_forms md_formMany md_seats md_now md_barAlways md_noPut md_far md_queue md_from md_by md_many md_is md_next md_rollSet md_rollAct md_rolls md_slots md_isKept) ok_X8_noGoal ml_X8_177 (c_X8_noGoal (gl Γ) (gD Γ) cI cZ   p1 _ hm) (by decide) (by decide) rfl (Nat.le_of_ble_eq_true rfl) rfl rfl rfl rfl (by decide) rfl (fun _ => rfl) rfl dX8_shortest_13 ?_
    rintro r_3 _ hm
    refine x_if_eq hC 22 dX8_shortest_16 (by decide) (fun c_4 => ?_) (fun c_4 => ?_)
    · replace hm := hm.1 c_4
      refine x_aload_n hC 0 dX8_shortest_22 rfl ?_
      refine x_aload_n hC 0 dX8_shortest_23 rfl ?_
      refine x_get hC 5 inX8g 0 rfl rfl 13 (by decide) fl_X8_140 rfl dX8_shortest_24 ?_
      refine x_iload_n hC 1 dX8_shortest_27 rfl ?_
      refine x_iload_n hC 1 dX8_shortest_28 rfl ?_
      refine x_callVv hC _ [0, 1, 2, 3, 4, 5, 6, 7, 8, 9, 10, 11, 12, 13, 14] [] [0, 1, 2, 3, 4, 5, 6, 7, 8, 9, 10, 11, 12, 13, 14] (([] : va_W)) (fun u => W_md cI cZ md ((0 : Int32)) md_text md_textSize md_place md_letter md_first md_second md_third md_side md_hang md_forms md_formMany md_seats md_now md_barAlways md_noPut (u.1) (u.2.1) (u.2.2.1) (u.2.2.2.1) (u.2.2.2.2) md_is md_next md_rollSet md_rollAct md_rolls md_slots md_isKept) ok_X8_wave ml_X8_198 0 5 (c_X8_wave (gl Γ) (gD Γ) cI cZ md ((0 : Int32)) md_text md_textSize md_place md_letter md_first md_second md_third md_side md_hang md_forms md_formMany md_seats md_now md_barAlways md_noPut md_far md_queue md_from md_by md_many md_is md_next md_rollSet md_rollAct md_rolls md_slots md_isKept md_now p0 p0 _ hm) (by decide) (by decide) rfl (Nat.le_of_ble_eq_true rfl) rfl rfl rfl rfl (by decide) rfl (fun _ => rfl) rfl rfl rfl rfl dX8_shortest_29 ?_
      rintro ⟨md_far_5, md_queue_6, md_from_7, md_by_8, md_many_9⟩ hm
      refine x_aload_n hC 0 dX8_shortest_32 rfl ?_
      refine x_iload_n hC 2 dX8_shortest_33 rfl ?_
      refine x_callVi hC _ [0, 1, 2, 3, 4, 5, 6, 7, 8, 9, 10, 11, 12, 13, 14] [] [0, 1, 2, 3, 4, 5, 6, 7, 8, 9, 10, 11, 12, 13, 14] (([] : va_W)) (fun _ => W_md cI cZ md ((0 : Int32)) md_text md_textSize md_place md_letter md_first md_second md_third md_side md_hang md_forms md_formMany md_seats md_now md_barAlways md_noPut md_far_5 md_queue_6 md_from_7 md_by_8 md_many_9 md_is md_next md_rollSet md_rollAct md_rolls md_slots md_isKept) ok_X8_firstSo ml_X8_206 0 5 (c_X8_firstSo (gl Γ) (gD Γ) cI cZ md ((0 : Int32)) md_text md_textSize md_place md_letter md_first md_second md_third md_side md_hang md_forms md_formMany md_seats md_now md_barAlways md_noPut md_far_5 md_queue_6 md_from_7 md_by_8 md_many_9 md_is md_next md_rollSet md_rollAct md_rolls md_slots md_isKept p1 _ hm) (by decide) (by decide) rfl (Nat.le_of_ble_eq_true rfl) rfl rfl rfl rfl (by decide) rfl (fun _ => rfl) rfl rfl rfl rfl dX8_shortest_34 ?_
      rintro r_10 _ hm
      refine x_istore_n hC [(0, .ref (md 0)), (1, .int p0), (2, .int p1), (3, .int r_10)] [1, 2, 3, 0] dX8_shortest_37 (by decide) rfl ?_
      refine x_iload_n hC 3 dX8_shortest_38 rfl ?_
      refine x_bipush hC (-9 : Int32) dX8_shortest_39 (by decide) ?_
      refine x_icmp_ne hC 49 dX8_shortest_41 (by decide) (fun c_11 => ?_) (fun c_11 => ?_)
      · replace hm := hm.1 c_11
        refine x_aload_n hC 0 dX8_shortest_49 rfl ?_
        refine x_get hC 5 inX8g 0 rfl rfl 16 (by decide) fl_X8_29 rfl dX8_shortest_50 ?_
        refine x_iload_n hC 3 dX8_shortest_53 rfl ?_
        refine x_iald hC 5 rfl hm.1 dX8_shortest_54 ?_
        replace hm := hm.2
        exact hR (md_far_5 r_10.toNatClampNeg) ((0 : Int32), md_far_5, md_queue_6, md_from_7, md_by_8, md_many_9) [(0, .ref (md 0)), (1, .int p0), (2, .int p1), (3, .int r_10)] 55 hm rfl dX8_shortest_55
      · replace hm := hm.2 c_11
        refine x_bipush hC (-9 : Int32) dX8_shortest_44 (by decide) ?_
        refine x_goto hC 55 dX8_shortest_46 (by decide) ?_
        exact hR ((-9 : Int32)) ((0 : Int32), md_far_5, md_queue_6, md_from_7, md_by_8, md_many_9) [(0, .ref (md 0)), (1, .int p0), (2, .int p1), (3, .int r_10)] 55 hm rfl dX8_shortest_55
    · replace hm := hm.2 c_4
      refine x_bipush hC (-2 : Int32) dX8_shortest_19 (by decide) ?_
      exact hR ((-2 : Int32)) ((0 : Int32), md_far, md_queue, md_from, md_by, md_many) [(0, .ref (md 0)), (1, .int p0), (2, .int p1)] 21 hm rfl dX8_shortest_21

def wp_X8_stand (md_thrown : Int32) (md_formMany : Nat → Int32) (md_now : Int32) (p0 : Int32) (p1 : Int32) (post : Int32 → Int32 → Int32 → Prop) : Prop := wp_X8_noClause  p0 (fun (r_1 : Int32) => (r_1 = 0 → vp_in p0 5 ∧ (wp_X8_in  p1.toInt64 ((0 : Int64)) ((md_formMany p0.toNatClampNeg).toInt64) (fun (r_3 : Int32) => (¬ r_3 = 0 → wp_X8_formOf  md_now p0 (fun (r_5 : Int32) => wp_X8_put  md_now p0 p1 (fun (r_6 : Int32) => post r_5 ((0 : Int32)) r_6))) ∧ (r_3 = 0 → post ((-2 : Int32)) ((0 : Int32)) md_now)))) ∧ (¬ r_1 = 0 → post ((-1 : Int32)) ((0 : Int32)) md_now))
set_option maxHeartbeats 4000000 in
set_option maxRecDepth 100000 in
theorem c_X8_stand (l : Launch) (D : va_G) (cI cZ : ClassId) (md : Nat → Nat) (md_thrown : Int32) (md_text : Nat → Int32) (md_textSize : Int32) (md_place : Int32) (md_letter : Int32) (md_first : Int32) (md_second : Int32) (md_third : Int32) (md_side : Int32) (md_hang : Int32) (md_forms : Nat → Int32) (md_formMany : Nat → Int32) (md_seats : Nat → Int32) (md_now : Int32) (md_barAlways : Int32) (md_noPut : Int32) (md_far : Nat → Int32) (md_queue : Nat → Int32) (md_from : Nat → Int32) (md_by : Nat → Int32) (md_many : Int32) (md_is : Nat → Int32) (md_next : Nat → Int32) (md_rollSet : Nat → Int32) (md_rollAct : Nat → Int32) (md_rolls : Int32) (md_slots : Nat → Int32) (md_isKept : Nat → Int32) (p0 : Int32) (p1 : Int32) (post : Int32 → Int32 → Int32 → Prop) (hm : wp_X8_stand md_thrown md_formMany md_now p0 p1 post) : Mi l D cI cZ yX8_stand cX8_stand 4 .int 2 45 [.ref (md 0), .int p0, .int p1] (W_md cI cZ md md_thrown md_text md_textSize md_place md_letter md_first md_second md_third md_side md_hang md_forms md_formMany md_seats md_now md_barAlways md_noPut md_far md_queue md_from md_by md_many md_is md_next md_rollSet md_rollAct md_rolls md_slots md_isKept) (S := Int32 × Int32) (fun u => W_md cI cZ md (u.1) md_text md_textSize md_place md_letter md_first md_second md_third md_side md_hang md_forms md_formMany md_seats (u.2) md_barAlways md_noPut md_far md_queue md_from md_by md_many md_is md_next md_rollSet md_rollAct md_rolls md_slots md_isKept) (fun r u => post r u.1 u.2) := by
  refine mk_Mi (by decide +kernel) (Nat.le_of_ble_eq_true rfl) ?_
  intro Γ hl0 hD0 hC hR
  subst hl0
  subst hD0
  have hC : CX Γ cI cZ cX8_stand RX8 4 2 45 := hC
  show VV Γ (W_md cI cZ md md_thrown md_text md_textSize md_place md_letter md_first md_second md_third md_side md_hang md_forms md_formMany md_seats md_now md_barAlways md_noPut md_far md_queue md_from md_by md_many md_is md_next md_rollSet md_rollAct md_rolls md_slots md_isKept) [(0, .ref (md 0)), (1, .int p0), (2, .int p1)] 0 []
  unfold wp_X8_stand at hm
  refine x_aload_n hC 0 dX8_stand_0 rfl ?_
  refine x_iconst hC (0 : Int32) dX8_stand_1 (by decide) ?_
  refine x_put hC 5 tyX8_ok nmX8 inX8g 0 rfl rfl 0 (by decide) fl_X8_60 rfl (ty := .int) (by decide +kernel) rfl rfl (Nat.le_of_ble_eq_true rfl) (W_md cI cZ md ((0 : Int32)) md_text md_textSize md_place md_letter md_first md_second md_third md_side md_hang md_forms md_formMany md_seats md_now md_barAlways md_noPut md_far md_queue md_from md_by md_many md_is md_next md_rollSet md_rollAct md_rolls md_slots md_isKept) rfl dX8_stand_2 ?_
  refine x_iload_n hC 1 dX8_stand_5 rfl ?_
  refine x_callSi hC _ [] [0, 1, 2, 3, 4, 5, 6, 7, 8, 9, 10, 11, 12, 13, 14] [0, 1, 2, 3, 4, 5, 6, 7, 8, 9, 10, 11, 12, 13, 14] (W_md cI cZ md ((0 : Int32)) md_text md_textSize md_place md_letter md_first md_second md_third md_side md_hang md_forms md_formMany md_seats md_now md_barAlways md_noPut md_far md_queue md_from md_by md_many md_is md_next md_rollSet md_rollAct md_rolls md_slots md_isKept) (fun _ => W_md cI cZ md ((0 : Int32)) md_text md_textSize md_place md_letter md_first md_second md_third md_side md_hang md_forms md_formMany md_seats md_now md_barAlways md_noPut md_far md_queue md_from md_by md_many md_is md_next md_rollSet md_rollAct md_rolls md_slots md_isKept) ok_X8_noClause ml_X8_137 (c_X8_noClause (gl Γ) (gD Γ) cI cZ   p0 _ hm) (by decide) (by decide) rfl (Nat.le_of_ble_eq_true rfl) rfl rfl rfl rfl (by decide) rfl (fun _ => rfl) rfl dX8_stand_6 ?_
  rintro r_1 _ hm
  refine x_if_eq hC 14 dX8_stand_9 (by decide) (fun c_2 => ?_) (fun c_2 => ?_)
  · replace hm := hm.1 c_2
    refine x_iload_n hC 2 dX8_stand_14 rfl ?_
    refine x_i2l hC dX8_stand_15 ?_
    refine x_lconst hC (0 : Int64) dX8_stand_16 (by decide) ?_
    refine x_aload_n hC 0 dX8_stand_17 rfl ?_
    refine x_get hC 5 inX8g 0 rfl rfl 11 (by decide) fl_X8_16 rfl dX8_stand_18 ?_
    refine x_iload_n hC 1 dX8_stand_21 rfl ?_
    refine x_iald hC 3 rfl hm.1 dX8_stand_22 ?_
    replace hm := hm.2
    refine x_i2l hC dX8_stand_23 ?_
    refine x_callSi hC _ [] [0, 1, 2, 3, 4, 5, 6, 7, 8, 9, 10, 11, 12, 13, 14] [0, 1, 2, 3, 4, 5, 6, 7, 8, 9, 10, 11, 12, 13, 14] (W_md cI cZ md ((0 : Int32)) md_text md_textSize md_place md_letter md_first md_second md_third md_side md_hang md_forms md_formMany md_seats md_now md_barAlways md_noPut md_far md_queue md_from md_by md_many md_is md_next md_rollSet md_rollAct md_rolls md_slots md_isKept) (fun _ => W_md cI cZ md ((0 : Int32)) md_text md_textSize md_place md_letter md_first md_second md_third md_side md_hang md_forms md_formMany md_seats md_now md_barAlways md_noPut md_far md_queue md_from md_by md_many md_is md_next md_rollSet md_rollAct md_rolls md_slots md_isKept) ok_X8_in ml_X8_65 (c_X8_in (gl Γ) (gD Γ) cI cZ   p1.toInt64 ((0 : Int64)) ((md_formMany p0.toNatClampNeg).toInt64) _ hm) (by decide) (by decide) rfl (Nat.le_of_ble_eq_true rfl) rfl rfl rfl rfl (by decide) rfl (fun _ => rfl) rfl dX8_stand_24 ?_
    rintro r_3 _ hm
    refine x_if_ne hC 33 dX8_stand_27 (by decide) (fun c_4 => ?_) (fun c_4 => ?_)
    · replace hm := hm.1 c_4
      refine x_aload_n hC 0 dX8_stand_33 rfl ?_
      refine x_get hC 5 inX8g 0 rfl rfl 13 (by decide) fl_X8_140 rfl dX8_stand_34 ?_
      refine x_iload_n hC 1 dX8_stand_37 rfl ?_
      refine x_callSi hC _ [] [0, 1, 2, 3, 4, 5, 6, 7, 8, 9, 10, 11, 12, 13, 14] [0, 1, 2, 3, 4, 5, 6, 7, 8, 9, 10, 11, 12, 13, 14] (W_md cI cZ md ((0 : Int32)) md_text md_textSize md_place md_letter md_first md_second md_third md_side md_hang md_forms md_formMany md_seats md_now md_barAlways md_noPut md_far md_queue md_from md_by md_many md_is md_next md_rollSet md_rollAct md_rolls md_slots md_isKept) (fun _ => W_md cI cZ md ((0 : Int32)) md_text md_textSize md_place md_letter md_first md_second md_third md_side md_hang md_forms md_formMany md_seats md_now md_barAlways md_noPut md_far md_queue md_from md_by md_many md_is md_next md_rollSet md_rollAct md_rolls md_slots md_isKept) ok_X8_formOf ml_X8_155 (c_X8_formOf (gl Γ) (gD Γ) cI cZ   md_now p0 _ hm) (by decide) (by decide) rfl (Nat.le_of_ble_eq_true rfl) rfl rfl rfl rfl (by decide) rfl (fun _ => rfl) rfl dX8_stand_38 ?_
      rintro r_5 _ hm
      refine x_istore_n hC [(0, .ref (md 0)), (1, .int p0), (2, .int p1), (3, .int r_5)] [1, 2, 3, 0] dX8_stand_41 (by decide) rfl ?_
      refine x_aload_n hC 0 dX8_stand_42 rfl ?_
      refine x_aload_n hC 0 dX8_stand_43 rfl ?_
      refine x_get hC 5 inX8g 0 rfl rfl 13 (by decide) fl_X8_140 rfl dX8_stand_44 ?_
      refine x_iload_n hC 1 dX8_stand_47 rfl ?_
      refine x_iload_n hC 2 dX8_stand_48 rfl ?_
      refine x_callSi hC _ [] [0, 1, 2, 3, 4, 5, 6, 7, 8, 9, 10, 11, 12, 13, 14] [0, 1, 2, 3, 4, 5, 6, 7, 8, 9, 10, 11, 12, 13, 14] (W_md cI cZ md ((0 : Int32)) md_text md_textSize md_place md_letter md_first md_second md_third md_side md_hang md_forms md_formMany md_seats md_now md_barAlways md_noPut md_far md_queue md_from md_by md_many md_is md_next md_rollSet md_rollAct md_rolls md_slots md_isKept) (fun _ => W_md cI cZ md ((0 : Int32)) md_text md_textSize md_place md_letter md_first md_second md_third md_side md_hang md_forms md_formMany md_seats md_now md_barAlways md_noPut md_far md_queue md_from md_by md_many md_is md_next md_rollSet md_rollAct md_rolls md_slots md_isKept) ok_X8_put ml_X8_143 (c_X8_put (gl Γ) (gD Γ) cI cZ   md_now p0 p1 _ hm) (by decide) (by decide) rfl (Nat.le_of_ble_eq_true rfl) rfl rfl rfl rfl (by decide) rfl (fun _ => rfl) rfl dX8_stand_49 ?_
      rintro r_6 _ hm
      refine x_put hC 5 tyX8_ok nmX8 inX8g 0 rfl rfl 13 (by decide) fl_X8_140 rfl (ty := .int) (by decide +kernel) rfl rfl (Nat.le_of_ble_eq_true rfl) (W_md cI cZ md ((0 : Int32)) md_text md_textSize md_place md_letter md_first md_second md_third md_side md_hang md_forms md_formMany md_seats r_6 md_barAlways md_noPut md_far md_queue md_from md_by md_many md_is md_next md_rollSet md_rollAct md_rolls md_slots md_isKept) rfl dX8_stand_52 ?_
      refine x_iload_n hC 3 dX8_stand_55 rfl ?_
      exact hR r_5 ((0 : Int32), r_6) [(0, .ref (md 0)), (1, .int p0), (2, .int p1), (3, .int r_5)] 56 hm rfl dX8_stand_56
    · replace hm := hm.2 c_4
      refine x_bipush hC (-2 : Int32) dX8_stand_30 (by decide) ?_
      exact hR ((-2 : Int32)) ((0 : Int32), md_now) [(0, .ref (md 0)), (1, .int p0), (2, .int p1)] 32 hm rfl dX8_stand_32
  · replace hm := hm.2 c_2
    refine x_iconst hC (-1 : Int32) dX8_stand_12 (by decide) ?_
    exact hR ((-1 : Int32)) ((0 : Int32), md_now) [(0, .ref (md 0)), (1, .int p0), (2, .int p1)] 13 hm rfl dX8_stand_13

def wpL_X8_step_72 (md_forms : Nat → Int32) (md_formMany : Nat → Int32) (md_seats : Nat → Int32) (md_now : Int32) (md_barAlways : Int32) (md_noPut : Int32)  (post : Int32 → Int32 → (Nat → Int32) → (Nat → Int32) → (Nat → Int32) → (Nat → Int32) → Int32 → Prop) : Nat → Int32 → (Nat → Int32) → (Nat → Int32) → (Nat → Int32) → (Nat → Int32) → Int32 → Int32 → Int32 → Prop
  | 0, _, _, _, _, _, _, _, _ => False
  | n + 1, md_thrown_14, md_far_15, md_queue_16, md_from_17, md_by_18, md_many_19, x3_20, x5_21 => vp_in x5_21 16384 ∧ (((md_far_15 x5_21.toNatClampNeg) ≤ (x3_20 + ((1 : Int32))) → vp_in x5_21 16384 ∧ (post (md_by_18 x5_21.toNatClampNeg) md_thrown_14 md_far_15 md_queue_16 md_from_17 md_by_18 md_many_19)) ∧ (¬ (md_far_15 x5_21.toNatClampNeg) ≤ (x3_20 + ((1 : Int32))) → vp_in x5_21 16384 ∧ (∀ x5_23 : Int32, x5_23 = md_from_17 x5_21.toNatClampNeg → (wpL_X8_step_72 md_forms md_formMany md_seats md_now md_barAlways md_noPut  post n) md_thrown_14 md_far_15 md_queue_16 md_from_17 md_by_18 md_many_19 x3_20 x5_23)))
def wp_X8_step (md_thrown : Int32) (md_forms : Nat → Int32) (md_formMany : Nat → Int32) (md_seats : Nat → Int32) (md_now : Int32) (md_barAlways : Int32) (md_noPut : Int32) (md_far : Nat → Int32) (md_queue : Nat → Int32) (md_from : Nat → Int32) (md_by : Nat → Int32) (md_many : Int32) (p0 : Int32) (p1 : Int32) (p2 : Int32) (post : Int32 → Int32 → (Nat → Int32) → (Nat → Int32) → (Nat → Int32) → (Nat → Int32) → Int32 → Prop) : Prop := wp_X8_noSet  p0 (fun (r_1 : Int32) => (¬ r_1 = 0 → post ((-2 : Int32)) ((0 : Int32)) md_far md_queue md_from md_by md_many) ∧ (r_1 = 0 → wp_X8_noGoal  p1 (fun (r_3 : Int32) => (r_3 = 0 → wp_X8_wave md_forms md_formMany md_seats md_barAlways md_noPut md_far md_queue md_from md_by md_many md_now p0 p0 (fun (md_far_5 : Nat → Int32) (md_queue_6 : Nat → Int32) (md_from_7 : Nat → Int32) (md_by_8 : Nat → Int32) (md_many_9 : Int32) => wp_X8_firstSo md_queue_6 md_many_9 p1 (fun (r_10 : Int32) => (r_10 = ((-9 : Int32)) → post ((-9 : Int32)) ((0 : Int32)) md_far_5 md_queue_6 md_from_7 md_by_8 md_many_9) ∧ (¬ r_10 = ((-9 : Int32)) → vp_in r_10 16384 ∧ (wp_X8_in  p2.toInt64 ((0 : Int64)) (((md_far_5 r_10.toNatClampNeg) - ((1 : Int32))).toInt64) (fun (r_12 : Int32) => (¬ r_12 = 0 → ∃ k72, wpL_X8_step_72 md_forms md_formMany md_seats md_now md_barAlways md_noPut  post k72 ((0 : Int32)) md_far_5 md_queue_6 md_from_7 md_by_8 md_many_9 p2 r_10) ∧ (r_12 = 0 → post ((-9 : Int32)) ((0 : Int32)) md_far_5 md_queue_6 md_from_7 md_by_8 md_many_9))))))) ∧ (¬ r_3 = 0 → post ((-2 : Int32)) ((0 : Int32)) md_far md_queue md_from md_by md_many))))
set_option maxHeartbeats 4000000 in
set_option maxRecDepth 100000 in
theorem c_X8_step (l : Launch) (D : va_G) (cI cZ : ClassId) (md : Nat → Nat) (md_thrown : Int32) (md_text : Nat → Int32) (md_textSize : Int32) (md_place : Int32) (md_letter : Int32) (md_first : Int32) (md_second : Int32) (md_third : Int32) (md_side : Int32) (md_hang : Int32) (md_forms : Nat → Int32) (md_formMany : Nat → Int32) (md_seats : Nat → Int32) (md_now : Int32) (md_barAlways : Int32) (md_noPut : Int32) (md_far : Nat → Int32) (md_queue : Nat → Int32) (md_from : Nat → Int32) (md_by : Nat → Int32) (md_many : Int32) (md_is : Nat → Int32) (md_next : Nat → Int32) (md_rollSet : Nat → Int32) (md_rollAct : Nat → Int32) (md_rolls : Int32) (md_slots : Nat → Int32) (md_isKept : Nat → Int32) (p0 : Int32) (p1 : Int32) (p2 : Int32) (post : Int32 → Int32 → (Nat → Int32) → (Nat → Int32) → (Nat → Int32) → (Nat → Int32) → Int32 → Prop) (hm : wp_X8_step md_thrown md_forms md_formMany md_seats md_now md_barAlways md_noPut md_far md_queue md_from md_by md_many p0 p1 p2 post) : Mi l D cI cZ yX8_step cX8_step 6 .int 6 148 [.ref (md 0), .int p0, .int p1, .int p2] (W_md cI cZ md md_thrown md_text md_textSize md_place md_letter md_first md_second md_third md_side md_hang md_forms md_formMany md_seats md_now md_barAlways md_noPut md_far md_queue md_from md_by md_many md_is md_next md_rollSet md_rollAct md_rolls md_slots md_isKept) (S := Int32 × (Nat → Int32) × (Nat → Int32) × (Nat → Int32) × (Nat → Int32) × Int32) (fun u => W_md cI cZ md (u.1) md_text md_textSize md_place md_letter md_first md_second md_third md_side md_hang md_forms md_formMany md_seats md_now md_barAlways md_noPut (u.2.1) (u.2.2.1) (u.2.2.2.1) (u.2.2.2.2.1) (u.2.2.2.2.2) md_is md_next md_rollSet md_rollAct md_rolls md_slots md_isKept) (fun r u => post r u.1 u.2.1 u.2.2.1 u.2.2.2.1 u.2.2.2.2.1 u.2.2.2.2.2) := by
  refine mk_Mi (by decide +kernel) (Nat.le_of_ble_eq_true rfl) ?_
  intro Γ hl0 hD0 hC hR
  subst hl0
  subst hD0
  have hC : CX Γ cI cZ cX8_step RX8 6 6 148 := hC
  show VV Γ (W_md cI cZ md md_thrown md_text md_textSize md_place md_letter md_first md_second md_third md_side md_hang md_forms md_formMany md_seats md_now md_barAlways md_noPut md_far md_queue md_from md_by md_many md_is md_next md_rollSet md_rollAct md_rolls md_slots md_isKept) [(0, .ref (md 0)), (1, .int p0), (2, .int p1), (3, .int p2)] 0 []
  have B_72 : ∀ (n : Nat) (md_thrown_14 : Int32) (md_far_15 : Nat → Int32) (md_queue_16 : Nat → Int32) (md_from_17 : Nat → Int32) (md_by_18 : Nat → Int32) (md_many_19 : Int32) (x3_20 : Int32) (x5_21 : Int32), wpL_X8_step_72 md_forms md_formMany md_seats md_now md_barAlways md_noPut  post n md_thrown_14 md_far_15 md_queue_16 md_from_17 md_by_18 md_many_19 x3_20 x5_21 → VV Γ (W_md cI cZ md md_thrown_14 md_text md_textSize md_place md_letter md_first md_second md_third md_side md_hang md_forms md_formMany md_seats md_now md_barAlways md_noPut md_far_15 md_queue_16 md_from_17 md_by_18 md_many_19 md_is md_next md_rollSet md_rollAct md_rolls md_slots md_isKept) [(0, .ref (md 0)), (3, .int x3_20), (5, .int x5_21)] 72 [] := by
    intro  n
    induction n with
    | zero => intro md_thrown_14 md_far_15 md_queue_16 md_from_17 md_by_18 md_many_19 x3_20 x5_21 hm; rw [wpL_X8_step_72] at hm; exact hm.elim
    | succ n ih =>
      intro md_thrown_14 md_far_15 md_queue_16 md_from_17 md_by_18 md_many_19 x3_20 x5_21 hm
      rw [wpL_X8_step_72] at hm
      refine x_aload_n hC 0 dX8_step_72 rfl ?_
      refine x_get hC 5 inX8g 0 rfl rfl 16 (by decide) fl_X8_29 rfl dX8_step_73 ?_
      refine x_iload hC 2 dX8_step_76 rfl ?_
      refine x_iald hC 5 rfl hm.1 dX8_step_78 ?_
      replace hm := hm.2
      refine x_iload_n hC 1 dX8_step_79 rfl ?_
      refine x_iconst hC (1 : Int32) dX8_step_80 (by decide) ?_
      refine x_iadd hC dX8_step_81 ?_
      refine x_icmp_le hC 97 dX8_step_82 (by decide) (fun c_22 => ?_) (fun c_22 => ?_)
      · replace hm := hm.1 c_22
        refine x_aload_n hC 0 dX8_step_97 rfl ?_
        refine x_get hC 5 inX8g 0 rfl rfl 19 (by decide) fl_X8_38 rfl dX8_step_98 ?_
        refine x_iload hC 2 dX8_step_101 rfl ?_
        refine x_iald hC 8 rfl hm.1 dX8_step_103 ?_
        replace hm := hm.2
        exact hR (md_by_18 x5_21.toNatClampNeg) (md_thrown_14, md_far_15, md_queue_16, md_from_17, md_by_18, md_many_19) [(0, .ref (md 0)), (3, .int x3_20), (5, .int x5_21)] 104 hm rfl dX8_step_104
      · replace hm := hm.2 c_22
        refine x_aload_n hC 0 dX8_step_85 rfl ?_
        refine x_get hC 5 inX8g 0 rfl rfl 18 (by decide) fl_X8_35 rfl dX8_step_86 ?_
        refine x_iload hC 2 dX8_step_89 rfl ?_
        refine x_iald hC 7 rfl hm.1 dX8_step_91 ?_
        replace hm := hm.2
        refine x_top (fun x5_23 ex5_23 => ?_)
        replace hm := hm x5_23 ex5_23
        refine x_istore hC [(0, .ref (md 0)), (3, .int x3_20), (5, .int x5_23)] [1, 2, 0] dX8_step_92 (by decide) rfl ?_
        refine x_goto hC 72 dX8_step_94 (by decide) ?_
        exact ih md_thrown_14 md_far_15 md_queue_16 md_from_17 md_by_18 md_many_19 x3_20 x5_23 hm
  unfold wp_X8_step at hm
  refine x_aload_n hC 0 dX8_step_0 rfl ?_
  refine x_iconst hC (0 : Int32) dX8_step_1 (by decide) ?_
  refine x_put hC 5 tyX8_ok nmX8 inX8g 0 rfl rfl 0 (by decide) fl_X8_60 rfl (ty := .int) (by decide +kernel) rfl rfl (Nat.le_of_ble_eq_true rfl) (W_md cI cZ md ((0 : Int32)) md_text md_textSize md_place md_letter md_first md_second md_third md_side md_hang md_forms md_formMany md_seats md_now md_barAlways md_noPut md_far md_queue md_from md_by md_many md_is md_next md_rollSet md_rollAct md_rolls md_slots md_isKept) rfl dX8_step_2 ?_
  refine x_iload_n hC 1 dX8_step_5 rfl ?_
  refine x_callSi hC _ [] [0, 1, 2, 3, 4, 5, 6, 7, 8, 9, 10, 11, 12, 13, 14] [0, 1, 2, 3, 4, 5, 6, 7, 8, 9, 10, 11, 12, 13, 14] (W_md cI cZ md ((0 : Int32)) md_text md_textSize md_place md_letter md_first md_second md_third md_side md_hang md_forms md_formMany md_seats md_now md_barAlways md_noPut md_far md_queue md_from md_by md_many md_is md_next md_rollSet md_rollAct md_rolls md_slots md_isKept) (fun _ => W_md cI cZ md ((0 : Int32)) md_text md_textSize md_place md_letter md_first md_second md_third md_side md_hang md_forms md_formMany md_seats md_now md_barAlways md_noPut md_far md_queue md_from md_by md_many md_is md_next md_rollSet md_rollAct md_rolls md_slots md_isKept) ok_X8_noSet ml_X8_171 (c_X8_noSet (gl Γ) (gD Γ) cI cZ   p0 _ hm) (by decide) (by decide) rfl (Nat.le_of_ble_eq_true rfl) rfl rfl rfl rfl (by decide) rfl (fun _ => rfl) rfl dX8_step_6 ?_
  rintro r_1 _ hm
  refine x_if_ne hC 19 dX8_step_9 (by decide) (fun c_2 => ?_) (fun c_2 => ?_)
  · replace hm := hm.1 c_2
    refine x_bipush hC (-2 : Int32) dX8_step_19 (by decide) ?_
    exact hR ((-2 : Int32)) ((0 : Int32), md_far, md_queue, md_from, md_by, md_many) [(0, .ref (md 0)), (1, .int p0), (2, .int p1), (3, .int p2)] 21 hm rfl dX8_step_21
  · replace hm := hm.2 c_2
    refine x_iload_n hC 2 dX8_step_12 rfl ?_
    refine x_callSi hC _ [] [0, 1, 2, 3, 4, 5, 6, 7, 8, 9, 10, 11, 12, 13, 14] [0, 1, 2, 3, 4, 5, 6, 7, 8, 9, 10, 11, 12, 13, 14] (W_md cI cZ md ((0 : Int32)) md_text md_textSize md_place md_letter md_first md_second md_third md_side md_hang md_forms md_formMany md_seats md_now md_barAlways md_noPut md_far md_queue md_from md_by md_many md_is md_next md_rollSet md_rollAct md_rolls md_slots md_isKept) (fun _ => W_md cI cZ md ((0 : Int32)) md_text md_textSize md_place md_letter md_first md_second md_third md_side md_hang md_forms md_formMany md_seats md_now md_barAlways md_noPut md_far md_queue md_from md_by md_many md_is md_next md_rollSet md_rollAct md_rolls md_slots md_isKept) ok_X8_noGoal ml_X8_177 (c_X8_noGoal (gl Γ) (gD Γ) cI cZ   p1 _ hm) (by decide) (by decide) rfl (Nat.le_of_ble_eq_true rfl) rfl rfl rfl rfl (by decide) rfl (fun _ => rfl) rfl dX8_step_13 ?_
    rintro r_3 _ hm
    refine x_if_eq hC 22 dX8_step_16 (by decide) (fun c_4 => ?_) (fun c_4 => ?_)
    · replace hm := hm.1 c_4
      refine x_aload_n hC 0 dX8_step_22 rfl ?_
      refine x_aload_n hC 0 dX8_step_23 rfl ?_
      refine x_get hC 5 inX8g 0 rfl rfl 13 (by decide) fl_X8_140 rfl dX8_step_24 ?_
      refine x_iload_n hC 1 dX8_step_27 rfl ?_
      refine x_iload_n hC 1 dX8_step_28 rfl ?_
      refine x_callVv hC _ [0, 1, 2, 3, 4, 5, 6, 7, 8, 9, 10, 11, 12, 13, 14] [] [0, 1, 2, 3, 4, 5, 6, 7, 8, 9, 10, 11, 12, 13, 14] (([] : va_W)) (fun u => W_md cI cZ md ((0 : Int32)) md_text md_textSize md_place md_letter md_first md_second md_third md_side md_hang md_forms md_formMany md_seats md_now md_barAlways md_noPut (u.1) (u.2.1) (u.2.2.1) (u.2.2.2.1) (u.2.2.2.2) md_is md_next md_rollSet md_rollAct md_rolls md_slots md_isKept) ok_X8_wave ml_X8_198 0 5 (c_X8_wave (gl Γ) (gD Γ) cI cZ md ((0 : Int32)) md_text md_textSize md_place md_letter md_first md_second md_third md_side md_hang md_forms md_formMany md_seats md_now md_barAlways md_noPut md_far md_queue md_from md_by md_many md_is md_next md_rollSet md_rollAct md_rolls md_slots md_isKept md_now p0 p0 _ hm) (by decide) (by decide) rfl (Nat.le_of_ble_eq_true rfl) rfl rfl rfl rfl (by decide) rfl (fun _ => rfl) rfl rfl rfl rfl dX8_step_29 ?_
      rintro ⟨md_far_5, md_queue_6, md_from_7, md_by_8, md_many_9⟩ hm
      refine x_aload_n hC 0 dX8_step_32 rfl ?_
      refine x_iload_n hC 2 dX8_step_33 rfl ?_
      refine x_callVi hC _ [0, 1, 2, 3, 4, 5, 6, 7, 8, 9, 10, 11, 12, 13, 14] [] [0, 1, 2, 3, 4, 5, 6, 7, 8, 9, 10, 11, 12, 13, 14] (([] : va_W)) (fun _ => W_md cI cZ md ((0 : Int32)) md_text md_textSize md_place md_letter md_first md_second md_third md_side md_hang md_forms md_formMany md_seats md_now md_barAlways md_noPut md_far_5 md_queue_6 md_from_7 md_by_8 md_many_9 md_is md_next md_rollSet md_rollAct md_rolls md_slots md_isKept) ok_X8_firstSo ml_X8_206 0 5 (c_X8_firstSo (gl Γ) (gD Γ) cI cZ md ((0 : Int32)) md_text md_textSize md_place md_letter md_first md_second md_third md_side md_hang md_forms md_formMany md_seats md_now md_barAlways md_noPut md_far_5 md_queue_6 md_from_7 md_by_8 md_many_9 md_is md_next md_rollSet md_rollAct md_rolls md_slots md_isKept p1 _ hm) (by decide) (by decide) rfl (Nat.le_of_ble_eq_true rfl) rfl rfl rfl rfl (by decide) rfl (fun _ => rfl) rfl rfl rfl rfl dX8_step_34 ?_
      rintro r_10 _ hm
      refine x_istore hC [(0, .ref (md 0)), (1, .int p0), (2, .int p1), (3, .int p2), (4, .int r_10)] [1, 2, 3, 4, 0] dX8_step_37 (by decide) rfl ?_
      refine x_iload hC 4 dX8_step_39 rfl ?_
      refine x_bipush hC (-9 : Int32) dX8_step_41 (by decide) ?_
      refine x_icmp_eq hC 65 dX8_step_43 (by decide) (fun c_11 => ?_) (fun c_11 => ?_)
      · replace hm := hm.1 c_11
        refine x_bipush hC (-9 : Int32) dX8_step_65 (by decide) ?_
        exact hR ((-9 : Int32)) ((0 : Int32), md_far_5, md_queue_6, md_from_7, md_by_8, md_many_9) [(0, .ref (md 0)), (1, .int p0), (2, .int p1), (3, .int p2), (4, .int r_10)] 67 hm rfl dX8_step_67
      · replace hm := hm.2 c_11
        refine x_iload_n hC 3 dX8_step_46 rfl ?_
        refine x_i2l hC dX8_step_47 ?_
        refine x_lconst hC (0 : Int64) dX8_step_48 (by decide) ?_
        refine x_aload_n hC 0 dX8_step_49 rfl ?_
        refine x_get hC 5 inX8g 0 rfl rfl 16 (by decide) fl_X8_29 rfl dX8_step_50 ?_
        refine x_iload hC 4 dX8_step_53 rfl ?_
        refine x_iald hC 5 rfl hm.1 dX8_step_55 ?_
        replace hm := hm.2
        refine x_iconst hC (1 : Int32) dX8_step_56 (by decide) ?_
        refine x_isub hC dX8_step_57 ?_
        refine x_i2l hC dX8_step_58 ?_
        refine x_callSi hC _ [] [0, 1, 2, 3, 4, 5, 6, 7, 8, 9, 10, 11, 12, 13, 14] [0, 1, 2, 3, 4, 5, 6, 7, 8, 9, 10, 11, 12, 13, 14] (W_md cI cZ md ((0 : Int32)) md_text md_textSize md_place md_letter md_first md_second md_third md_side md_hang md_forms md_formMany md_seats md_now md_barAlways md_noPut md_far_5 md_queue_6 md_from_7 md_by_8 md_many_9 md_is md_next md_rollSet md_rollAct md_rolls md_slots md_isKept) (fun _ => W_md cI cZ md ((0 : Int32)) md_text md_textSize md_place md_letter md_first md_second md_third md_side md_hang md_forms md_formMany md_seats md_now md_barAlways md_noPut md_far_5 md_queue_6 md_from_7 md_by_8 md_many_9 md_is md_next md_rollSet md_rollAct md_rolls md_slots md_isKept) ok_X8_in ml_X8_65 (c_X8_in (gl Γ) (gD Γ) cI cZ   p2.toInt64 ((0 : Int64)) (((md_far_5 r_10.toNatClampNeg) - ((1 : Int32))).toInt64) _ hm) (by decide) (by decide) rfl (Nat.le_of_ble_eq_true rfl) rfl rfl rfl rfl (by decide) rfl (fun _ => rfl) rfl dX8_step_59 ?_
        rintro r_12 _ hm
        refine x_if_ne hC 68 dX8_step_62 (by decide) (fun c_13 => ?_) (fun c_13 => ?_)
        · replace hm := hm.1 c_13
          refine x_iload hC 4 dX8_step_68 rfl ?_
          refine x_istore hC [(0, .ref (md 0)), (1, .int p0), (2, .int p1), (3, .int p2), (4, .int r_10), (5, .int r_10)] [1, 2, 3, 4, 5, 0] dX8_step_70 (by decide) rfl ?_
          obtain ⟨n_24, hm⟩ := hm
          refine x_lsub [0, 3, 5] rfl ?_
          exact B_72  n_24 ((0 : Int32)) md_far_5 md_queue_6 md_from_7 md_by_8 md_many_9 p2 r_10 hm
        · replace hm := hm.2 c_13
          refine x_bipush hC (-9 : Int32) dX8_step_65 (by decide) ?_
          exact hR ((-9 : Int32)) ((0 : Int32), md_far_5, md_queue_6, md_from_7, md_by_8, md_many_9) [(0, .ref (md 0)), (1, .int p0), (2, .int p1), (3, .int p2), (4, .int r_10)] 67 hm rfl dX8_step_67
    · replace hm := hm.2 c_4
      refine x_bipush hC (-2 : Int32) dX8_step_19 (by decide) ?_
      exact hR ((-2 : Int32)) ((0 : Int32), md_far, md_queue, md_from, md_by, md_many) [(0, .ref (md 0)), (1, .int p0), (2, .int p1), (3, .int p2)] 21 hm rfl dX8_step_21

def wp_X8_sure (md_thrown : Int32) (md_forms : Nat → Int32) (md_formMany : Nat → Int32) (md_seats : Nat → Int32) (md_now : Int32) (md_barAlways : Int32) (md_noPut : Int32) (md_far : Nat → Int32) (md_queue : Nat → Int32) (md_from : Nat → Int32) (md_by : Nat → Int32) (md_many : Int32) (md_is : Nat → Int32) (md_next : Nat → Int32) (p0 : Int32) (p1 : Int32) (p2 : Int32) (p3 : Int32) (post : Int32 → Int32 → (Nat → Int32) → (Nat → Int32) → (Nat → Int32) → (Nat → Int32) → Int32 → (Nat → Int32) → (Nat → Int32) → Prop) : Prop := wp_X8_noTurns  p0 p1 p2 p3 (fun (r_1 : Int32) => (r_1 = 0 → wp_X8_layTurns md_forms md_formMany md_seats md_now md_barAlways md_noPut md_far md_queue md_from md_by md_many md_is md_next p0 p1 p2 p3 (fun (md_far_3 : Nat → Int32) (md_queue_4 : Nat → Int32) (md_from_5 : Nat → Int32) (md_by_6 : Nat → Int32) (md_many_7 : Int32) (md_is_8 : Nat → Int32) (md_next_9 : Nat → Int32) => wp_X8_begins md_forms md_formMany md_seats md_barAlways md_noPut md_is_8 md_now p0 p1 (fun (r_10 : Int32) => (r_10 = ((-2 : Int32)) → post ((0 : Int32)) ((0 : Int32)) md_far_3 md_queue_4 md_from_5 md_by_6 md_many_7 md_is_8 md_next_9) ∧ (¬ r_10 = ((-2 : Int32)) → post ((1 : Int32)) ((0 : Int32)) md_far_3 md_queue_4 md_from_5 md_by_6 md_many_7 md_is_8 md_next_9)))) ∧ (¬ r_1 = 0 → post ((-2 : Int32)) ((0 : Int32)) md_far md_queue md_from md_by md_many md_is md_next))
set_option maxHeartbeats 4000000 in
set_option maxRecDepth 100000 in
theorem c_X8_sure (l : Launch) (D : va_G) (cI cZ : ClassId) (md : Nat → Nat) (md_thrown : Int32) (md_text : Nat → Int32) (md_textSize : Int32) (md_place : Int32) (md_letter : Int32) (md_first : Int32) (md_second : Int32) (md_third : Int32) (md_side : Int32) (md_hang : Int32) (md_forms : Nat → Int32) (md_formMany : Nat → Int32) (md_seats : Nat → Int32) (md_now : Int32) (md_barAlways : Int32) (md_noPut : Int32) (md_far : Nat → Int32) (md_queue : Nat → Int32) (md_from : Nat → Int32) (md_by : Nat → Int32) (md_many : Int32) (md_is : Nat → Int32) (md_next : Nat → Int32) (md_rollSet : Nat → Int32) (md_rollAct : Nat → Int32) (md_rolls : Int32) (md_slots : Nat → Int32) (md_isKept : Nat → Int32) (p0 : Int32) (p1 : Int32) (p2 : Int32) (p3 : Int32) (post : Int32 → Int32 → (Nat → Int32) → (Nat → Int32) → (Nat → Int32) → (Nat → Int32) → Int32 → (Nat → Int32) → (Nat → Int32) → Prop) (hm : wp_X8_sure md_thrown md_forms md_formMany md_seats md_now md_barAlways md_noPut md_far md_queue md_from md_by md_many md_is md_next p0 p1 p2 p3 post) : Mi l D cI cZ yX8_sure cX8_sure 5 .int 8 196 [.ref (md 0), .int p0, .int p1, .int p2, .int p3] (W_md cI cZ md md_thrown md_text md_textSize md_place md_letter md_first md_second md_third md_side md_hang md_forms md_formMany md_seats md_now md_barAlways md_noPut md_far md_queue md_from md_by md_many md_is md_next md_rollSet md_rollAct md_rolls md_slots md_isKept) (S := Int32 × (Nat → Int32) × (Nat → Int32) × (Nat → Int32) × (Nat → Int32) × Int32 × (Nat → Int32) × (Nat → Int32)) (fun u => W_md cI cZ md (u.1) md_text md_textSize md_place md_letter md_first md_second md_third md_side md_hang md_forms md_formMany md_seats md_now md_barAlways md_noPut (u.2.1) (u.2.2.1) (u.2.2.2.1) (u.2.2.2.2.1) (u.2.2.2.2.2.1) (u.2.2.2.2.2.2.1) (u.2.2.2.2.2.2.2) md_rollSet md_rollAct md_rolls md_slots md_isKept) (fun r u => post r u.1 u.2.1 u.2.2.1 u.2.2.2.1 u.2.2.2.2.1 u.2.2.2.2.2.1 u.2.2.2.2.2.2.1 u.2.2.2.2.2.2.2) := by
  refine mk_Mi (by decide +kernel) (Nat.le_of_ble_eq_true rfl) ?_
  intro Γ hl0 hD0 hC hR
  subst hl0
  subst hD0
  have hC : CX Γ cI cZ cX8_sure RX8 5 8 196 := hC
  show VV Γ (W_md cI cZ md md_thrown md_text md_textSize md_place md_letter md_first md_second md_third md_side md_hang md_forms md_formMany md_seats md_now md_barAlways md_noPut md_far md_queue md_from md_by md_many md_is md_next md_rollSet md_rollAct md_rolls md_slots md_isKept) [(0, .ref (md 0)), (1, .int p0), (2, .int p1), (3, .int p2), (4, .int p3)] 0 []
  unfold wp_X8_sure at hm
  refine x_aload_n hC 0 dX8_sure_0 rfl ?_
  refine x_iconst hC (0 : Int32) dX8_sure_1 (by decide) ?_
  refine x_put hC 5 tyX8_ok nmX8 inX8g 0 rfl rfl 0 (by decide) fl_X8_60 rfl (ty := .int) (by decide +kernel) rfl rfl (Nat.le_of_ble_eq_true rfl) (W_md cI cZ md ((0 : Int32)) md_text md_textSize md_place md_letter md_first md_second md_third md_side md_hang md_forms md_formMany md_seats md_now md_barAlways md_noPut md_far md_queue md_from md_by md_many md_is md_next md_rollSet md_rollAct md_rolls md_slots md_isKept) rfl dX8_sure_2 ?_
  refine x_iload_n hC 1 dX8_sure_5 rfl ?_
  refine x_iload_n hC 2 dX8_sure_6 rfl ?_
  refine x_iload_n hC 3 dX8_sure_7 rfl ?_
  refine x_iload hC 4 dX8_sure_8 rfl ?_
  refine x_callSi hC _ [] [0, 1, 2, 3, 4, 5, 6, 7, 8, 9, 10, 11, 12, 13, 14] [0, 1, 2, 3, 4, 5, 6, 7, 8, 9, 10, 11, 12, 13, 14] (W_md cI cZ md ((0 : Int32)) md_text md_textSize md_place md_letter md_first md_second md_third md_side md_hang md_forms md_formMany md_seats md_now md_barAlways md_noPut md_far md_queue md_from md_by md_many md_is md_next md_rollSet md_rollAct md_rolls md_slots md_isKept) (fun _ => W_md cI cZ md ((0 : Int32)) md_text md_textSize md_place md_letter md_first md_second md_third md_side md_hang md_forms md_formMany md_seats md_now md_barAlways md_noPut md_far md_queue md_from md_by md_many md_is md_next md_rollSet md_rollAct md_rolls md_slots md_isKept) ok_X8_noTurns ml_X8_223 (c_X8_noTurns (gl Γ) (gD Γ) cI cZ   p0 p1 p2 p3 _ hm) (by decide) (by decide) rfl (Nat.le_of_ble_eq_true rfl) rfl rfl rfl rfl (by decide) rfl (fun _ => rfl) rfl dX8_sure_10 ?_
  rintro r_1 _ hm
  refine x_if_eq hC 19 dX8_sure_13 (by decide) (fun c_2 => ?_) (fun c_2 => ?_)
  · replace hm := hm.1 c_2
    refine x_aload_n hC 0 dX8_sure_19 rfl ?_
    refine x_iload_n hC 1 dX8_sure_20 rfl ?_
    refine x_iload_n hC 2 dX8_sure_21 rfl ?_
    refine x_iload_n hC 3 dX8_sure_22 rfl ?_
    refine x_iload hC 4 dX8_sure_23 rfl ?_
    refine x_callVv hC _ [0, 1, 2, 3, 4, 5, 6, 7, 8, 9, 10, 11, 12, 13, 14] [] [0, 1, 2, 3, 4, 5, 6, 7, 8, 9, 10, 11, 12, 13, 14] (([] : va_W)) (fun u => W_md cI cZ md ((0 : Int32)) md_text md_textSize md_place md_letter md_first md_second md_third md_side md_hang md_forms md_formMany md_seats md_now md_barAlways md_noPut (u.1) (u.2.1) (u.2.2.1) (u.2.2.2.1) (u.2.2.2.2.1) (u.2.2.2.2.2.1) (u.2.2.2.2.2.2) md_rollSet md_rollAct md_rolls md_slots md_isKept) ok_X8_layTurns ml_X8_227 0 5 (c_X8_layTurns (gl Γ) (gD Γ) cI cZ md ((0 : Int32)) md_text md_textSize md_place md_letter md_first md_second md_third md_side md_hang md_forms md_formMany md_seats md_now md_barAlways md_noPut md_far md_queue md_from md_by md_many md_is md_next md_rollSet md_rollAct md_rolls md_slots md_isKept p0 p1 p2 p3 _ hm) (by decide) (by decide) rfl (Nat.le_of_ble_eq_true rfl) rfl rfl rfl rfl (by decide) rfl (fun _ => rfl) rfl rfl rfl rfl dX8_sure_25 ?_
    rintro ⟨md_far_3, md_queue_4, md_from_5, md_by_6, md_many_7, md_is_8, md_next_9⟩ hm
    refine x_aload_n hC 0 dX8_sure_28 rfl ?_
    refine x_aload_n hC 0 dX8_sure_29 rfl ?_
    refine x_get hC 5 inX8g 0 rfl rfl 13 (by decide) fl_X8_140 rfl dX8_sure_30 ?_
    refine x_iload_n hC 1 dX8_sure_33 rfl ?_
    refine x_iload_n hC 2 dX8_sure_34 rfl ?_
    refine x_callVi hC _ [0, 1, 2, 3, 4, 5, 6, 7, 8, 9, 10, 11, 12, 13, 14] [] [0, 1, 2, 3, 4, 5, 6, 7, 8, 9, 10, 11, 12, 13, 14] (([] : va_W)) (fun _ => W_md cI cZ md ((0 : Int32)) md_text md_textSize md_place md_letter md_first md_second md_third md_side md_hang md_forms md_formMany md_seats md_now md_barAlways md_noPut md_far_3 md_queue_4 md_from_5 md_by_6 md_many_7 md_is_8 md_next_9 md_rollSet md_rollAct md_rolls md_slots md_isKept) ok_X8_begins ml_X8_217 0 5 (c_X8_begins (gl Γ) (gD Γ) cI cZ md ((0 : Int32)) md_text md_textSize md_place md_letter md_first md_second md_third md_side md_hang md_forms md_formMany md_seats md_now md_barAlways md_noPut md_far_3 md_queue_4 md_from_5 md_by_6 md_many_7 md_is_8 md_next_9 md_rollSet md_rollAct md_rolls md_slots md_isKept md_now p0 p1 _ hm) (by decide) (by decide) rfl (Nat.le_of_ble_eq_true rfl) rfl rfl rfl rfl (by decide) rfl (fun _ => rfl) rfl rfl rfl rfl dX8_sure_35 ?_
    rintro r_10 _ hm
    refine x_bipush hC (-2 : Int32) dX8_sure_38 (by decide) ?_
    refine x_icmp_eq hC 47 dX8_sure_40 (by decide) (fun c_11 => ?_) (fun c_11 => ?_)
    · replace hm := hm.1 c_11
      refine x_iconst hC (0 : Int32) dX8_sure_47 (by decide) ?_
      exact hR ((0 : Int32)) ((0 : Int32), md_far_3, md_queue_4, md_from_5, md_by_6, md_many_7, md_is_8, md_next_9) [(0, .ref (md 0)), (1, .int p0), (2, .int p1), (3, .int p2), (4, .int p3)] 48 hm rfl dX8_sure_48
    · replace hm := hm.2 c_11
      refine x_iconst hC (1 : Int32) dX8_sure_43 (by decide) ?_
      refine x_goto hC 48 dX8_sure_44 (by decide) ?_
      exact hR ((1 : Int32)) ((0 : Int32), md_far_3, md_queue_4, md_from_5, md_by_6, md_many_7, md_is_8, md_next_9) [(0, .ref (md 0)), (1, .int p0), (2, .int p1), (3, .int p2), (4, .int p3)] 48 hm rfl dX8_sure_48
  · replace hm := hm.2 c_2
    refine x_bipush hC (-2 : Int32) dX8_sure_16 (by decide) ?_
    exact hR ((-2 : Int32)) ((0 : Int32), md_far, md_queue, md_from, md_by, md_many, md_is, md_next) [(0, .ref (md 0)), (1, .int p0), (2, .int p1), (3, .int p2), (4, .int p3)] 18 hm rfl dX8_sure_18

def wp_X8_thing (md_thrown : Int32) (md_now : Int32) (p0 : Int32) (p1 : Int32) (post : Int32 → Int32 → Int32 → Prop) : Prop := wp_X8_in  p0.toInt64 ((0 : Int64)) ((3 : Int64)) (fun (r_1 : Int32) => (¬ r_1 = 0 → ∀ x3_3 : Int32, x3_3 = (md_now >>> (p0 &&& 31)) &&& ((1 : Int32)) → (p1 = 0 → wp_X8_turned  md_now p0 ((0 : Int32)) (fun (r_5 : Int32) => post x3_3 ((0 : Int32)) r_5)) ∧ (¬ p1 = 0 → wp_X8_turned  md_now p0 ((1 : Int32)) (fun (r_6 : Int32) => post x3_3 ((0 : Int32)) r_6))) ∧ (r_1 = 0 → post ((-1 : Int32)) ((0 : Int32)) md_now))
set_option maxHeartbeats 4000000 in
set_option maxRecDepth 100000 in
theorem c_X8_thing (l : Launch) (D : va_G) (cI cZ : ClassId) (md : Nat → Nat) (md_thrown : Int32) (md_text : Nat → Int32) (md_textSize : Int32) (md_place : Int32) (md_letter : Int32) (md_first : Int32) (md_second : Int32) (md_third : Int32) (md_side : Int32) (md_hang : Int32) (md_forms : Nat → Int32) (md_formMany : Nat → Int32) (md_seats : Nat → Int32) (md_now : Int32) (md_barAlways : Int32) (md_noPut : Int32) (md_far : Nat → Int32) (md_queue : Nat → Int32) (md_from : Nat → Int32) (md_by : Nat → Int32) (md_many : Int32) (md_is : Nat → Int32) (md_next : Nat → Int32) (md_rollSet : Nat → Int32) (md_rollAct : Nat → Int32) (md_rolls : Int32) (md_slots : Nat → Int32) (md_isKept : Nat → Int32) (p0 : Int32) (p1 : Int32) (post : Int32 → Int32 → Int32 → Prop) (hm : wp_X8_thing md_thrown md_now p0 p1 post) : Mi l D cI cZ yX8_thing cX8_thing 4 .int 1 25 [.ref (md 0), .int p0, .int p1] (W_md cI cZ md md_thrown md_text md_textSize md_place md_letter md_first md_second md_third md_side md_hang md_forms md_formMany md_seats md_now md_barAlways md_noPut md_far md_queue md_from md_by md_many md_is md_next md_rollSet md_rollAct md_rolls md_slots md_isKept) (S := Int32 × Int32) (fun u => W_md cI cZ md (u.1) md_text md_textSize md_place md_letter md_first md_second md_third md_side md_hang md_forms md_formMany md_seats (u.2) md_barAlways md_noPut md_far md_queue md_from md_by md_many md_is md_next md_rollSet md_rollAct md_rolls md_slots md_isKept) (fun r u => post r u.1 u.2) := by
  refine mk_Mi (by decide +kernel) (Nat.le_of_ble_eq_true rfl) ?_
  intro Γ hl0 hD0 hC hR
  subst hl0
  subst hD0
  have hC : CX Γ cI cZ cX8_thing RX8 4 1 25 := hC
  show VV Γ (W_md cI cZ md md_thrown md_text md_textSize md_place md_letter md_first md_second md_third md_side md_hang md_forms md_formMany md_seats md_now md_barAlways md_noPut md_far md_queue md_from md_by md_many md_is md_next md_rollSet md_rollAct md_rolls md_slots md_isKept) [(0, .ref (md 0)), (1, .int p0), (2, .int p1)] 0 []
  unfold wp_X8_thing at hm
  refine x_aload_n hC 0 dX8_thing_0 rfl ?_
  refine x_iconst hC (0 : Int32) dX8_thing_1 (by decide) ?_
  refine x_put hC 5 tyX8_ok nmX8 inX8g 0 rfl rfl 0 (by decide) fl_X8_60 rfl (ty := .int) (by decide +kernel) rfl rfl (Nat.le_of_ble_eq_true rfl) (W_md cI cZ md ((0 : Int32)) md_text md_textSize md_place md_letter md_first md_second md_third md_side md_hang md_forms md_formMany md_seats md_now md_barAlways md_noPut md_far md_queue md_from md_by md_many md_is md_next md_rollSet md_rollAct md_rolls md_slots md_isKept) rfl dX8_thing_2 ?_
  refine x_iload_n hC 1 dX8_thing_5 rfl ?_
  refine x_i2l hC dX8_thing_6 ?_
  refine x_lconst hC (0 : Int64) dX8_thing_7 (by decide) ?_
  refine x_ldc2 hC kl_X8_151 dX8_thing_8 ?_
  refine x_callSi hC _ [] [0, 1, 2, 3, 4, 5, 6, 7, 8, 9, 10, 11, 12, 13, 14] [0, 1, 2, 3, 4, 5, 6, 7, 8, 9, 10, 11, 12, 13, 14] (W_md cI cZ md ((0 : Int32)) md_text md_textSize md_place md_letter md_first md_second md_third md_side md_hang md_forms md_formMany md_seats md_now md_barAlways md_noPut md_far md_queue md_from md_by md_many md_is md_next md_rollSet md_rollAct md_rolls md_slots md_isKept) (fun _ => W_md cI cZ md ((0 : Int32)) md_text md_textSize md_place md_letter md_first md_second md_third md_side md_hang md_forms md_formMany md_seats md_now md_barAlways md_noPut md_far md_queue md_from md_by md_many md_is md_next md_rollSet md_rollAct md_rolls md_slots md_isKept) ok_X8_in ml_X8_65 (c_X8_in (gl Γ) (gD Γ) cI cZ   p0.toInt64 ((0 : Int64)) ((3 : Int64)) _ hm) (by decide) (by decide) rfl (Nat.le_of_ble_eq_true rfl) rfl rfl rfl rfl (by decide) rfl (fun _ => rfl) rfl dX8_thing_11 ?_
  rintro r_1 _ hm
  refine x_if_ne hC 19 dX8_thing_14 (by decide) (fun c_2 => ?_) (fun c_2 => ?_)
  · replace hm := hm.1 c_2
    refine x_aload_n hC 0 dX8_thing_19 rfl ?_
    refine x_get hC 5 inX8g 0 rfl rfl 13 (by decide) fl_X8_140 rfl dX8_thing_20 ?_
    refine x_iload_n hC 1 dX8_thing_23 rfl ?_
    refine x_ishr hC dX8_thing_24 ?_
    refine x_iconst hC (1 : Int32) dX8_thing_25 (by decide) ?_
    refine x_iand hC dX8_thing_26 ?_
    refine x_top (fun x3_3 ex3_3 => ?_)
    replace hm := hm x3_3 ex3_3
    refine x_istore_n hC [(0, .ref (md 0)), (1, .int p0), (2, .int p1), (3, .int x3_3)] [1, 2, 3, 0] dX8_thing_27 (by decide) rfl ?_
    refine x_aload_n hC 0 dX8_thing_28 rfl ?_
    refine x_aload_n hC 0 dX8_thing_29 rfl ?_
    refine x_get hC 5 inX8g 0 rfl rfl 13 (by decide) fl_X8_140 rfl dX8_thing_30 ?_
    refine x_iload_n hC 1 dX8_thing_33 rfl ?_
    refine x_iload_n hC 2 dX8_thing_34 rfl ?_
    refine x_if_eq hC 42 dX8_thing_35 (by decide) (fun c_4 => ?_) (fun c_4 => ?_)
    · replace hm := hm.1 c_4
      refine x_iconst hC (0 : Int32) dX8_thing_42 (by decide) ?_
      refine x_callSi hC _ [] [0, 1, 2, 3, 4, 5, 6, 7, 8, 9, 10, 11, 12, 13, 14] [0, 1, 2, 3, 4, 5, 6, 7, 8, 9, 10, 11, 12, 13, 14] (W_md cI cZ md ((0 : Int32)) md_text md_textSize md_place md_letter md_first md_second md_third md_side md_hang md_forms md_formMany md_seats md_now md_barAlways md_noPut md_far md_queue md_from md_by md_many md_is md_next md_rollSet md_rollAct md_rolls md_slots md_isKept) (fun _ => W_md cI cZ md ((0 : Int32)) md_text md_textSize md_place md_letter md_first md_second md_third md_side md_hang md_forms md_formMany md_seats md_now md_barAlways md_noPut md_far md_queue md_from md_by md_many md_is md_next md_rollSet md_rollAct md_rolls md_slots md_isKept) ok_X8_turned ml_X8_158 (c_X8_turned (gl Γ) (gD Γ) cI cZ   md_now p0 ((0 : Int32)) _ hm) (by decide) (by decide) rfl (Nat.le_of_ble_eq_true rfl) rfl rfl rfl rfl (by decide) rfl (fun _ => rfl) rfl dX8_thing_43 ?_
      rintro r_5 _ hm
      refine x_put hC 5 tyX8_ok nmX8 inX8g 0 rfl rfl 13 (by decide) fl_X8_140 rfl (ty := .int) (by decide +kernel) rfl rfl (Nat.le_of_ble_eq_true rfl) (W_md cI cZ md ((0 : Int32)) md_text md_textSize md_place md_letter md_first md_second md_third md_side md_hang md_forms md_formMany md_seats r_5 md_barAlways md_noPut md_far md_queue md_from md_by md_many md_is md_next md_rollSet md_rollAct md_rolls md_slots md_isKept) rfl dX8_thing_46 ?_
      refine x_iload_n hC 3 dX8_thing_49 rfl ?_
      exact hR x3_3 ((0 : Int32), r_5) [(0, .ref (md 0)), (1, .int p0), (2, .int p1), (3, .int x3_3)] 50 hm rfl dX8_thing_50
    · replace hm := hm.2 c_4
      refine x_iconst hC (1 : Int32) dX8_thing_38 (by decide) ?_
      refine x_goto hC 43 dX8_thing_39 (by decide) ?_
      refine x_callSi hC _ [] [0, 1, 2, 3, 4, 5, 6, 7, 8, 9, 10, 11, 12, 13, 14] [0, 1, 2, 3, 4, 5, 6, 7, 8, 9, 10, 11, 12, 13, 14] (W_md cI cZ md ((0 : Int32)) md_text md_textSize md_place md_letter md_first md_second md_third md_side md_hang md_forms md_formMany md_seats md_now md_barAlways md_noPut md_far md_queue md_from md_by md_many md_is md_next md_rollSet md_rollAct md_rolls md_slots md_isKept) (fun _ => W_md cI cZ md ((0 : Int32)) md_text md_textSize md_place md_letter md_first md_second md_third md_side md_hang md_forms md_formMany md_seats md_now md_barAlways md_noPut md_far md_queue md_from md_by md_many md_is md_next md_rollSet md_rollAct md_rolls md_slots md_isKept) ok_X8_turned ml_X8_158 (c_X8_turned (gl Γ) (gD Γ) cI cZ   md_now p0 ((1 : Int32)) _ hm) (by decide) (by decide) rfl (Nat.le_of_ble_eq_true rfl) rfl rfl rfl rfl (by decide) rfl (fun _ => rfl) rfl dX8_thing_43 ?_
      rintro r_6 _ hm
      refine x_put hC 5 tyX8_ok nmX8 inX8g 0 rfl rfl 13 (by decide) fl_X8_140 rfl (ty := .int) (by decide +kernel) rfl rfl (Nat.le_of_ble_eq_true rfl) (W_md cI cZ md ((0 : Int32)) md_text md_textSize md_place md_letter md_first md_second md_third md_side md_hang md_forms md_formMany md_seats r_6 md_barAlways md_noPut md_far md_queue md_from md_by md_many md_is md_next md_rollSet md_rollAct md_rolls md_slots md_isKept) rfl dX8_thing_46 ?_
      refine x_iload_n hC 3 dX8_thing_49 rfl ?_
      exact hR x3_3 ((0 : Int32), r_6) [(0, .ref (md 0)), (1, .int p0), (2, .int p1), (3, .int x3_3)] 50 hm rfl dX8_thing_50
  · replace hm := hm.2 c_2
    refine x_iconst hC (-1 : Int32) dX8_thing_17 (by decide) ?_
    exact hR ((-1 : Int32)) ((0 : Int32), md_now) [(0, .ref (md 0)), (1, .int p0), (2, .int p1)] 18 hm rfl dX8_thing_18

def wpJ_X8_trap_61 (md_forms : Nat → Int32) (md_formMany : Nat → Int32) (md_seats : Nat → Int32) (md_now : Int32) (md_barAlways : Int32) (md_noPut : Int32)  (post : Int32 → Int32 → (Nat → Int32) → (Nat → Int32) → (Nat → Int32) → (Nat → Int32) → Int32 → (Nat → Int32) → Prop) (md_thrown_27 : Int32) (md_far_28 : Nat → Int32) (md_queue_29 : Nat → Int32) (md_from_30 : Nat → Int32) (md_by_31 : Nat → Int32) (md_many_32 : Int32) (md_is_33 : Nat → Int32) (x3_34 : Int32) : Prop := vp_in x3_34 16384 ∧ (vp_in (md_queue_29 x3_34.toNatClampNeg) 16384 ∧ (post (md_far_28 (md_queue_29 x3_34.toNatClampNeg).toNatClampNeg) md_thrown_27 md_far_28 md_queue_29 md_from_30 md_by_31 md_many_32 md_is_33))
def wpL_X8_trap_39 (md_forms : Nat → Int32) (md_formMany : Nat → Int32) (md_seats : Nat → Int32) (md_now : Int32) (md_barAlways : Int32) (md_noPut : Int32)  (post : Int32 → Int32 → (Nat → Int32) → (Nat → Int32) → (Nat → Int32) → (Nat → Int32) → Int32 → (Nat → Int32) → Prop) : Nat → Int32 → (Nat → Int32) → (Nat → Int32) → (Nat → Int32) → (Nat → Int32) → Int32 → (Nat → Int32) → Int32 → Prop
  | 0, _, _, _, _, _, _, _, _ => False
  | n + 1, md_thrown_16, md_far_17, md_queue_18, md_from_19, md_by_20, md_many_21, md_is_22, x3_23 => (md_many_21 ≤ x3_23 → post ((-9 : Int32)) md_thrown_16 md_far_17 md_queue_18 md_from_19 md_by_20 md_many_21 md_is_22) ∧ (¬ md_many_21 ≤ x3_23 → vp_in x3_23 16384 ∧ (vp_in (md_queue_18 x3_23.toNatClampNeg) 16384 ∧ (((md_is_22 (md_queue_18 x3_23.toNatClampNeg).toNatClampNeg) = 0 → ∀ x3_26 : Int32, x3_26 = x3_23 + (1 : Int32) → (wpL_X8_trap_39 md_forms md_formMany md_seats md_now md_barAlways md_noPut  post n) md_thrown_16 md_far_17 md_queue_18 md_from_19 md_by_20 md_many_21 md_is_22 x3_26) ∧ (¬ (md_is_22 (md_queue_18 x3_23.toNatClampNeg).toNatClampNeg) = 0 → wpJ_X8_trap_61 md_forms md_formMany md_seats md_now md_barAlways md_noPut  post md_thrown_16 md_far_17 md_queue_18 md_from_19 md_by_20 md_many_21 md_is_22 x3_23))))
def wp_X8_trap (md_thrown : Int32) (md_forms : Nat → Int32) (md_formMany : Nat → Int32) (md_seats : Nat → Int32) (md_now : Int32) (md_barAlways : Int32) (md_noPut : Int32) (md_far : Nat → Int32) (md_queue : Nat → Int32) (md_from : Nat → Int32) (md_by : Nat → Int32) (md_many : Int32) (md_is : Nat → Int32) (p0 : Int32) (p1 : Int32) (post : Int32 → Int32 → (Nat → Int32) → (Nat → Int32) → (Nat → Int32) → (Nat → Int32) → Int32 → (Nat → Int32) → Prop) : Prop := wp_X8_noSet  p0 (fun (r_1 : Int32) => (¬ r_1 = 0 → post ((-2 : Int32)) ((0 : Int32)) md_far md_queue md_from md_by md_many md_is) ∧ (r_1 = 0 → wp_X8_noGoal  p1 (fun (r_3 : Int32) => (r_3 = 0 → wp_X8_layGood md_forms md_formMany md_seats md_now md_barAlways md_noPut md_far md_queue md_from md_by md_many md_is p1 (fun (md_far_5 : Nat → Int32) (md_queue_6 : Nat → Int32) (md_from_7 : Nat → Int32) (md_by_8 : Nat → Int32) (md_many_9 : Int32) (md_is_10 : Nat → Int32) => wp_X8_wave md_forms md_formMany md_seats md_barAlways md_noPut md_far_5 md_queue_6 md_from_7 md_by_8 md_many_9 md_now p0 p0 (fun (md_far_11 : Nat → Int32) (md_queue_12 : Nat → Int32) (md_from_13 : Nat → Int32) (md_by_14 : Nat → Int32) (md_many_15 : Int32) => ∃ k39, wpL_X8_trap_39 md_forms md_formMany md_seats md_now md_barAlways md_noPut  post k39 ((0 : Int32)) md_far_11 md_queue_12 md_from_13 md_by_14 md_many_15 md_is_10 ((0 : Int32))))) ∧ (¬ r_3 = 0 → post ((-2 : Int32)) ((0 : Int32)) md_far md_queue md_from md_by md_many md_is))))
set_option maxHeartbeats 4000000 in
set_option maxRecDepth 100000 in
theorem c_X8_trap (l : Launch) (D : va_G) (cI cZ : ClassId) (md : Nat → Nat) (md_thrown : Int32) (md_text : Nat → Int32) (md_textSize : Int32) (md_place : Int32) (md_letter : Int32) (md_first : Int32) (md_second : Int32) (md_third : Int32) (md_side : Int32) (md_hang : Int32) (md_forms : Nat → Int32) (md_formMany : Nat → Int32) (md_seats : Nat → Int32) (md_now : Int32) (md_barAlways : Int32) (md_noPut : Int32) (md_far : Nat → Int32) (md_queue : Nat → Int32) (md_from : Nat → Int32) (md_by : Nat → Int32) (md_many : Int32) (md_is : Nat → Int32) (md_next : Nat → Int32) (md_rollSet : Nat → Int32) (md_rollAct : Nat → Int32) (md_rolls : Int32) (md_slots : Nat → Int32) (md_isKept : Nat → Int32) (p0 : Int32) (p1 : Int32) (post : Int32 → Int32 → (Nat → Int32) → (Nat → Int32) → (Nat → Int32) → (Nat → Int32) → Int32 → (Nat → Int32) → Prop) (hm : wp_X8_trap md_thrown md_forms md_formMany md_seats md_now md_barAlways md_noPut md_far md_queue md_from md_by md_many md_is p0 p1 post) : Mi l D cI cZ yX8_trap cX8_trap 4 .int 7 174 [.ref (md 0), .int p0, .int p1] (W_md cI cZ md md_thrown md_text md_textSize md_place md_letter md_first md_second md_third md_side md_hang md_forms md_formMany md_seats md_now md_barAlways md_noPut md_far md_queue md_from md_by md_many md_is md_next md_rollSet md_rollAct md_rolls md_slots md_isKept) (S := Int32 × (Nat → Int32) × (Nat → Int32) × (Nat → Int32) × (Nat → Int32) × Int32 × (Nat → Int32)) (fun u => W_md cI cZ md (u.1) md_text md_textSize md_place md_letter md_first md_second md_third md_side md_hang md_forms md_formMany md_seats md_now md_barAlways md_noPut (u.2.1) (u.2.2.1) (u.2.2.2.1) (u.2.2.2.2.1) (u.2.2.2.2.2.1) (u.2.2.2.2.2.2) md_next md_rollSet md_rollAct md_rolls md_slots md_isKept) (fun r u => post r u.1 u.2.1 u.2.2.1 u.2.2.2.1 u.2.2.2.2.1 u.2.2.2.2.2.1 u.2.2.2.2.2.2) := by
  refine mk_Mi (by decide +kernel) (Nat.le_of_ble_eq_true rfl) ?_
  intro Γ hl0 hD0 hC hR
  subst hl0
  subst hD0
  have hC : CX Γ cI cZ cX8_trap RX8 4 7 174 := hC
  show VV Γ (W_md cI cZ md md_thrown md_text md_textSize md_place md_letter md_first md_second md_third md_side md_hang md_forms md_formMany md_seats md_now md_barAlways md_noPut md_far md_queue md_from md_by md_many md_is md_next md_rollSet md_rollAct md_rolls md_slots md_isKept) [(0, .ref (md 0)), (1, .int p0), (2, .int p1)] 0 []
  have B_61 : ∀ (md_thrown_27 : Int32) (md_far_28 : Nat → Int32) (md_queue_29 : Nat → Int32) (md_from_30 : Nat → Int32) (md_by_31 : Nat → Int32) (md_many_32 : Int32) (md_is_33 : Nat → Int32) (x3_34 : Int32), wpJ_X8_trap_61 md_forms md_formMany md_seats md_now md_barAlways md_noPut  post md_thrown_27 md_far_28 md_queue_29 md_from_30 md_by_31 md_many_32 md_is_33 x3_34 → VV Γ (W_md cI cZ md md_thrown_27 md_text md_textSize md_place md_letter md_first md_second md_third md_side md_hang md_forms md_formMany md_seats md_now md_barAlways md_noPut md_far_28 md_queue_29 md_from_30 md_by_31 md_many_32 md_is_33 md_next md_rollSet md_rollAct md_rolls md_slots md_isKept) [(0, .ref (md 0)), (3, .int x3_34)] 61 [] := by
    intro  md_thrown_27 md_far_28 md_queue_29 md_from_30 md_by_31 md_many_32 md_is_33 x3_34 hm
    unfold wpJ_X8_trap_61 at hm
    refine x_aload_n hC 0 dX8_trap_61 rfl ?_
    refine x_get hC 5 inX8g 0 rfl rfl 16 (by decide) fl_X8_29 rfl dX8_trap_62 ?_
    refine x_aload_n hC 0 dX8_trap_65 rfl ?_
    refine x_get hC 5 inX8g 0 rfl rfl 17 (by decide) fl_X8_32 rfl dX8_trap_66 ?_
    refine x_iload_n hC 1 dX8_trap_69 rfl ?_
    refine x_iald hC 6 rfl hm.1 dX8_trap_70 ?_
    replace hm := hm.2
    refine x_iald hC 5 rfl hm.1 dX8_trap_71 ?_
    replace hm := hm.2
    exact hR (md_far_28 (md_queue_29 x3_34.toNatClampNeg).toNatClampNeg) (md_thrown_27, md_far_28, md_queue_29, md_from_30, md_by_31, md_many_32, md_is_33) [(0, .ref (md 0)), (3, .int x3_34)] 72 hm rfl dX8_trap_72
  have B_39 : ∀ (n : Nat) (md_thrown_16 : Int32) (md_far_17 : Nat → Int32) (md_queue_18 : Nat → Int32) (md_from_19 : Nat → Int32) (md_by_20 : Nat → Int32) (md_many_21 : Int32) (md_is_22 : Nat → Int32) (x3_23 : Int32), wpL_X8_trap_39 md_forms md_formMany md_seats md_now md_barAlways md_noPut  post n md_thrown_16 md_far_17 md_queue_18 md_from_19 md_by_20 md_many_21 md_is_22 x3_23 → VV Γ (W_md cI cZ md md_thrown_16 md_text md_textSize md_place md_letter md_first md_second md_third md_side md_hang md_forms md_formMany md_seats md_now md_barAlways md_noPut md_far_17 md_queue_18 md_from_19 md_by_20 md_many_21 md_is_22 md_next md_rollSet md_rollAct md_rolls md_slots md_isKept) [(0, .ref (md 0)), (3, .int x3_23)] 39 [] := by
    intro  n
    induction n with
    | zero => intro md_thrown_16 md_far_17 md_queue_18 md_from_19 md_by_20 md_many_21 md_is_22 x3_23 hm; rw [wpL_X8_trap_39] at hm; exact hm.elim
    | succ n ih =>
      intro md_thrown_16 md_far_17 md_queue_18 md_from_19 md_by_20 md_many_21 md_is_22 x3_23 hm
      rw [wpL_X8_trap_39] at hm
      refine x_iload_n hC 1 dX8_trap_39 rfl ?_
      refine x_aload_n hC 0 dX8_trap_40 rfl ?_
      refine x_get hC 5 inX8g 0 rfl rfl 20 (by decide) fl_X8_195 rfl dX8_trap_41 ?_
      refine x_icmp_ge hC 79 dX8_trap_44 (by decide) (fun c_24 => ?_) (fun c_24 => ?_)
      · replace hm := hm.1 c_24
        refine x_bipush hC (-9 : Int32) dX8_trap_79 (by decide) ?_
        exact hR ((-9 : Int32)) (md_thrown_16, md_far_17, md_queue_18, md_from_19, md_by_20, md_many_21, md_is_22) [(0, .ref (md 0)), (3, .int x3_23)] 81 hm rfl dX8_trap_81
      · replace hm := hm.2 c_24
        refine x_aload_n hC 0 dX8_trap_47 rfl ?_
        refine x_get hC 5 inX8g 0 rfl rfl 21 (by decide) fl_X8_41 rfl dX8_trap_48 ?_
        refine x_aload_n hC 0 dX8_trap_51 rfl ?_
        refine x_get hC 5 inX8g 0 rfl rfl 17 (by decide) fl_X8_32 rfl dX8_trap_52 ?_
        refine x_iload_n hC 1 dX8_trap_55 rfl ?_
        refine x_iald hC 6 rfl hm.1 dX8_trap_56 ?_
        replace hm := hm.2
        refine x_zald hC 9 rfl hm.1 dX8_trap_57 ?_
        replace hm := hm.2
        refine x_if_eq hC 73 dX8_trap_58 (by decide) (fun c_25 => ?_) (fun c_25 => ?_)
        · replace hm := hm.1 c_25
          obtain ⟨x3_26, ex3_26⟩ : ∃ y : Int32, y = x3_23 + (1 : Int32) := ⟨_, rfl⟩
          replace hm := hm x3_26 ex3_26
          refine x_iinc hC 1 x3_26 [(0, .ref (md 0)), (3, .int x3_26)] [1, 0] dX8_trap_73 rfl (by rw [ex3_26]; rfl) (by decide) rfl ?_
          refine x_goto hC 39 dX8_trap_76 (by decide) ?_
          exact ih md_thrown_16 md_far_17 md_queue_18 md_from_19 md_by_20 md_many_21 md_is_22 x3_26 hm
        · replace hm := hm.2 c_25
          exact B_61   md_thrown_16 md_far_17 md_queue_18 md_from_19 md_by_20 md_many_21 md_is_22 x3_23 hm
  unfold wp_X8_trap at hm
  refine x_aload_n hC 0 dX8_trap_0 rfl ?_
  refine x_iconst hC (0 : Int32) dX8_trap_1 (by decide) ?_
  refine x_put hC 5 tyX8_ok nmX8 inX8g 0 rfl rfl 0 (by decide) fl_X8_60 rfl (ty := .int) (by decide +kernel) rfl rfl (Nat.le_of_ble_eq_true rfl) (W_md cI cZ md ((0 : Int32)) md_text md_textSize md_place md_letter md_first md_second md_third md_side md_hang md_forms md_formMany md_seats md_now md_barAlways md_noPut md_far md_queue md_from md_by md_many md_is md_next md_rollSet md_rollAct md_rolls md_slots md_isKept) rfl dX8_trap_2 ?_
  refine x_iload_n hC 1 dX8_trap_5 rfl ?_
  refine x_callSi hC _ [] [0, 1, 2, 3, 4, 5, 6, 7, 8, 9, 10, 11, 12, 13, 14] [0, 1, 2, 3, 4, 5, 6, 7, 8, 9, 10, 11, 12, 13, 14] (W_md cI cZ md ((0 : Int32)) md_text md_textSize md_place md_letter md_first md_second md_third md_side md_hang md_forms md_formMany md_seats md_now md_barAlways md_noPut md_far md_queue md_from md_by md_many md_is md_next md_rollSet md_rollAct md_rolls md_slots md_isKept) (fun _ => W_md cI cZ md ((0 : Int32)) md_text md_textSize md_place md_letter md_first md_second md_third md_side md_hang md_forms md_formMany md_seats md_now md_barAlways md_noPut md_far md_queue md_from md_by md_many md_is md_next md_rollSet md_rollAct md_rolls md_slots md_isKept) ok_X8_noSet ml_X8_171 (c_X8_noSet (gl Γ) (gD Γ) cI cZ   p0 _ hm) (by decide) (by decide) rfl (Nat.le_of_ble_eq_true rfl) rfl rfl rfl rfl (by decide) rfl (fun _ => rfl) rfl dX8_trap_6 ?_
  rintro r_1 _ hm
  refine x_if_ne hC 19 dX8_trap_9 (by decide) (fun c_2 => ?_) (fun c_2 => ?_)
  · replace hm := hm.1 c_2
    refine x_bipush hC (-2 : Int32) dX8_trap_19 (by decide) ?_
    exact hR ((-2 : Int32)) ((0 : Int32), md_far, md_queue, md_from, md_by, md_many, md_is) [(0, .ref (md 0)), (1, .int p0), (2, .int p1)] 21 hm rfl dX8_trap_21
  · replace hm := hm.2 c_2
    refine x_iload_n hC 2 dX8_trap_12 rfl ?_
    refine x_callSi hC _ [] [0, 1, 2, 3, 4, 5, 6, 7, 8, 9, 10, 11, 12, 13, 14] [0, 1, 2, 3, 4, 5, 6, 7, 8, 9, 10, 11, 12, 13, 14] (W_md cI cZ md ((0 : Int32)) md_text md_textSize md_place md_letter md_first md_second md_third md_side md_hang md_forms md_formMany md_seats md_now md_barAlways md_noPut md_far md_queue md_from md_by md_many md_is md_next md_rollSet md_rollAct md_rolls md_slots md_isKept) (fun _ => W_md cI cZ md ((0 : Int32)) md_text md_textSize md_place md_letter md_first md_second md_third md_side md_hang md_forms md_formMany md_seats md_now md_barAlways md_noPut md_far md_queue md_from md_by md_many md_is md_next md_rollSet md_rollAct md_rolls md_slots md_isKept) ok_X8_noGoal ml_X8_177 (c_X8_noGoal (gl Γ) (gD Γ) cI cZ   p1 _ hm) (by decide) (by decide) rfl (Nat.le_of_ble_eq_true rfl) rfl rfl rfl rfl (by decide) rfl (fun _ => rfl) rfl dX8_trap_13 ?_
    rintro r_3 _ hm
    refine x_if_eq hC 22 dX8_trap_16 (by decide) (fun c_4 => ?_) (fun c_4 => ?_)
    · replace hm := hm.1 c_4
      refine x_aload_n hC 0 dX8_trap_22 rfl ?_
      refine x_iload_n hC 2 dX8_trap_23 rfl ?_
      refine x_callVv hC _ [0, 1, 2, 3, 4, 5, 6, 7, 8, 9, 10, 11, 12, 13, 14] [] [0, 1, 2, 3, 4, 5, 6, 7, 8, 9, 10, 11, 12, 13, 14] (([] : va_W)) (fun u => W_md cI cZ md ((0 : Int32)) md_text md_textSize md_place md_letter md_first md_second md_third md_side md_hang md_forms md_formMany md_seats md_now md_barAlways md_noPut (u.1) (u.2.1) (u.2.2.1) (u.2.2.2.1) (u.2.2.2.2.1) (u.2.2.2.2.2) md_next md_rollSet md_rollAct md_rolls md_slots md_isKept) ok_X8_layGood ml_X8_209 0 5 (c_X8_layGood (gl Γ) (gD Γ) cI cZ md ((0 : Int32)) md_text md_textSize md_place md_letter md_first md_second md_third md_side md_hang md_forms md_formMany md_seats md_now md_barAlways md_noPut md_far md_queue md_from md_by md_many md_is md_next md_rollSet md_rollAct md_rolls md_slots md_isKept p1 _ hm) (by decide) (by decide) rfl (Nat.le_of_ble_eq_true rfl) rfl rfl rfl rfl (by decide) rfl (fun _ => rfl) rfl rfl rfl rfl dX8_trap_24 ?_
      rintro ⟨md_far_5, md_queue_6, md_from_7, md_by_8, md_many_9, md_is_10⟩ hm
      refine x_aload_n hC 0 dX8_trap_27 rfl ?_
      refine x_aload_n hC 0 dX8_trap_28 rfl ?_
      refine x_get hC 5 inX8g 0 rfl rfl 13 (by decide) fl_X8_140 rfl dX8_trap_29 ?_
      refine x_iload_n hC 1 dX8_trap_32 rfl ?_
      refine x_iload_n hC 1 dX8_trap_33 rfl ?_
      refine x_callVv hC _ [0, 1, 2, 3, 4, 5, 6, 7, 8, 9, 10, 11, 12, 13, 14] [] [0, 1, 2, 3, 4, 5, 6, 7, 8, 9, 10, 11, 12, 13, 14] (([] : va_W)) (fun u => W_md cI cZ md ((0 : Int32)) md_text md_textSize md_place md_letter md_first md_second md_third md_side md_hang md_forms md_formMany md_seats md_now md_barAlways md_noPut (u.1) (u.2.1) (u.2.2.1) (u.2.2.2.1) (u.2.2.2.2) md_is_10 md_next md_rollSet md_rollAct md_rolls md_slots md_isKept) ok_X8_wave ml_X8_198 0 5 (c_X8_wave (gl Γ) (gD Γ) cI cZ md ((0 : Int32)) md_text md_textSize md_place md_letter md_first md_second md_third md_side md_hang md_forms md_formMany md_seats md_now md_barAlways md_noPut md_far_5 md_queue_6 md_from_7 md_by_8 md_many_9 md_is_10 md_next md_rollSet md_rollAct md_rolls md_slots md_isKept md_now p0 p0 _ hm) (by decide) (by decide) rfl (Nat.le_of_ble_eq_true rfl) rfl rfl rfl rfl (by decide) rfl (fun _ => rfl) rfl rfl rfl rfl dX8_trap_34 ?_
      rintro ⟨md_far_11, md_queue_12, md_from_13, md_by_14, md_many_15⟩ hm
      refine x_iconst hC (0 : Int32) dX8_trap_37 (by decide) ?_
      refine x_istore_n hC [(0, .ref (md 0)), (1, .int p0), (2, .int p1), (3, .int ((0 : Int32)))] [1, 2, 3, 0] dX8_trap_38 (by decide) rfl ?_
      obtain ⟨n_35, hm⟩ := hm
      refine x_lsub [0, 3] rfl ?_
      exact B_39  n_35 ((0 : Int32)) md_far_11 md_queue_12 md_from_13 md_by_14 md_many_15 md_is_10 ((0 : Int32)) hm
    · replace hm := hm.2 c_4
      refine x_bipush hC (-2 : Int32) dX8_trap_19 (by decide) ?_
      exact hR ((-2 : Int32)) ((0 : Int32), md_far, md_queue, md_from, md_by, md_many, md_is) [(0, .ref (md 0)), (1, .int p0), (2, .int p1)] 21 hm rfl dX8_trap_21

def wp_X8_unform (md_thrown : Int32) (md_formMany : Nat → Int32) (md_now : Int32) (p0 : Int32) (post : Int32 → Int32 → (Nat → Int32) → Int32 → Prop) : Prop := wp_X8_noClause  p0 (fun (r_1 : Int32) => (r_1 = 0 → vp_in p0 5 ∧ (∀ x2_3 : Int32, x2_3 = md_formMany p0.toNatClampNeg → vp_in p0 5 ∧ ∀ md_formMany_4 : Nat → Int32, md_formMany_4 = upd md_formMany p0.toNatClampNeg ((0 : Int32)) → wp_X8_put  md_now p0 ((0 : Int32)) (fun (r_5 : Int32) => post x2_3 ((0 : Int32)) md_formMany_4 r_5))) ∧ (¬ r_1 = 0 → post ((-1 : Int32)) ((0 : Int32)) md_formMany md_now))
set_option maxHeartbeats 4000000 in
set_option maxRecDepth 100000 in
theorem c_X8_unform (l : Launch) (D : va_G) (cI cZ : ClassId) (md : Nat → Nat) (md_thrown : Int32) (md_text : Nat → Int32) (md_textSize : Int32) (md_place : Int32) (md_letter : Int32) (md_first : Int32) (md_second : Int32) (md_third : Int32) (md_side : Int32) (md_hang : Int32) (md_forms : Nat → Int32) (md_formMany : Nat → Int32) (md_seats : Nat → Int32) (md_now : Int32) (md_barAlways : Int32) (md_noPut : Int32) (md_far : Nat → Int32) (md_queue : Nat → Int32) (md_from : Nat → Int32) (md_by : Nat → Int32) (md_many : Int32) (md_is : Nat → Int32) (md_next : Nat → Int32) (md_rollSet : Nat → Int32) (md_rollAct : Nat → Int32) (md_rolls : Int32) (md_slots : Nat → Int32) (md_isKept : Nat → Int32) (p0 : Int32) (post : Int32 → Int32 → (Nat → Int32) → Int32 → Prop) (hm : wp_X8_unform md_thrown md_formMany md_now p0 post) : Mi l D cI cZ yX8_unform cX8_unform 3 .int 2 45 [.ref (md 0), .int p0] (W_md cI cZ md md_thrown md_text md_textSize md_place md_letter md_first md_second md_third md_side md_hang md_forms md_formMany md_seats md_now md_barAlways md_noPut md_far md_queue md_from md_by md_many md_is md_next md_rollSet md_rollAct md_rolls md_slots md_isKept) (S := Int32 × (Nat → Int32) × Int32) (fun u => W_md cI cZ md (u.1) md_text md_textSize md_place md_letter md_first md_second md_third md_side md_hang md_forms (u.2.1) md_seats (u.2.2) md_barAlways md_noPut md_far md_queue md_from md_by md_many md_is md_next md_rollSet md_rollAct md_rolls md_slots md_isKept) (fun r u => post r u.1 u.2.1 u.2.2) := by
  refine mk_Mi (by decide +kernel) (Nat.le_of_ble_eq_true rfl) ?_
  intro Γ hl0 hD0 hC hR
  subst hl0
  subst hD0
  have hC : CX Γ cI cZ cX8_unform RX8 3 2 45 := hC
  show VV Γ (W_md cI cZ md md_thrown md_text md_textSize md_place md_letter md_first md_second md_third md_side md_hang md_forms md_formMany md_seats md_now md_barAlways md_noPut md_far md_queue md_from md_by md_many md_is md_next md_rollSet md_rollAct md_rolls md_slots md_isKept) [(0, .ref (md 0)), (1, .int p0)] 0 []
  unfold wp_X8_unform at hm
  refine x_aload_n hC 0 dX8_unform_0 rfl ?_
  refine x_iconst hC (0 : Int32) dX8_unform_1 (by decide) ?_
  refine x_put hC 5 tyX8_ok nmX8 inX8g 0 rfl rfl 0 (by decide) fl_X8_60 rfl (ty := .int) (by decide +kernel) rfl rfl (Nat.le_of_ble_eq_true rfl) (W_md cI cZ md ((0 : Int32)) md_text md_textSize md_place md_letter md_first md_second md_third md_side md_hang md_forms md_formMany md_seats md_now md_barAlways md_noPut md_far md_queue md_from md_by md_many md_is md_next md_rollSet md_rollAct md_rolls md_slots md_isKept) rfl dX8_unform_2 ?_
  refine x_iload_n hC 1 dX8_unform_5 rfl ?_
  refine x_callSi hC _ [] [0, 1, 2, 3, 4, 5, 6, 7, 8, 9, 10, 11, 12, 13, 14] [0, 1, 2, 3, 4, 5, 6, 7, 8, 9, 10, 11, 12, 13, 14] (W_md cI cZ md ((0 : Int32)) md_text md_textSize md_place md_letter md_first md_second md_third md_side md_hang md_forms md_formMany md_seats md_now md_barAlways md_noPut md_far md_queue md_from md_by md_many md_is md_next md_rollSet md_rollAct md_rolls md_slots md_isKept) (fun _ => W_md cI cZ md ((0 : Int32)) md_text md_textSize md_place md_letter md_first md_second md_third md_side md_hang md_forms md_formMany md_seats md_now md_barAlways md_noPut md_far md_queue md_from md_by md_many md_is md_next md_rollSet md_rollAct md_rolls md_slots md_isKept) ok_X8_noClause ml_X8_137 (c_X8_noClause (gl Γ) (gD Γ) cI cZ   p0 _ hm) (by decide) (by decide) rfl (Nat.le_of_ble_eq_true rfl) rfl rfl rfl rfl (by decide) rfl (fun _ => rfl) rfl dX8_unform_6 ?_
  rintro r_1 _ hm
  refine x_if_eq hC 14 dX8_unform_9 (by decide) (fun c_2 => ?_) (fun c_2 => ?_)
  · replace hm := hm.1 c_2
    refine x_aload_n hC 0 dX8_unform_14 rfl ?_
    refine x_get hC 5 inX8g 0 rfl rfl 11 (by decide) fl_X8_16 rfl dX8_unform_15 ?_
    refine x_iload_n hC 1 dX8_unform_18 rfl ?_
    refine x_iald hC 3 rfl hm.1 dX8_unform_19 ?_
    replace hm := hm.2
    refine x_top (fun x2_3 ex2_3 => ?_)
    replace hm := hm x2_3 ex2_3
    refine x_istore_n hC [(0, .ref (md 0)), (1, .int p0), (2, .int x2_3)] [1, 2, 0] dX8_unform_20 (by decide) rfl ?_
    refine x_aload_n hC 0 dX8_unform_21 rfl ?_
    refine x_get hC 5 inX8g 0 rfl rfl 11 (by decide) fl_X8_16 rfl dX8_unform_22 ?_
    refine x_iload_n hC 1 dX8_unform_25 rfl ?_
    refine x_iconst hC (0 : Int32) dX8_unform_26 (by decide) ?_
    refine x_iastN hC 3 rfl hm.1 (fun md_formMany_4 => W_md cI cZ md ((0 : Int32)) md_text md_textSize md_place md_letter md_first md_second md_third md_side md_hang md_forms md_formMany_4 md_seats md_now md_barAlways md_noPut md_far md_queue md_from md_by md_many md_is md_next md_rollSet md_rollAct md_rolls md_slots md_isKept) (fun _ => rfl) dX8_unform_27 (fun md_formMany_4 emd_formMany_4 => ?_)
    replace hm := hm.2 md_formMany_4 emd_formMany_4
    refine x_aload_n hC 0 dX8_unform_28 rfl ?_
    refine x_aload_n hC 0 dX8_unform_29 rfl ?_
    refine x_get hC 5 inX8g 0 rfl rfl 13 (by decide) fl_X8_140 rfl dX8_unform_30 ?_
    refine x_iload_n hC 1 dX8_unform_33 rfl ?_
    refine x_iconst hC (0 : Int32) dX8_unform_34 (by decide) ?_
    refine x_callSi hC _ [] [0, 1, 2, 3, 4, 5, 6, 7, 8, 9, 10, 11, 12, 13, 14] [0, 1, 2, 3, 4, 5, 6, 7, 8, 9, 10, 11, 12, 13, 14] (W_md cI cZ md ((0 : Int32)) md_text md_textSize md_place md_letter md_first md_second md_third md_side md_hang md_forms md_formMany_4 md_seats md_now md_barAlways md_noPut md_far md_queue md_from md_by md_many md_is md_next md_rollSet md_rollAct md_rolls md_slots md_isKept) (fun _ => W_md cI cZ md ((0 : Int32)) md_text md_textSize md_place md_letter md_first md_second md_third md_side md_hang md_forms md_formMany_4 md_seats md_now md_barAlways md_noPut md_far md_queue md_from md_by md_many md_is md_next md_rollSet md_rollAct md_rolls md_slots md_isKept) ok_X8_put ml_X8_143 (c_X8_put (gl Γ) (gD Γ) cI cZ   md_now p0 ((0 : Int32)) _ hm) (by decide) (by decide) rfl (Nat.le_of_ble_eq_true rfl) rfl rfl rfl rfl (by decide) rfl (fun _ => rfl) rfl dX8_unform_35 ?_
    rintro r_5 _ hm
    refine x_put hC 5 tyX8_ok nmX8 inX8g 0 rfl rfl 13 (by decide) fl_X8_140 rfl (ty := .int) (by decide +kernel) rfl rfl (Nat.le_of_ble_eq_true rfl) (W_md cI cZ md ((0 : Int32)) md_text md_textSize md_place md_letter md_first md_second md_third md_side md_hang md_forms md_formMany_4 md_seats r_5 md_barAlways md_noPut md_far md_queue md_from md_by md_many md_is md_next md_rollSet md_rollAct md_rolls md_slots md_isKept) rfl dX8_unform_38 ?_
    refine x_iload_n hC 2 dX8_unform_41 rfl ?_
    exact hR x2_3 ((0 : Int32), md_formMany_4, r_5) [(0, .ref (md 0)), (1, .int p0), (2, .int x2_3)] 42 hm rfl dX8_unform_42
  · replace hm := hm.2 c_2
    refine x_iconst hC (-1 : Int32) dX8_unform_12 (by decide) ?_
    exact hR ((-1 : Int32)) ((0 : Int32), md_formMany, md_now) [(0, .ref (md 0)), (1, .int p0)] 13 hm rfl dX8_unform_13

def wp_X8_unroll (md_thrown : Int32) (md_rolls : Int32)  (post : Int32 → Int32 → Int32 → Prop) : Prop := post md_rolls ((0 : Int32)) ((0 : Int32))
set_option maxHeartbeats 4000000 in
set_option maxRecDepth 100000 in
theorem c_X8_unroll (l : Launch) (D : va_G) (cI cZ : ClassId) (md : Nat → Nat) (md_thrown : Int32) (md_text : Nat → Int32) (md_textSize : Int32) (md_place : Int32) (md_letter : Int32) (md_first : Int32) (md_second : Int32) (md_third : Int32) (md_side : Int32) (md_hang : Int32) (md_forms : Nat → Int32) (md_formMany : Nat → Int32) (md_seats : Nat → Int32) (md_now : Int32) (md_barAlways : Int32) (md_noPut : Int32) (md_far : Nat → Int32) (md_queue : Nat → Int32) (md_from : Nat → Int32) (md_by : Nat → Int32) (md_many : Int32) (md_is : Nat → Int32) (md_next : Nat → Int32) (md_rollSet : Nat → Int32) (md_rollAct : Nat → Int32) (md_rolls : Int32) (md_slots : Nat → Int32) (md_isKept : Nat → Int32)  (post : Int32 → Int32 → Int32 → Prop) (hm : wp_X8_unroll md_thrown md_rolls  post) : Mi l D cI cZ yX8_unroll cX8_unroll 2 .int 0 0 [.ref (md 0)] (W_md cI cZ md md_thrown md_text md_textSize md_place md_letter md_first md_second md_third md_side md_hang md_forms md_formMany md_seats md_now md_barAlways md_noPut md_far md_queue md_from md_by md_many md_is md_next md_rollSet md_rollAct md_rolls md_slots md_isKept) (S := Int32 × Int32) (fun u => W_md cI cZ md (u.1) md_text md_textSize md_place md_letter md_first md_second md_third md_side md_hang md_forms md_formMany md_seats md_now md_barAlways md_noPut md_far md_queue md_from md_by md_many md_is md_next md_rollSet md_rollAct (u.2) md_slots md_isKept) (fun r u => post r u.1 u.2) := by
  refine mk_Mi (by decide +kernel) (Nat.le_of_ble_eq_true rfl) ?_
  intro Γ hl0 hD0 hC hR
  subst hl0
  subst hD0
  have hC : CX Γ cI cZ cX8_unroll RX8 2 0 0 := hC
  show VV Γ (W_md cI cZ md md_thrown md_text md_textSize md_place md_letter md_first md_second md_third md_side md_hang md_forms md_formMany md_seats md_now md_barAlways md_noPut md_far md_queue md_from md_by md_many md_is md_next md_rollSet md_rollAct md_rolls md_slots md_isKept) [(0, .ref (md 0))] 0 []
  unfold wp_X8_unroll at hm
  refine x_aload_n hC 0 dX8_unroll_0 rfl ?_
  refine x_iconst hC (0 : Int32) dX8_unroll_1 (by decide) ?_
  refine x_put hC 5 tyX8_ok nmX8 inX8g 0 rfl rfl 0 (by decide) fl_X8_60 rfl (ty := .int) (by decide +kernel) rfl rfl (Nat.le_of_ble_eq_true rfl) (W_md cI cZ md ((0 : Int32)) md_text md_textSize md_place md_letter md_first md_second md_third md_side md_hang md_forms md_formMany md_seats md_now md_barAlways md_noPut md_far md_queue md_from md_by md_many md_is md_next md_rollSet md_rollAct md_rolls md_slots md_isKept) rfl dX8_unroll_2 ?_
  refine x_aload_n hC 0 dX8_unroll_5 rfl ?_
  refine x_get hC 5 inX8g 0 rfl rfl 25 (by decide) fl_X8_234 rfl dX8_unroll_6 ?_
  refine x_istore_n hC [(0, .ref (md 0)), (1, .int md_rolls)] [1, 0] dX8_unroll_9 (by decide) rfl ?_
  refine x_aload_n hC 0 dX8_unroll_10 rfl ?_
  refine x_iconst hC (0 : Int32) dX8_unroll_11 (by decide) ?_
  refine x_put hC 5 tyX8_ok nmX8 inX8g 0 rfl rfl 25 (by decide) fl_X8_234 rfl (ty := .int) (by decide +kernel) rfl rfl (Nat.le_of_ble_eq_true rfl) (W_md cI cZ md ((0 : Int32)) md_text md_textSize md_place md_letter md_first md_second md_third md_side md_hang md_forms md_formMany md_seats md_now md_barAlways md_noPut md_far md_queue md_from md_by md_many md_is md_next md_rollSet md_rollAct ((0 : Int32)) md_slots md_isKept) rfl dX8_unroll_12 ?_
  refine x_iload_n hC 1 dX8_unroll_15 rfl ?_
  exact hR md_rolls ((0 : Int32), (0 : Int32)) [(0, .ref (md 0)), (1, .int md_rolls)] 16 hm rfl dX8_unroll_16

def wp_X8_votes (md_thrown : Int32) (md_forms : Nat → Int32) (md_seats : Nat → Int32) (md_now : Int32) (p0 : Int32) (p1 : Int32) (post : Int32 → Int32 → Prop) : Prop := wp_X8_noSet  p0 (fun (r_1 : Int32) => (r_1 = 0 → wp_X8_in  p1.toInt64 ((0 : Int64)) ((2 : Int64)) (fun (r_3 : Int32) => (r_3 = 0 → post ((-1 : Int32)) ((0 : Int32))) ∧ (¬ r_3 = 0 → wp_X8_votesIn md_forms md_seats md_now p0 p1 (fun (r_5 : Int32) => post r_5 ((0 : Int32)))))) ∧ (¬ r_1 = 0 → post ((-2 : Int32)) ((0 : Int32))))
set_option maxHeartbeats 4000000 in
set_option maxRecDepth 100000 in
theorem c_X8_votes (l : Launch) (D : va_G) (cI cZ : ClassId) (md : Nat → Nat) (md_thrown : Int32) (md_text : Nat → Int32) (md_textSize : Int32) (md_place : Int32) (md_letter : Int32) (md_first : Int32) (md_second : Int32) (md_third : Int32) (md_side : Int32) (md_hang : Int32) (md_forms : Nat → Int32) (md_formMany : Nat → Int32) (md_seats : Nat → Int32) (md_now : Int32) (md_barAlways : Int32) (md_noPut : Int32) (md_far : Nat → Int32) (md_queue : Nat → Int32) (md_from : Nat → Int32) (md_by : Nat → Int32) (md_many : Int32) (md_is : Nat → Int32) (md_next : Nat → Int32) (md_rollSet : Nat → Int32) (md_rollAct : Nat → Int32) (md_rolls : Int32) (md_slots : Nat → Int32) (md_isKept : Nat → Int32) (p0 : Int32) (p1 : Int32) (post : Int32 → Int32 → Prop) (hm : wp_X8_votes md_thrown md_forms md_seats md_now p0 p1 post) : Mi l D cI cZ yX8_votes cX8_votes 3 .int 4 93 [.ref (md 0), .int p0, .int p1] (W_md cI cZ md md_thrown md_text md_textSize md_place md_letter md_first md_second md_third md_side md_hang md_forms md_formMany md_seats md_now md_barAlways md_noPut md_far md_queue md_from md_by md_many md_is md_next md_rollSet md_rollAct md_rolls md_slots md_isKept) (S := Int32) (fun u => W_md cI cZ md u md_text md_textSize md_place md_letter md_first md_second md_third md_side md_hang md_forms md_formMany md_seats md_now md_barAlways md_noPut md_far md_queue md_from md_by md_many md_is md_next md_rollSet md_rollAct md_rolls md_slots md_isKept) (fun r u => post r u) := by
  refine mk_Mi (by decide +kernel) (Nat.le_of_ble_eq_true rfl) ?_
  intro Γ hl0 hD0 hC hR
  subst hl0
  subst hD0
  have hC : CX Γ cI cZ cX8_votes RX8 3 4 93 := hC
  show VV Γ (W_md cI cZ md md_thrown md_text md_textSize md_place md_letter md_first md_second md_third md_side md_hang md_forms md_formMany md_seats md_now md_barAlways md_noPut md_far md_queue md_from md_by md_many md_is md_next md_rollSet md_rollAct md_rolls md_slots md_isKept) [(0, .ref (md 0)), (1, .int p0), (2, .int p1)] 0 []
  unfold wp_X8_votes at hm
  refine x_aload_n hC 0 dX8_votes_0 rfl ?_
  refine x_iconst hC (0 : Int32) dX8_votes_1 (by decide) ?_
  refine x_put hC 5 tyX8_ok nmX8 inX8g 0 rfl rfl 0 (by decide) fl_X8_60 rfl (ty := .int) (by decide +kernel) rfl rfl (Nat.le_of_ble_eq_true rfl) (W_md cI cZ md ((0 : Int32)) md_text md_textSize md_place md_letter md_first md_second md_third md_side md_hang md_forms md_formMany md_seats md_now md_barAlways md_noPut md_far md_queue md_from md_by md_many md_is md_next md_rollSet md_rollAct md_rolls md_slots md_isKept) rfl dX8_votes_2 ?_
  refine x_iload_n hC 1 dX8_votes_5 rfl ?_
  refine x_callSi hC _ [] [0, 1, 2, 3, 4, 5, 6, 7, 8, 9, 10, 11, 12, 13, 14] [0, 1, 2, 3, 4, 5, 6, 7, 8, 9, 10, 11, 12, 13, 14] (W_md cI cZ md ((0 : Int32)) md_text md_textSize md_place md_letter md_first md_second md_third md_side md_hang md_forms md_formMany md_seats md_now md_barAlways md_noPut md_far md_queue md_from md_by md_many md_is md_next md_rollSet md_rollAct md_rolls md_slots md_isKept) (fun _ => W_md cI cZ md ((0 : Int32)) md_text md_textSize md_place md_letter md_first md_second md_third md_side md_hang md_forms md_formMany md_seats md_now md_barAlways md_noPut md_far md_queue md_from md_by md_many md_is md_next md_rollSet md_rollAct md_rolls md_slots md_isKept) ok_X8_noSet ml_X8_171 (c_X8_noSet (gl Γ) (gD Γ) cI cZ   p0 _ hm) (by decide) (by decide) rfl (Nat.le_of_ble_eq_true rfl) rfl rfl rfl rfl (by decide) rfl (fun _ => rfl) rfl dX8_votes_6 ?_
  rintro r_1 _ hm
  refine x_if_eq hC 15 dX8_votes_9 (by decide) (fun c_2 => ?_) (fun c_2 => ?_)
  · replace hm := hm.1 c_2
    refine x_iload_n hC 2 dX8_votes_15 rfl ?_
    refine x_i2l hC dX8_votes_16 ?_
    refine x_lconst hC (0 : Int64) dX8_votes_17 (by decide) ?_
    refine x_ldc2 hC kl_X8_149 dX8_votes_18 ?_
    refine x_callSi hC _ [] [0, 1, 2, 3, 4, 5, 6, 7, 8, 9, 10, 11, 12, 13, 14] [0, 1, 2, 3, 4, 5, 6, 7, 8, 9, 10, 11, 12, 13, 14] (W_md cI cZ md ((0 : Int32)) md_text md_textSize md_place md_letter md_first md_second md_third md_side md_hang md_forms md_formMany md_seats md_now md_barAlways md_noPut md_far md_queue md_from md_by md_many md_is md_next md_rollSet md_rollAct md_rolls md_slots md_isKept) (fun _ => W_md cI cZ md ((0 : Int32)) md_text md_textSize md_place md_letter md_first md_second md_third md_side md_hang md_forms md_formMany md_seats md_now md_barAlways md_noPut md_far md_queue md_from md_by md_many md_is md_next md_rollSet md_rollAct md_rolls md_slots md_isKept) ok_X8_in ml_X8_65 (c_X8_in (gl Γ) (gD Γ) cI cZ   p1.toInt64 ((0 : Int64)) ((2 : Int64)) _ hm) (by decide) (by decide) rfl (Nat.le_of_ble_eq_true rfl) rfl rfl rfl rfl (by decide) rfl (fun _ => rfl) rfl dX8_votes_21 ?_
    rintro r_3 _ hm
    refine x_if_eq hC 40 dX8_votes_24 (by decide) (fun c_4 => ?_) (fun c_4 => ?_)
    · replace hm := hm.1 c_4
      refine x_iconst hC (-1 : Int32) dX8_votes_40 (by decide) ?_
      exact hR ((-1 : Int32)) (0 : Int32) [(0, .ref (md 0)), (1, .int p0), (2, .int p1)] 41 hm rfl dX8_votes_41
    · replace hm := hm.2 c_4
      refine x_aload_n hC 0 dX8_votes_27 rfl ?_
      refine x_aload_n hC 0 dX8_votes_28 rfl ?_
      refine x_get hC 5 inX8g 0 rfl rfl 13 (by decide) fl_X8_140 rfl dX8_votes_29 ?_
      refine x_iload_n hC 1 dX8_votes_32 rfl ?_
      refine x_iload_n hC 2 dX8_votes_33 rfl ?_
      refine x_callVi hC _ [0, 1, 2, 3, 4, 5, 6, 7, 8, 9, 10, 11, 12, 13, 14] [] [0, 1, 2, 3, 4, 5, 6, 7, 8, 9, 10, 11, 12, 13, 14] (([] : va_W)) (fun _ => W_md cI cZ md ((0 : Int32)) md_text md_textSize md_place md_letter md_first md_second md_third md_side md_hang md_forms md_formMany md_seats md_now md_barAlways md_noPut md_far md_queue md_from md_by md_many md_is md_next md_rollSet md_rollAct md_rolls md_slots md_isKept) ok_X8_votesIn ml_X8_174 0 5 (c_X8_votesIn (gl Γ) (gD Γ) cI cZ md ((0 : Int32)) md_text md_textSize md_place md_letter md_first md_second md_third md_side md_hang md_forms md_formMany md_seats md_now md_barAlways md_noPut md_far md_queue md_from md_by md_many md_is md_next md_rollSet md_rollAct md_rolls md_slots md_isKept md_now p0 p1 _ hm) (by decide) (by decide) rfl (Nat.le_of_ble_eq_true rfl) rfl rfl rfl rfl (by decide) rfl (fun _ => rfl) rfl rfl rfl rfl dX8_votes_34 ?_
      rintro r_5 _ hm
      refine x_goto hC 41 dX8_votes_37 (by decide) ?_
      exact hR r_5 (0 : Int32) [(0, .ref (md 0)), (1, .int p0), (2, .int p1)] 41 hm rfl dX8_votes_41
  · replace hm := hm.2 c_2
    refine x_bipush hC (-2 : Int32) dX8_votes_12 (by decide) ?_
    exact hR ((-2 : Int32)) (0 : Int32) [(0, .ref (md 0)), (1, .int p0), (2, .int p1)] 14 hm rfl dX8_votes_14

def wp_X8_which (md_thrown : Int32) (md_forms : Nat → Int32) (md_formMany : Nat → Int32) (md_seats : Nat → Int32) (md_now : Int32) (md_barAlways : Int32) (md_noPut : Int32) (p0 : Int32) (p1 : Int32) (post : Int32 → Int32 → Prop) : Prop := wp_X8_noSet  p0 (fun (r_1 : Int32) => (r_1 = 0 → wp_X8_actAt md_forms md_formMany md_seats md_barAlways md_noPut md_now p0 p1 (fun (r_3 : Int32) => post r_3 ((0 : Int32)))) ∧ (¬ r_1 = 0 → post ((-2 : Int32)) ((0 : Int32))))
set_option maxHeartbeats 4000000 in
set_option maxRecDepth 100000 in
theorem c_X8_which (l : Launch) (D : va_G) (cI cZ : ClassId) (md : Nat → Nat) (md_thrown : Int32) (md_text : Nat → Int32) (md_textSize : Int32) (md_place : Int32) (md_letter : Int32) (md_first : Int32) (md_second : Int32) (md_third : Int32) (md_side : Int32) (md_hang : Int32) (md_forms : Nat → Int32) (md_formMany : Nat → Int32) (md_seats : Nat → Int32) (md_now : Int32) (md_barAlways : Int32) (md_noPut : Int32) (md_far : Nat → Int32) (md_queue : Nat → Int32) (md_from : Nat → Int32) (md_by : Nat → Int32) (md_many : Int32) (md_is : Nat → Int32) (md_next : Nat → Int32) (md_rollSet : Nat → Int32) (md_rollAct : Nat → Int32) (md_rolls : Int32) (md_slots : Nat → Int32) (md_isKept : Nat → Int32) (p0 : Int32) (p1 : Int32) (post : Int32 → Int32 → Prop) (hm : wp_X8_which md_thrown md_forms md_formMany md_seats md_now md_barAlways md_noPut p0 p1 post) : Mi l D cI cZ yX8_which cX8_which 3 .int 6 146 [.ref (md 0), .int p0, .int p1] (W_md cI cZ md md_thrown md_text md_textSize md_place md_letter md_first md_second md_third md_side md_hang md_forms md_formMany md_seats md_now md_barAlways md_noPut md_far md_queue md_from md_by md_many md_is md_next md_rollSet md_rollAct md_rolls md_slots md_isKept) (S := Int32) (fun u => W_md cI cZ md u md_text md_textSize md_place md_letter md_first md_second md_third md_side md_hang md_forms md_formMany md_seats md_now md_barAlways md_noPut md_far md_queue md_from md_by md_many md_is md_next md_rollSet md_rollAct md_rolls md_slots md_isKept) (fun r u => post r u) := by
  refine mk_Mi (by decide +kernel) (Nat.le_of_ble_eq_true rfl) ?_
  intro Γ hl0 hD0 hC hR
  subst hl0
  subst hD0
  have hC : CX Γ cI cZ cX8_which RX8 3 6 146 := hC
  show VV Γ (W_md cI cZ md md_thrown md_text md_textSize md_place md_letter md_first md_second md_third md_side md_hang md_forms md_formMany md_seats md_now md_barAlways md_noPut md_far md_queue md_from md_by md_many md_is md_next md_rollSet md_rollAct md_rolls md_slots md_isKept) [(0, .ref (md 0)), (1, .int p0), (2, .int p1)] 0 []
  unfold wp_X8_which at hm
  refine x_aload_n hC 0 dX8_which_0 rfl ?_
  refine x_iconst hC (0 : Int32) dX8_which_1 (by decide) ?_
  refine x_put hC 5 tyX8_ok nmX8 inX8g 0 rfl rfl 0 (by decide) fl_X8_60 rfl (ty := .int) (by decide +kernel) rfl rfl (Nat.le_of_ble_eq_true rfl) (W_md cI cZ md ((0 : Int32)) md_text md_textSize md_place md_letter md_first md_second md_third md_side md_hang md_forms md_formMany md_seats md_now md_barAlways md_noPut md_far md_queue md_from md_by md_many md_is md_next md_rollSet md_rollAct md_rolls md_slots md_isKept) rfl dX8_which_2 ?_
  refine x_iload_n hC 1 dX8_which_5 rfl ?_
  refine x_callSi hC _ [] [0, 1, 2, 3, 4, 5, 6, 7, 8, 9, 10, 11, 12, 13, 14] [0, 1, 2, 3, 4, 5, 6, 7, 8, 9, 10, 11, 12, 13, 14] (W_md cI cZ md ((0 : Int32)) md_text md_textSize md_place md_letter md_first md_second md_third md_side md_hang md_forms md_formMany md_seats md_now md_barAlways md_noPut md_far md_queue md_from md_by md_many md_is md_next md_rollSet md_rollAct md_rolls md_slots md_isKept) (fun _ => W_md cI cZ md ((0 : Int32)) md_text md_textSize md_place md_letter md_first md_second md_third md_side md_hang md_forms md_formMany md_seats md_now md_barAlways md_noPut md_far md_queue md_from md_by md_many md_is md_next md_rollSet md_rollAct md_rolls md_slots md_isKept) ok_X8_noSet ml_X8_171 (c_X8_noSet (gl Γ) (gD Γ) cI cZ   p0 _ hm) (by decide) (by decide) rfl (Nat.le_of_ble_eq_true rfl) rfl rfl rfl rfl (by decide) rfl (fun _ => rfl) rfl dX8_which_6 ?_
  rintro r_1 _ hm
  refine x_if_eq hC 17 dX8_which_9 (by decide) (fun c_2 => ?_) (fun c_2 => ?_)
  · replace hm := hm.1 c_2
    refine x_aload_n hC 0 dX8_which_17 rfl ?_
    refine x_aload_n hC 0 dX8_which_18 rfl ?_
    refine x_get hC 5 inX8g 0 rfl rfl 13 (by decide) fl_X8_140 rfl dX8_which_19 ?_
    refine x_iload_n hC 1 dX8_which_22 rfl ?_
    refine x_iload_n hC 2 dX8_which_23 rfl ?_
    refine x_callVi hC _ [0, 1, 2, 3, 4, 5, 6, 7, 8, 9, 10, 11, 12, 13, 14] [] [0, 1, 2, 3, 4, 5, 6, 7, 8, 9, 10, 11, 12, 13, 14] (([] : va_W)) (fun _ => W_md cI cZ md ((0 : Int32)) md_text md_textSize md_place md_letter md_first md_second md_third md_side md_hang md_forms md_formMany md_seats md_now md_barAlways md_noPut md_far md_queue md_from md_by md_many md_is md_next md_rollSet md_rollAct md_rolls md_slots md_isKept) ok_X8_actAt ml_X8_189 0 5 (c_X8_actAt (gl Γ) (gD Γ) cI cZ md ((0 : Int32)) md_text md_textSize md_place md_letter md_first md_second md_third md_side md_hang md_forms md_formMany md_seats md_now md_barAlways md_noPut md_far md_queue md_from md_by md_many md_is md_next md_rollSet md_rollAct md_rolls md_slots md_isKept md_now p0 p1 _ hm) (by decide) (by decide) rfl (Nat.le_of_ble_eq_true rfl) rfl rfl rfl rfl (by decide) rfl (fun _ => rfl) rfl rfl rfl rfl dX8_which_24 ?_
    rintro r_3 _ hm
    exact hR r_3 (0 : Int32) [(0, .ref (md 0)), (1, .int p0), (2, .int p1)] 27 hm rfl dX8_which_27
  · replace hm := hm.2 c_2
    refine x_bipush hC (-2 : Int32) dX8_which_12 (by decide) ?_
    refine x_goto hC 27 dX8_which_14 (by decide) ?_
    exact hR ((-2 : Int32)) (0 : Int32) [(0, .ref (md 0)), (1, .int p0), (2, .int p1)] 27 hm rfl dX8_which_27

def wpL_X8_who_23 (md_forms : Nat → Int32) (md_formMany : Nat → Int32) (md_seats : Nat → Int32) (md_now : Int32) (md_barAlways : Int32) (md_noPut : Int32)  (post : Int32 → Int32 → (Nat → Int32) → (Nat → Int32) → (Nat → Int32) → (Nat → Int32) → Int32 → Prop) : Nat → Int32 → (Nat → Int32) → (Nat → Int32) → (Nat → Int32) → (Nat → Int32) → Int32 → Int32 → Int32 → Int32 → Int32 → Prop
  | 0, _, _, _, _, _, _, _, _, _, _ => False
  | n + 1, md_thrown_3, md_far_4, md_queue_5, md_from_6, md_by_7, md_many_8, x1_9, x2_10, x3_11, x4_12 => (((15 : Int32)) < x4_12 → post x2_10 md_thrown_3 md_far_4 md_queue_5 md_from_6 md_by_7 md_many_8) ∧ (¬ ((15 : Int32)) < x4_12 → ∀ x5_14 : Int32, x5_14 = (((x4_12 &&& ((1 : Int32))) + ((x4_12 >>> (((1 : Int32)) &&& 31)) &&& ((1 : Int32)))) + ((x4_12 >>> (((2 : Int32)) &&& 31)) &&& ((1 : Int32)))) + (x4_12 >>> (((3 : Int32)) &&& 31)) → (x3_11 ≤ x5_14 → ∀ x4_16 : Int32, x4_16 = x4_12 + (1 : Int32) → (wpL_X8_who_23 md_forms md_formMany md_seats md_now md_barAlways md_noPut  post n) md_thrown_3 md_far_4 md_queue_5 md_from_6 md_by_7 md_many_8 x1_9 x2_10 x3_11 x4_16) ∧ (¬ x3_11 ≤ x5_14 → wp_X8_wave md_forms md_formMany md_seats md_barAlways md_noPut md_far_4 md_queue_5 md_from_6 md_by_7 md_many_8 md_now x4_12 x4_12 (fun (md_far_17 : Nat → Int32) (md_queue_18 : Nat → Int32) (md_from_19 : Nat → Int32) (md_by_20 : Nat → Int32) (md_many_21 : Int32) => wp_X8_firstSo md_queue_18 md_many_21 x1_9 (fun (r_22 : Int32) => (r_22 = ((-9 : Int32)) → ∀ x4_24 : Int32, x4_24 = x4_12 + (1 : Int32) → (wpL_X8_who_23 md_forms md_formMany md_seats md_now md_barAlways md_noPut  post n) md_thrown_3 md_far_17 md_queue_18 md_from_19 md_by_20 md_many_21 x1_9 x2_10 x3_11 x4_24) ∧ (¬ r_22 = ((-9 : Int32)) → ∀ x4_25 : Int32, x4_25 = x4_12 + (1 : Int32) → (wpL_X8_who_23 md_forms md_formMany md_seats md_now md_barAlways md_noPut  post n) md_thrown_3 md_far_17 md_queue_18 md_from_19 md_by_20 md_many_21 x1_9 x4_12 x5_14 x4_25)))))
def wp_X8_who (md_thrown : Int32) (md_forms : Nat → Int32) (md_formMany : Nat → Int32) (md_seats : Nat → Int32) (md_now : Int32) (md_barAlways : Int32) (md_noPut : Int32) (md_far : Nat → Int32) (md_queue : Nat → Int32) (md_from : Nat → Int32) (md_by : Nat → Int32) (md_many : Int32) (p0 : Int32) (post : Int32 → Int32 → (Nat → Int32) → (Nat → Int32) → (Nat → Int32) → (Nat → Int32) → Int32 → Prop) : Prop := wp_X8_noGoal  p0 (fun (r_1 : Int32) => (r_1 = 0 → ∃ k23, wpL_X8_who_23 md_forms md_formMany md_seats md_now md_barAlways md_noPut  post k23 ((0 : Int32)) md_far md_queue md_from md_by md_many p0 ((-9 : Int32)) ((5 : Int32)) ((0 : Int32))) ∧ (¬ r_1 = 0 → post ((-2 : Int32)) ((0 : Int32)) md_far md_queue md_from md_by md_many))
set_option maxHeartbeats 4000000 in
set_option maxRecDepth 100000 in
theorem c_X8_who (l : Launch) (D : va_G) (cI cZ : ClassId) (md : Nat → Nat) (md_thrown : Int32) (md_text : Nat → Int32) (md_textSize : Int32) (md_place : Int32) (md_letter : Int32) (md_first : Int32) (md_second : Int32) (md_third : Int32) (md_side : Int32) (md_hang : Int32) (md_forms : Nat → Int32) (md_formMany : Nat → Int32) (md_seats : Nat → Int32) (md_now : Int32) (md_barAlways : Int32) (md_noPut : Int32) (md_far : Nat → Int32) (md_queue : Nat → Int32) (md_from : Nat → Int32) (md_by : Nat → Int32) (md_many : Int32) (md_is : Nat → Int32) (md_next : Nat → Int32) (md_rollSet : Nat → Int32) (md_rollAct : Nat → Int32) (md_rolls : Int32) (md_slots : Nat → Int32) (md_isKept : Nat → Int32) (p0 : Int32) (post : Int32 → Int32 → (Nat → Int32) → (Nat → Int32) → (Nat → Int32) → (Nat → Int32) → Int32 → Prop) (hm : wp_X8_who md_thrown md_forms md_formMany md_seats md_now md_barAlways md_noPut md_far md_queue md_from md_by md_many p0 post) : Mi l D cI cZ yX8_who cX8_who 6 .int 6 148 [.ref (md 0), .int p0] (W_md cI cZ md md_thrown md_text md_textSize md_place md_letter md_first md_second md_third md_side md_hang md_forms md_formMany md_seats md_now md_barAlways md_noPut md_far md_queue md_from md_by md_many md_is md_next md_rollSet md_rollAct md_rolls md_slots md_isKept) (S := Int32 × (Nat → Int32) × (Nat → Int32) × (Nat → Int32) × (Nat → Int32) × Int32) (fun u => W_md cI cZ md (u.1) md_text md_textSize md_place md_letter md_first md_second md_third md_side md_hang md_forms md_formMany md_seats md_now md_barAlways md_noPut (u.2.1) (u.2.2.1) (u.2.2.2.1) (u.2.2.2.2.1) (u.2.2.2.2.2) md_is md_next md_rollSet md_rollAct md_rolls md_slots md_isKept) (fun r u => post r u.1 u.2.1 u.2.2.1 u.2.2.2.1 u.2.2.2.2.1 u.2.2.2.2.2) := by
  refine mk_Mi (by decide +kernel) (Nat.le_of_ble_eq_true rfl) ?_
  intro Γ hl0 hD0 hC hR
  subst hl0
  subst hD0
  have hC : CX Γ cI cZ cX8_who RX8 6 6 148 := hC
  show VV Γ (W_md cI cZ md md_thrown md_text md_textSize md_place md_letter md_first md_second md_third md_side md_hang md_forms md_formMany md_seats md_now md_barAlways md_noPut md_far md_queue md_from md_by md_many md_is md_next md_rollSet md_rollAct md_rolls md_slots md_isKept) [(0, .ref (md 0)), (1, .int p0)] 0 []
  have B_23 : ∀ (n : Nat) (md_thrown_3 : Int32) (md_far_4 : Nat → Int32) (md_queue_5 : Nat → Int32) (md_from_6 : Nat → Int32) (md_by_7 : Nat → Int32) (md_many_8 : Int32) (x1_9 : Int32) (x2_10 : Int32) (x3_11 : Int32) (x4_12 : Int32), wpL_X8_who_23 md_forms md_formMany md_seats md_now md_barAlways md_noPut  post n md_thrown_3 md_far_4 md_queue_5 md_from_6 md_by_7 md_many_8 x1_9 x2_10 x3_11 x4_12 → VV Γ (W_md cI cZ md md_thrown_3 md_text md_textSize md_place md_letter md_first md_second md_third md_side md_hang md_forms md_formMany md_seats md_now md_barAlways md_noPut md_far_4 md_queue_5 md_from_6 md_by_7 md_many_8 md_is md_next md_rollSet md_rollAct md_rolls md_slots md_isKept) [(0, .ref (md 0)), (1, .int x1_9), (2, .int x2_10), (3, .int x3_11), (4, .int x4_12)] 23 [] := by
    intro  n
    induction n with
    | zero => intro md_thrown_3 md_far_4 md_queue_5 md_from_6 md_by_7 md_many_8 x1_9 x2_10 x3_11 x4_12 hm; rw [wpL_X8_who_23] at hm; exact hm.elim
    | succ n ih =>
      intro md_thrown_3 md_far_4 md_queue_5 md_from_6 md_by_7 md_many_8 x1_9 x2_10 x3_11 x4_12 hm
      rw [wpL_X8_who_23] at hm
      refine x_iload hC 4 dX8_who_23 rfl ?_
      refine x_bipush hC (15 : Int32) dX8_who_25 (by decide) ?_
      refine x_icmp_gt hC 95 dX8_who_27 (by decide) (fun c_13 => ?_) (fun c_13 => ?_)
      · replace hm := hm.1 c_13
        refine x_iload_n hC 2 dX8_who_95 rfl ?_
        exact hR x2_10 (md_thrown_3, md_far_4, md_queue_5, md_from_6, md_by_7, md_many_8) [(0, .ref (md 0)), (1, .int x1_9), (2, .int x2_10), (3, .int x3_11), (4, .int x4_12)] 96 hm rfl dX8_who_96
      · replace hm := hm.2 c_13
        refine x_iload hC 4 dX8_who_30 rfl ?_
        refine x_iconst hC (1 : Int32) dX8_who_32 (by decide) ?_
        refine x_iand hC dX8_who_33 ?_
        refine x_iload hC 4 dX8_who_34 rfl ?_
        refine x_iconst hC (1 : Int32) dX8_who_36 (by decide) ?_
        refine x_ishr hC dX8_who_37 ?_
        refine x_iconst hC (1 : Int32) dX8_who_38 (by decide) ?_
        refine x_iand hC dX8_who_39 ?_
        refine x_iadd hC dX8_who_40 ?_
        refine x_iload hC 4 dX8_who_41 rfl ?_
        refine x_iconst hC (2 : Int32) dX8_who_43 (by decide) ?_
        refine x_ishr hC dX8_who_44 ?_
        refine x_iconst hC (1 : Int32) dX8_who_45 (by decide) ?_
        refine x_iand hC dX8_who_46 ?_
        refine x_iadd hC dX8_who_47 ?_
        refine x_iload hC 4 dX8_who_48 rfl ?_
        refine x_iconst hC (3 : Int32) dX8_who_50 (by decide) ?_
        refine x_ishr hC dX8_who_51 ?_
        refine x_iadd hC dX8_who_52 ?_
        refine x_top (fun x5_14 ex5_14 => ?_)
        replace hm := hm x5_14 ex5_14
        refine x_istore hC [(0, .ref (md 0)), (1, .int x1_9), (2, .int x2_10), (3, .int x3_11), (4, .int x4_12), (5, .int x5_14)] [1, 2, 3, 4, 5, 0] dX8_who_53 (by decide) rfl ?_
        refine x_iload hC 5 dX8_who_55 rfl ?_
        refine x_iload_n hC 3 dX8_who_57 rfl ?_
        refine x_icmp_ge hC 89 dX8_who_58 (by decide) (fun c_15 => ?_) (fun c_15 => ?_)
        · replace hm := hm.1 c_15
          obtain ⟨x4_16, ex4_16⟩ : ∃ y : Int32, y = x4_12 + (1 : Int32) := ⟨_, rfl⟩
          replace hm := hm x4_16 ex4_16
          refine x_iinc hC 4 x4_16 [(0, .ref (md 0)), (1, .int x1_9), (2, .int x2_10), (3, .int x3_11), (4, .int x4_16), (5, .int x5_14)] [1, 2, 3, 4, 0, 5] dX8_who_89 rfl (by rw [ex4_16]; rfl) (by decide) rfl ?_
          refine x_goto hC 23 dX8_who_92 (by decide) ?_
          refine x_lsub [0, 1, 2, 3, 4] rfl ?_
          exact ih md_thrown_3 md_far_4 md_queue_5 md_from_6 md_by_7 md_many_8 x1_9 x2_10 x3_11 x4_16 hm
        · replace hm := hm.2 c_15
          refine x_aload_n hC 0 dX8_who_61 rfl ?_
          refine x_aload_n hC 0 dX8_who_62 rfl ?_
          refine x_get hC 5 inX8g 0 rfl rfl 13 (by decide) fl_X8_140 rfl dX8_who_63 ?_
          refine x_iload hC 4 dX8_who_66 rfl ?_
          refine x_iload hC 4 dX8_who_68 rfl ?_
          refine x_callVv hC _ [0, 1, 2, 3, 4, 5, 6, 7, 8, 9, 10, 11, 12, 13, 14] [] [0, 1, 2, 3, 4, 5, 6, 7, 8, 9, 10, 11, 12, 13, 14] (([] : va_W)) (fun u => W_md cI cZ md md_thrown_3 md_text md_textSize md_place md_letter md_first md_second md_third md_side md_hang md_forms md_formMany md_seats md_now md_barAlways md_noPut (u.1) (u.2.1) (u.2.2.1) (u.2.2.2.1) (u.2.2.2.2) md_is md_next md_rollSet md_rollAct md_rolls md_slots md_isKept) ok_X8_wave ml_X8_198 0 5 (c_X8_wave (gl Γ) (gD Γ) cI cZ md md_thrown_3 md_text md_textSize md_place md_letter md_first md_second md_third md_side md_hang md_forms md_formMany md_seats md_now md_barAlways md_noPut md_far_4 md_queue_5 md_from_6 md_by_7 md_many_8 md_is md_next md_rollSet md_rollAct md_rolls md_slots md_isKept md_now x4_12 x4_12 _ hm) (by decide) (by decide) rfl (Nat.le_of_ble_eq_true rfl) rfl rfl rfl rfl (by decide) rfl (fun _ => rfl) rfl rfl rfl rfl dX8_who_70 ?_
          rintro ⟨md_far_17, md_queue_18, md_from_19, md_by_20, md_many_21⟩ hm
          refine x_aload_n hC 0 dX8_who_73 rfl ?_
          refine x_iload_n hC 1 dX8_who_74 rfl ?_
          refine x_callVi hC _ [0, 1, 2, 3, 4, 5, 6, 7, 8, 9, 10, 11, 12, 13, 14] [] [0, 1, 2, 3, 4, 5, 6, 7, 8, 9, 10, 11, 12, 13, 14] (([] : va_W)) (fun _ => W_md cI cZ md md_thrown_3 md_text md_textSize md_place md_letter md_first md_second md_third md_side md_hang md_forms md_formMany md_seats md_now md_barAlways md_noPut md_far_17 md_queue_18 md_from_19 md_by_20 md_many_21 md_is md_next md_rollSet md_rollAct md_rolls md_slots md_isKept) ok_X8_firstSo ml_X8_206 0 5 (c_X8_firstSo (gl Γ) (gD Γ) cI cZ md md_thrown_3 md_text md_textSize md_place md_letter md_first md_second md_third md_side md_hang md_forms md_formMany md_seats md_now md_barAlways md_noPut md_far_17 md_queue_18 md_from_19 md_by_20 md_many_21 md_is md_next md_rollSet md_rollAct md_rolls md_slots md_isKept x1_9 _ hm) (by decide) (by decide) rfl (Nat.le_of_ble_eq_true rfl) rfl rfl rfl rfl (by decide) rfl (fun _ => rfl) rfl rfl rfl rfl dX8_who_75 ?_
          rintro r_22 _ hm
          refine x_bipush hC (-9 : Int32) dX8_who_78 (by decide) ?_
          refine x_icmp_eq hC 89 dX8_who_80 (by decide) (fun c_23 => ?_) (fun c_23 => ?_)
          · replace hm := hm.1 c_23
            obtain ⟨x4_24, ex4_24⟩ : ∃ y : Int32, y = x4_12 + (1 : Int32) := ⟨_, rfl⟩
            replace hm := hm x4_24 ex4_24
            refine x_iinc hC 4 x4_24 [(0, .ref (md 0)), (1, .int x1_9), (2, .int x2_10), (3, .int x3_11), (4, .int x4_24), (5, .int x5_14)] [1, 2, 3, 4, 0, 5] dX8_who_89 rfl (by rw [ex4_24]; rfl) (by decide) rfl ?_
            refine x_goto hC 23 dX8_who_92 (by decide) ?_
            refine x_lsub [0, 1, 2, 3, 4] rfl ?_
            exact ih md_thrown_3 md_far_17 md_queue_18 md_from_19 md_by_20 md_many_21 x1_9 x2_10 x3_11 x4_24 hm
          · replace hm := hm.2 c_23
            refine x_iload hC 5 dX8_who_83 rfl ?_
            refine x_istore_n hC [(0, .ref (md 0)), (1, .int x1_9), (2, .int x2_10), (3, .int x5_14), (4, .int x4_12), (5, .int x5_14)] [1, 2, 3, 0, 4, 5] dX8_who_85 (by decide) rfl ?_
            refine x_iload hC 4 dX8_who_86 rfl ?_
            refine x_istore_n hC [(0, .ref (md 0)), (1, .int x1_9), (2, .int x4_12), (3, .int x5_14), (4, .int x4_12), (5, .int x5_14)] [1, 2, 0, 3, 4, 5] dX8_who_88 (by decide) rfl ?_
            obtain ⟨x4_25, ex4_25⟩ : ∃ y : Int32, y = x4_12 + (1 : Int32) := ⟨_, rfl⟩
            replace hm := hm x4_25 ex4_25
            refine x_iinc hC 4 x4_25 [(0, .ref (md 0)), (1, .int x1_9), (2, .int x4_12), (3, .int x5_14), (4, .int x4_25), (5, .int x5_14)] [1, 2, 3, 4, 0, 5] dX8_who_89 rfl (by rw [ex4_25]; rfl) (by decide) rfl ?_
            refine x_goto hC 23 dX8_who_92 (by decide) ?_
            refine x_lsub [0, 1, 2, 3, 4] rfl ?_
            exact ih md_thrown_3 md_far_17 md_queue_18 md_from_19 md_by_20 md_many_21 x1_9 x4_12 x5_14 x4_25 hm
  unfold wp_X8_who at hm
  refine x_aload_n hC 0 dX8_who_0 rfl ?_
  refine x_iconst hC (0 : Int32) dX8_who_1 (by decide) ?_
  refine x_put hC 5 tyX8_ok nmX8 inX8g 0 rfl rfl 0 (by decide) fl_X8_60 rfl (ty := .int) (by decide +kernel) rfl rfl (Nat.le_of_ble_eq_true rfl) (W_md cI cZ md ((0 : Int32)) md_text md_textSize md_place md_letter md_first md_second md_third md_side md_hang md_forms md_formMany md_seats md_now md_barAlways md_noPut md_far md_queue md_from md_by md_many md_is md_next md_rollSet md_rollAct md_rolls md_slots md_isKept) rfl dX8_who_2 ?_
  refine x_iload_n hC 1 dX8_who_5 rfl ?_
  refine x_callSi hC _ [] [0, 1, 2, 3, 4, 5, 6, 7, 8, 9, 10, 11, 12, 13, 14] [0, 1, 2, 3, 4, 5, 6, 7, 8, 9, 10, 11, 12, 13, 14] (W_md cI cZ md ((0 : Int32)) md_text md_textSize md_place md_letter md_first md_second md_third md_side md_hang md_forms md_formMany md_seats md_now md_barAlways md_noPut md_far md_queue md_from md_by md_many md_is md_next md_rollSet md_rollAct md_rolls md_slots md_isKept) (fun _ => W_md cI cZ md ((0 : Int32)) md_text md_textSize md_place md_letter md_first md_second md_third md_side md_hang md_forms md_formMany md_seats md_now md_barAlways md_noPut md_far md_queue md_from md_by md_many md_is md_next md_rollSet md_rollAct md_rolls md_slots md_isKept) ok_X8_noGoal ml_X8_177 (c_X8_noGoal (gl Γ) (gD Γ) cI cZ   p0 _ hm) (by decide) (by decide) rfl (Nat.le_of_ble_eq_true rfl) rfl rfl rfl rfl (by decide) rfl (fun _ => rfl) rfl dX8_who_6 ?_
  rintro r_1 _ hm
  refine x_if_eq hC 15 dX8_who_9 (by decide) (fun c_2 => ?_) (fun c_2 => ?_)
  · replace hm := hm.1 c_2
    refine x_bipush hC (-9 : Int32) dX8_who_15 (by decide) ?_
    refine x_istore_n hC [(0, .ref (md 0)), (1, .int p0), (2, .int ((-9 : Int32)))] [1, 2, 0] dX8_who_17 (by decide) rfl ?_
    refine x_iconst hC (5 : Int32) dX8_who_18 (by decide) ?_
    refine x_istore_n hC [(0, .ref (md 0)), (1, .int p0), (2, .int ((-9 : Int32))), (3, .int ((5 : Int32)))] [1, 2, 3, 0] dX8_who_19 (by decide) rfl ?_
    refine x_iconst hC (0 : Int32) dX8_who_20 (by decide) ?_
    refine x_istore hC [(0, .ref (md 0)), (1, .int p0), (2, .int ((-9 : Int32))), (3, .int ((5 : Int32))), (4, .int ((0 : Int32)))] [1, 2, 3, 4, 0] dX8_who_21 (by decide) rfl ?_
    obtain ⟨n_26, hm⟩ := hm
    exact B_23  n_26 ((0 : Int32)) md_far md_queue md_from md_by md_many p0 ((-9 : Int32)) ((5 : Int32)) ((0 : Int32)) hm
  · replace hm := hm.2 c_2
    refine x_bipush hC (-2 : Int32) dX8_who_12 (by decide) ?_
    exact hR ((-2 : Int32)) ((0 : Int32), md_far, md_queue, md_from, md_by, md_many) [(0, .ref (md 0)), (1, .int p0)] 14 hm rfl dX8_who_14

def wp_X8_why (md_thrown : Int32) (md_forms : Nat → Int32) (md_formMany : Nat → Int32) (md_seats : Nat → Int32) (md_now : Int32) (md_barAlways : Int32) (md_noPut : Int32) (p0 : Int32) (p1 : Int32) (post : Int32 → Int32 → Prop) : Prop := wp_X8_noSet  p0 (fun (r_1 : Int32) => (¬ r_1 = 0 → post ((-2 : Int32)) ((0 : Int32))) ∧ (r_1 = 0 → wp_X8_noAct  p1 (fun (r_3 : Int32) => (r_3 = 0 → wp_X8_whyNot md_forms md_formMany md_seats md_barAlways md_noPut md_now p0 p1 (fun (r_5 : Int32) => post r_5 ((0 : Int32)))) ∧ (¬ r_3 = 0 → post ((-2 : Int32)) ((0 : Int32))))))
set_option maxHeartbeats 4000000 in
set_option maxRecDepth 100000 in
theorem c_X8_why (l : Launch) (D : va_G) (cI cZ : ClassId) (md : Nat → Nat) (md_thrown : Int32) (md_text : Nat → Int32) (md_textSize : Int32) (md_place : Int32) (md_letter : Int32) (md_first : Int32) (md_second : Int32) (md_third : Int32) (md_side : Int32) (md_hang : Int32) (md_forms : Nat → Int32) (md_formMany : Nat → Int32) (md_seats : Nat → Int32) (md_now : Int32) (md_barAlways : Int32) (md_noPut : Int32) (md_far : Nat → Int32) (md_queue : Nat → Int32) (md_from : Nat → Int32) (md_by : Nat → Int32) (md_many : Int32) (md_is : Nat → Int32) (md_next : Nat → Int32) (md_rollSet : Nat → Int32) (md_rollAct : Nat → Int32) (md_rolls : Int32) (md_slots : Nat → Int32) (md_isKept : Nat → Int32) (p0 : Int32) (p1 : Int32) (post : Int32 → Int32 → Prop) (hm : wp_X8_why md_thrown md_forms md_formMany md_seats md_now md_barAlways md_noPut p0 p1 post) : Mi l D cI cZ yX8_why cX8_why 3 .int 5 120 [.ref (md 0), .int p0, .int p1] (W_md cI cZ md md_thrown md_text md_textSize md_place md_letter md_first md_second md_third md_side md_hang md_forms md_formMany md_seats md_now md_barAlways md_noPut md_far md_queue md_from md_by md_many md_is md_next md_rollSet md_rollAct md_rolls md_slots md_isKept) (S := Int32) (fun u => W_md cI cZ md u md_text md_textSize md_place md_letter md_first md_second md_third md_side md_hang md_forms md_formMany md_seats md_now md_barAlways md_noPut md_far md_queue md_from md_by md_many md_is md_next md_rollSet md_rollAct md_rolls md_slots md_isKept) (fun r u => post r u) := by
  refine mk_Mi (by decide +kernel) (Nat.le_of_ble_eq_true rfl) ?_
  intro Γ hl0 hD0 hC hR
  subst hl0
  subst hD0
  have hC : CX Γ cI cZ cX8_why RX8 3 5 120 := hC
  show VV Γ (W_md cI cZ md md_thrown md_text md_textSize md_place md_letter md_first md_second md_third md_side md_hang md_forms md_formMany md_seats md_now md_barAlways md_noPut md_far md_queue md_from md_by md_many md_is md_next md_rollSet md_rollAct md_rolls md_slots md_isKept) [(0, .ref (md 0)), (1, .int p0), (2, .int p1)] 0 []
  unfold wp_X8_why at hm
  refine x_aload_n hC 0 dX8_why_0 rfl ?_
  refine x_iconst hC (0 : Int32) dX8_why_1 (by decide) ?_
  refine x_put hC 5 tyX8_ok nmX8 inX8g 0 rfl rfl 0 (by decide) fl_X8_60 rfl (ty := .int) (by decide +kernel) rfl rfl (Nat.le_of_ble_eq_true rfl) (W_md cI cZ md ((0 : Int32)) md_text md_textSize md_place md_letter md_first md_second md_third md_side md_hang md_forms md_formMany md_seats md_now md_barAlways md_noPut md_far md_queue md_from md_by md_many md_is md_next md_rollSet md_rollAct md_rolls md_slots md_isKept) rfl dX8_why_2 ?_
  refine x_iload_n hC 1 dX8_why_5 rfl ?_
  refine x_callSi hC _ [] [0, 1, 2, 3, 4, 5, 6, 7, 8, 9, 10, 11, 12, 13, 14] [0, 1, 2, 3, 4, 5, 6, 7, 8, 9, 10, 11, 12, 13, 14] (W_md cI cZ md ((0 : Int32)) md_text md_textSize md_place md_letter md_first md_second md_third md_side md_hang md_forms md_formMany md_seats md_now md_barAlways md_noPut md_far md_queue md_from md_by md_many md_is md_next md_rollSet md_rollAct md_rolls md_slots md_isKept) (fun _ => W_md cI cZ md ((0 : Int32)) md_text md_textSize md_place md_letter md_first md_second md_third md_side md_hang md_forms md_formMany md_seats md_now md_barAlways md_noPut md_far md_queue md_from md_by md_many md_is md_next md_rollSet md_rollAct md_rolls md_slots md_isKept) ok_X8_noSet ml_X8_171 (c_X8_noSet (gl Γ) (gD Γ) cI cZ   p0 _ hm) (by decide) (by decide) rfl (Nat.le_of_ble_eq_true rfl) rfl rfl rfl rfl (by decide) rfl (fun _ => rfl) rfl dX8_why_6 ?_
  rintro r_1 _ hm
  refine x_if_ne hC 19 dX8_why_9 (by decide) (fun c_2 => ?_) (fun c_2 => ?_)
  · replace hm := hm.1 c_2
    refine x_bipush hC (-2 : Int32) dX8_why_19 (by decide) ?_
    refine x_goto hC 34 dX8_why_21 (by decide) ?_
    exact hR ((-2 : Int32)) (0 : Int32) [(0, .ref (md 0)), (1, .int p0), (2, .int p1)] 34 hm rfl dX8_why_34
  · replace hm := hm.2 c_2
    refine x_iload_n hC 2 dX8_why_12 rfl ?_
    refine x_callSi hC _ [] [0, 1, 2, 3, 4, 5, 6, 7, 8, 9, 10, 11, 12, 13, 14] [0, 1, 2, 3, 4, 5, 6, 7, 8, 9, 10, 11, 12, 13, 14] (W_md cI cZ md ((0 : Int32)) md_text md_textSize md_place md_letter md_first md_second md_third md_side md_hang md_forms md_formMany md_seats md_now md_barAlways md_noPut md_far md_queue md_from md_by md_many md_is md_next md_rollSet md_rollAct md_rolls md_slots md_isKept) (fun _ => W_md cI cZ md ((0 : Int32)) md_text md_textSize md_place md_letter md_first md_second md_third md_side md_hang md_forms md_formMany md_seats md_now md_barAlways md_noPut md_far md_queue md_from md_by md_many md_is md_next md_rollSet md_rollAct md_rolls md_slots md_isKept) ok_X8_noAct ml_X8_192 (c_X8_noAct (gl Γ) (gD Γ) cI cZ   p1 _ hm) (by decide) (by decide) rfl (Nat.le_of_ble_eq_true rfl) rfl rfl rfl rfl (by decide) rfl (fun _ => rfl) rfl dX8_why_13 ?_
    rintro r_3 _ hm
    refine x_if_eq hC 24 dX8_why_16 (by decide) (fun c_4 => ?_) (fun c_4 => ?_)
    · replace hm := hm.1 c_4
      refine x_aload_n hC 0 dX8_why_24 rfl ?_
      refine x_aload_n hC 0 dX8_why_25 rfl ?_
      refine x_get hC 5 inX8g 0 rfl rfl 13 (by decide) fl_X8_140 rfl dX8_why_26 ?_
      refine x_iload_n hC 1 dX8_why_29 rfl ?_
      refine x_iload_n hC 2 dX8_why_30 rfl ?_
      refine x_callVi hC _ [0, 1, 2, 3, 4, 5, 6, 7, 8, 9, 10, 11, 12, 13, 14] [] [0, 1, 2, 3, 4, 5, 6, 7, 8, 9, 10, 11, 12, 13, 14] (([] : va_W)) (fun _ => W_md cI cZ md ((0 : Int32)) md_text md_textSize md_place md_letter md_first md_second md_third md_side md_hang md_forms md_formMany md_seats md_now md_barAlways md_noPut md_far md_queue md_from md_by md_many md_is md_next md_rollSet md_rollAct md_rolls md_slots md_isKept) ok_X8_whyNot ml_X8_186 0 5 (c_X8_whyNot (gl Γ) (gD Γ) cI cZ md ((0 : Int32)) md_text md_textSize md_place md_letter md_first md_second md_third md_side md_hang md_forms md_formMany md_seats md_now md_barAlways md_noPut md_far md_queue md_from md_by md_many md_is md_next md_rollSet md_rollAct md_rolls md_slots md_isKept md_now p0 p1 _ hm) (by decide) (by decide) rfl (Nat.le_of_ble_eq_true rfl) rfl rfl rfl rfl (by decide) rfl (fun _ => rfl) rfl rfl rfl rfl dX8_why_31 ?_
      rintro r_5 _ hm
      exact hR r_5 (0 : Int32) [(0, .ref (md 0)), (1, .int p0), (2, .int p1)] 34 hm rfl dX8_why_34
    · replace hm := hm.2 c_4
      refine x_bipush hC (-2 : Int32) dX8_why_19 (by decide) ?_
      refine x_goto hC 34 dX8_why_21 (by decide) ?_
      exact hR ((-2 : Int32)) (0 : Int32) [(0, .ref (md 0)), (1, .int p0), (2, .int p1)] 34 hm rfl dX8_why_34

def wp_X8_wipe (md_thrown : Int32) (md_textSize : Int32)  (post : Int32 → Int32 → Int32 → Prop) : Prop := post md_textSize ((0 : Int32)) ((0 : Int32))
set_option maxHeartbeats 4000000 in
set_option maxRecDepth 100000 in
theorem c_X8_wipe (l : Launch) (D : va_G) (cI cZ : ClassId) (md : Nat → Nat) (md_thrown : Int32) (md_text : Nat → Int32) (md_textSize : Int32) (md_place : Int32) (md_letter : Int32) (md_first : Int32) (md_second : Int32) (md_third : Int32) (md_side : Int32) (md_hang : Int32) (md_forms : Nat → Int32) (md_formMany : Nat → Int32) (md_seats : Nat → Int32) (md_now : Int32) (md_barAlways : Int32) (md_noPut : Int32) (md_far : Nat → Int32) (md_queue : Nat → Int32) (md_from : Nat → Int32) (md_by : Nat → Int32) (md_many : Int32) (md_is : Nat → Int32) (md_next : Nat → Int32) (md_rollSet : Nat → Int32) (md_rollAct : Nat → Int32) (md_rolls : Int32) (md_slots : Nat → Int32) (md_isKept : Nat → Int32)  (post : Int32 → Int32 → Int32 → Prop) (hm : wp_X8_wipe md_thrown md_textSize  post) : Mi l D cI cZ yX8_wipe cX8_wipe 2 .int 0 0 [.ref (md 0)] (W_md cI cZ md md_thrown md_text md_textSize md_place md_letter md_first md_second md_third md_side md_hang md_forms md_formMany md_seats md_now md_barAlways md_noPut md_far md_queue md_from md_by md_many md_is md_next md_rollSet md_rollAct md_rolls md_slots md_isKept) (S := Int32 × Int32) (fun u => W_md cI cZ md (u.1) md_text (u.2) md_place md_letter md_first md_second md_third md_side md_hang md_forms md_formMany md_seats md_now md_barAlways md_noPut md_far md_queue md_from md_by md_many md_is md_next md_rollSet md_rollAct md_rolls md_slots md_isKept) (fun r u => post r u.1 u.2) := by
  refine mk_Mi (by decide +kernel) (Nat.le_of_ble_eq_true rfl) ?_
  intro Γ hl0 hD0 hC hR
  subst hl0
  subst hD0
  have hC : CX Γ cI cZ cX8_wipe RX8 2 0 0 := hC
  show VV Γ (W_md cI cZ md md_thrown md_text md_textSize md_place md_letter md_first md_second md_third md_side md_hang md_forms md_formMany md_seats md_now md_barAlways md_noPut md_far md_queue md_from md_by md_many md_is md_next md_rollSet md_rollAct md_rolls md_slots md_isKept) [(0, .ref (md 0))] 0 []
  unfold wp_X8_wipe at hm
  refine x_aload_n hC 0 dX8_wipe_0 rfl ?_
  refine x_iconst hC (0 : Int32) dX8_wipe_1 (by decide) ?_
  refine x_put hC 5 tyX8_ok nmX8 inX8g 0 rfl rfl 0 (by decide) fl_X8_60 rfl (ty := .int) (by decide +kernel) rfl rfl (Nat.le_of_ble_eq_true rfl) (W_md cI cZ md ((0 : Int32)) md_text md_textSize md_place md_letter md_first md_second md_third md_side md_hang md_forms md_formMany md_seats md_now md_barAlways md_noPut md_far md_queue md_from md_by md_many md_is md_next md_rollSet md_rollAct md_rolls md_slots md_isKept) rfl dX8_wipe_2 ?_
  refine x_aload_n hC 0 dX8_wipe_5 rfl ?_
  refine x_get hC 5 inX8g 0 rfl rfl 2 (by decide) fl_X8_81 rfl dX8_wipe_6 ?_
  refine x_istore_n hC [(0, .ref (md 0)), (1, .int md_textSize)] [1, 0] dX8_wipe_9 (by decide) rfl ?_
  refine x_aload_n hC 0 dX8_wipe_10 rfl ?_
  refine x_iconst hC (0 : Int32) dX8_wipe_11 (by decide) ?_
  refine x_put hC 5 tyX8_ok nmX8 inX8g 0 rfl rfl 2 (by decide) fl_X8_81 rfl (ty := .int) (by decide +kernel) rfl rfl (Nat.le_of_ble_eq_true rfl) (W_md cI cZ md ((0 : Int32)) md_text ((0 : Int32)) md_place md_letter md_first md_second md_third md_side md_hang md_forms md_formMany md_seats md_now md_barAlways md_noPut md_far md_queue md_from md_by md_many md_is md_next md_rollSet md_rollAct md_rolls md_slots md_isKept) rfl dX8_wipe_12 ?_
  refine x_iload_n hC 1 dX8_wipe_15 rfl ?_
  exact hR md_textSize ((0 : Int32), (0 : Int32)) [(0, .ref (md 0)), (1, .int md_textSize)] 16 hm rfl dX8_wipe_16

def wpL_X8_write_39   (post : Int32 → Int32 → (Nat → Int32) → Int32 → Prop) : Nat → Int32 → (Nat → Int32) → Int32 → Int64 → Int32 → Prop
  | 0, _, _, _, _, _ => False
  | n + 1, md_thrown_5, md_text_6, md_textSize_7, x2_8, x4_9 => (x4_9 < 0 → post md_textSize_7 md_thrown_5 md_text_6 md_textSize_7) ∧ (¬ x4_9 < 0 → vp_in md_textSize_7 20 ∧ ∀ md_text_11 : Nat → Int32, md_text_11 = upd md_text_6 md_textSize_7.toNatClampNeg (((x2_8 >>> ((((8 : Int32)) * x4_9).toInt64 &&& 63)).toInt32) &&& ((255 : Int32))) → ∀ v_12 : Int32, v_12 = md_textSize_7 + ((1 : Int32)) → ∀ x4_13 : Int32, x4_13 = x4_9 + (-1 : Int32) → (wpL_X8_write_39   post n) md_thrown_5 md_text_11 v_12 x2_8 x4_13)
def wp_X8_write (md_thrown : Int32) (md_text : Nat → Int32) (md_textSize : Int32) (p0 : Int32) (p1 : Int64) (post : Int32 → Int32 → (Nat → Int32) → Int32 → Prop) : Prop := wp_X8_in  p0.toInt64 ((1 : Int64)) ((8 : Int64)) (fun (r_1 : Int32) => (¬ r_1 = 0 → ((md_textSize + p0) ≤ ((20 : Int32)) → ∀ x4_4 : Int32, x4_4 = p0 - ((1 : Int32)) → ∃ k39, wpL_X8_write_39   post k39 ((0 : Int32)) md_text md_textSize p1 x4_4) ∧ (¬ (md_textSize + p0) ≤ ((20 : Int32)) → post ((-4 : Int32)) ((0 : Int32)) md_text md_textSize)) ∧ (r_1 = 0 → post ((-2 : Int32)) ((0 : Int32)) md_text md_textSize))
set_option maxHeartbeats 4000000 in
set_option maxRecDepth 100000 in
theorem c_X8_write (l : Launch) (D : va_G) (cI cZ : ClassId) (md : Nat → Nat) (md_thrown : Int32) (md_text : Nat → Int32) (md_textSize : Int32) (md_place : Int32) (md_letter : Int32) (md_first : Int32) (md_second : Int32) (md_third : Int32) (md_side : Int32) (md_hang : Int32) (md_forms : Nat → Int32) (md_formMany : Nat → Int32) (md_seats : Nat → Int32) (md_now : Int32) (md_barAlways : Int32) (md_noPut : Int32) (md_far : Nat → Int32) (md_queue : Nat → Int32) (md_from : Nat → Int32) (md_by : Nat → Int32) (md_many : Int32) (md_is : Nat → Int32) (md_next : Nat → Int32) (md_rollSet : Nat → Int32) (md_rollAct : Nat → Int32) (md_rolls : Int32) (md_slots : Nat → Int32) (md_isKept : Nat → Int32) (p0 : Int32) (p1 : Int64) (post : Int32 → Int32 → (Nat → Int32) → Int32 → Prop) (hm : wp_X8_write md_thrown md_text md_textSize p0 p1 post) : Mi l D cI cZ yX8_write cX8_write 5 .int 1 25 [.ref (md 0), .int p0, .long p1] (W_md cI cZ md md_thrown md_text md_textSize md_place md_letter md_first md_second md_third md_side md_hang md_forms md_formMany md_seats md_now md_barAlways md_noPut md_far md_queue md_from md_by md_many md_is md_next md_rollSet md_rollAct md_rolls md_slots md_isKept) (S := Int32 × (Nat → Int32) × Int32) (fun u => W_md cI cZ md (u.1) (u.2.1) (u.2.2) md_place md_letter md_first md_second md_third md_side md_hang md_forms md_formMany md_seats md_now md_barAlways md_noPut md_far md_queue md_from md_by md_many md_is md_next md_rollSet md_rollAct md_rolls md_slots md_isKept) (fun r u => post r u.1 u.2.1 u.2.2) := by
  refine mk_Mi (by decide +kernel) (Nat.le_of_ble_eq_true rfl) ?_
  intro Γ hl0 hD0 hC hR
  subst hl0
  subst hD0
  have hC : CX Γ cI cZ cX8_write RX8 5 1 25 := hC
  show VV Γ (W_md cI cZ md md_thrown md_text md_textSize md_place md_letter md_first md_second md_third md_side md_hang md_forms md_formMany md_seats md_now md_barAlways md_noPut md_far md_queue md_from md_by md_many md_is md_next md_rollSet md_rollAct md_rolls md_slots md_isKept) [(0, .ref (md 0)), (1, .int p0), (2, .long p1)] 0 []
  have B_39 : ∀ (n : Nat) (md_thrown_5 : Int32) (md_text_6 : Nat → Int32) (md_textSize_7 : Int32) (x2_8 : Int64) (x4_9 : Int32), wpL_X8_write_39   post n md_thrown_5 md_text_6 md_textSize_7 x2_8 x4_9 → VV Γ (W_md cI cZ md md_thrown_5 md_text_6 md_textSize_7 md_place md_letter md_first md_second md_third md_side md_hang md_forms md_formMany md_seats md_now md_barAlways md_noPut md_far md_queue md_from md_by md_many md_is md_next md_rollSet md_rollAct md_rolls md_slots md_isKept) [(0, .ref (md 0)), (2, .long x2_8), (4, .int x4_9)] 39 [] := by
    intro  n
    induction n with
    | zero => intro md_thrown_5 md_text_6 md_textSize_7 x2_8 x4_9 hm; rw [wpL_X8_write_39] at hm; exact hm.elim
    | succ n ih =>
      intro md_thrown_5 md_text_6 md_textSize_7 x2_8 x4_9 hm
      rw [wpL_X8_write_39] at hm
      refine x_iload hC 2 dX8_write_39 rfl ?_
      refine x_if_lt hC 81 dX8_write_41 (by decide) (fun c_10 => ?_) (fun c_10 => ?_)
      · replace hm := hm.1 c_10
        refine x_aload_n hC 0 dX8_write_81 rfl ?_
        refine x_get hC 5 inX8g 0 rfl rfl 2 (by decide) fl_X8_81 rfl dX8_write_82 ?_
        exact hR md_textSize_7 (md_thrown_5, md_text_6, md_textSize_7) [(0, .ref (md 0)), (2, .long x2_8), (4, .int x4_9)] 85 hm rfl dX8_write_85
      · replace hm := hm.2 c_10
        refine x_aload_n hC 0 dX8_write_44 rfl ?_
        refine x_get hC 5 inX8g 0 rfl rfl 1 (by decide) fl_X8_7 rfl dX8_write_45 ?_
        refine x_aload_n hC 0 dX8_write_48 rfl ?_
        refine x_get hC 5 inX8g 0 rfl rfl 2 (by decide) fl_X8_81 rfl dX8_write_49 ?_
        refine x_lload_n hC 1 dX8_write_52 rfl ?_
        refine x_bipush hC (8 : Int32) dX8_write_53 (by decide) ?_
        refine x_iload hC 2 dX8_write_55 rfl ?_
        refine x_imul hC dX8_write_57 ?_
        refine x_lshr hC dX8_write_58 ?_
        refine x_l2i hC dX8_write_59 ?_
        refine x_sipush hC (255 : Int32) dX8_write_60 (by decide) ?_
        refine x_iand hC dX8_write_63 ?_
        refine x_iastN hC 1 rfl hm.1 (fun md_text_11 => W_md cI cZ md md_thrown_5 md_text_11 md_textSize_7 md_place md_letter md_first md_second md_third md_side md_hang md_forms md_formMany md_seats md_now md_barAlways md_noPut md_far md_queue md_from md_by md_many md_is md_next md_rollSet md_rollAct md_rolls md_slots md_isKept) (fun _ => rfl) dX8_write_64 (fun md_text_11 emd_text_11 => ?_)
        replace hm := hm.2 md_text_11 emd_text_11
        refine x_aload_n hC 0 dX8_write_65 rfl ?_
        refine x_dup hC dX8_write_66 rfl ?_
        refine x_get hC 5 inX8g 0 rfl rfl 2 (by decide) fl_X8_81 rfl dX8_write_67 ?_
        refine x_iconst hC (1 : Int32) dX8_write_70 (by decide) ?_
        refine x_iadd hC dX8_write_71 ?_
        refine x_top (fun v_12 ev_12 => ?_)
        replace hm := hm v_12 ev_12
        refine x_put hC 5 tyX8_ok nmX8 inX8g 0 rfl rfl 2 (by decide) fl_X8_81 rfl (ty := .int) (by decide +kernel) rfl rfl (Nat.le_of_ble_eq_true rfl) (W_md cI cZ md md_thrown_5 md_text_11 v_12 md_place md_letter md_first md_second md_third md_side md_hang md_forms md_formMany md_seats md_now md_barAlways md_noPut md_far md_queue md_from md_by md_many md_is md_next md_rollSet md_rollAct md_rolls md_slots md_isKept) rfl dX8_write_72 ?_
        obtain ⟨x4_13, ex4_13⟩ : ∃ y : Int32, y = x4_9 + (-1 : Int32) := ⟨_, rfl⟩
        replace hm := hm x4_13 ex4_13
        refine x_iinc hC 2 x4_13 [(0, .ref (md 0)), (2, .long x2_8), (4, .int x4_13)] [1, 2, 0] dX8_write_75 rfl (by rw [ex4_13]; rfl) (by decide) rfl ?_
        refine x_goto hC 39 dX8_write_78 (by decide) ?_
        exact ih md_thrown_5 md_text_11 v_12 x2_8 x4_13 hm
  unfold wp_X8_write at hm
  refine x_aload_n hC 0 dX8_write_0 rfl ?_
  refine x_iconst hC (0 : Int32) dX8_write_1 (by decide) ?_
  refine x_put hC 5 tyX8_ok nmX8 inX8g 0 rfl rfl 0 (by decide) fl_X8_60 rfl (ty := .int) (by decide +kernel) rfl rfl (Nat.le_of_ble_eq_true rfl) (W_md cI cZ md ((0 : Int32)) md_text md_textSize md_place md_letter md_first md_second md_third md_side md_hang md_forms md_formMany md_seats md_now md_barAlways md_noPut md_far md_queue md_from md_by md_many md_is md_next md_rollSet md_rollAct md_rolls md_slots md_isKept) rfl dX8_write_2 ?_
  refine x_iload_n hC 1 dX8_write_5 rfl ?_
  refine x_i2l hC dX8_write_6 ?_
  refine x_lconst hC (1 : Int64) dX8_write_7 (by decide) ?_
  refine x_ldc2 hC kl_X8_79 dX8_write_8 ?_
  refine x_callSi hC _ [] [0, 1, 2, 3, 4, 5, 6, 7, 8, 9, 10, 11, 12, 13, 14] [0, 1, 2, 3, 4, 5, 6, 7, 8, 9, 10, 11, 12, 13, 14] (W_md cI cZ md ((0 : Int32)) md_text md_textSize md_place md_letter md_first md_second md_third md_side md_hang md_forms md_formMany md_seats md_now md_barAlways md_noPut md_far md_queue md_from md_by md_many md_is md_next md_rollSet md_rollAct md_rolls md_slots md_isKept) (fun _ => W_md cI cZ md ((0 : Int32)) md_text md_textSize md_place md_letter md_first md_second md_third md_side md_hang md_forms md_formMany md_seats md_now md_barAlways md_noPut md_far md_queue md_from md_by md_many md_is md_next md_rollSet md_rollAct md_rolls md_slots md_isKept) ok_X8_in ml_X8_65 (c_X8_in (gl Γ) (gD Γ) cI cZ   p0.toInt64 ((1 : Int64)) ((8 : Int64)) _ hm) (by decide) (by decide) rfl (Nat.le_of_ble_eq_true rfl) rfl rfl rfl rfl (by decide) rfl (fun _ => rfl) rfl dX8_write_11 ?_
  rintro r_1 _ hm
  refine x_if_ne hC 20 dX8_write_14 (by decide) (fun c_2 => ?_) (fun c_2 => ?_)
  · replace hm := hm.1 c_2
    refine x_aload_n hC 0 dX8_write_20 rfl ?_
    refine x_get hC 5 inX8g 0 rfl rfl 2 (by decide) fl_X8_81 rfl dX8_write_21 ?_
    refine x_iload_n hC 1 dX8_write_24 rfl ?_
    refine x_iadd hC dX8_write_25 ?_
    refine x_bipush hC (20 : Int32) dX8_write_26 (by decide) ?_
    refine x_icmp_le hC 34 dX8_write_28 (by decide) (fun c_3 => ?_) (fun c_3 => ?_)
    · replace hm := hm.1 c_3
      refine x_iload_n hC 1 dX8_write_34 rfl ?_
      refine x_iconst hC (1 : Int32) dX8_write_35 (by decide) ?_
      refine x_isub hC dX8_write_36 ?_
      refine x_top (fun x4_4 ex4_4 => ?_)
      replace hm := hm x4_4 ex4_4
      refine x_istore hC [(0, .ref (md 0)), (1, .int p0), (2, .long p1), (4, .int x4_4)] [1, 2, 3, 0] dX8_write_37 (by decide) rfl ?_
      obtain ⟨n_14, hm⟩ := hm
      refine x_lsub [0, 2, 3] rfl ?_
      exact B_39  n_14 ((0 : Int32)) md_text md_textSize p1 x4_4 hm
    · replace hm := hm.2 c_3
      refine x_bipush hC (-4 : Int32) dX8_write_31 (by decide) ?_
      exact hR ((-4 : Int32)) ((0 : Int32), md_text, md_textSize) [(0, .ref (md 0)), (1, .int p0), (2, .long p1)] 33 hm rfl dX8_write_33
  · replace hm := hm.2 c_2
    refine x_bipush hC (-2 : Int32) dX8_write_17 (by decide) ?_
    exact hR ((-2 : Int32)) ((0 : Int32), md_text, md_textSize) [(0, .ref (md 0)), (1, .int p0), (2, .long p1)] 19 hm rfl dX8_write_19
