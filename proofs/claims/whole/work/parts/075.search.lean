def wp_X3_isMarked (se_marks : Nat → Int32) (p0 : Int32) (p1 : Int32) (post : Int32 → Prop) : Prop := wp_X5_exists  p0 (fun (r_1 : Int32) => (r_1 = 0 → post ((0 : Int32)) ) ∧ (¬ r_1 = 0 → vp_in p0 16384 ∧ ((¬ (((se_marks p0.toNatClampNeg) >>> (p1 &&& 31)) &&& ((1 : Int32))) = ((1 : Int32)) → post ((0 : Int32)) ) ∧ ((((se_marks p0.toNatClampNeg) >>> (p1 &&& 31)) &&& ((1 : Int32))) = ((1 : Int32)) → post ((1 : Int32)) ))))
set_option maxHeartbeats 4000000 in
set_option maxRecDepth 100000 in
theorem c_X3_isMarked (l : Launch) (D : va_G) (cI cZ : ClassId) (se : Nat → Nat) (se_order : Nat → Int32) (se_from : Nat → Int32) (se_marks : Nat → Int32) (se_cameBy : Nat → Int32) (se_runs : Int32) (se_length : Int32) (se_within : Nat → Int32) (p0 : Int32) (p1 : Int32) (post : Int32 → Prop) (hm : wp_X3_isMarked se_marks p0 p1 post) : Mi l D cI cZ yX3_isMarked cX3_isMarked 3 .boolean 1 20 [.ref (se 0), .int p0, .int p1] (W_se cI se se_order se_from se_marks se_cameBy se_runs se_length se_within) (S := Unit) (fun _ => W_se cI se se_order se_from se_marks se_cameBy se_runs se_length se_within) (fun r _ => post r ) := by
  refine mk_Mi (by decide +kernel) (Nat.le_of_ble_eq_true rfl) ?_
  intro Γ hl0 hD0 hC hR
  subst hl0
  subst hD0
  have hC : CX Γ cI cZ cX3_isMarked RX3 3 1 20 := hC
  show VV Γ (W_se cI se se_order se_from se_marks se_cameBy se_runs se_length se_within) [(0, .ref (se 0)), (1, .int p0), (2, .int p1)] 0 []
  unfold wp_X3_isMarked at hm
  refine x_iload_n hC 1 dX3_isMarked_0 rfl ?_
  refine x_callSi hC _ [] [0, 1, 2, 3, 4, 5] [0, 1, 2, 3, 4, 5] (W_se cI se se_order se_from se_marks se_cameBy se_runs se_length se_within) (fun _ => W_se cI se se_order se_from se_marks se_cameBy se_runs se_length se_within) ok_X5_exists ml_X3_72 (c_X5_exists (gl Γ) (gD Γ) cI cZ   p0 _ hm) (by decide) (by decide) rfl (Nat.le_of_ble_eq_true rfl) rfl rfl rfl rfl (by decide) rfl (fun _ => rfl) rfl dX3_isMarked_1 ?_
  rintro r_1 _ hm
  refine x_if_eq hC 25 dX3_isMarked_4 (by decide) (fun c_2 => ?_) (fun c_2 => ?_)
  · replace hm := hm.1 c_2
    refine x_iconst hC (0 : Int32) dX3_isMarked_25 (by decide) ?_
    exact hR ((0 : Int32)) () [(0, .ref (se 0)), (1, .int p0), (2, .int p1)] 26 hm rfl dX3_isMarked_26
  · replace hm := hm.2 c_2
    refine x_aload_n hC 0 dX3_isMarked_7 rfl ?_
    refine x_get hC 1 inX3g 0 rfl rfl 2 (by decide) fl_X3_20 rfl dX3_isMarked_8 ?_
    refine x_iload_n hC 1 dX3_isMarked_11 rfl ?_
    refine x_iald hC 3 rfl hm.1 dX3_isMarked_12 ?_
    replace hm := hm.2
    refine x_iload_n hC 2 dX3_isMarked_13 rfl ?_
    refine x_ishr hC dX3_isMarked_14 ?_
    refine x_iconst hC (1 : Int32) dX3_isMarked_15 (by decide) ?_
    refine x_iand hC dX3_isMarked_16 ?_
    refine x_iconst hC (1 : Int32) dX3_isMarked_17 (by decide) ?_
    refine x_icmp_ne hC 25 dX3_isMarked_18 (by decide) (fun c_3 => ?_) (fun c_3 => ?_)
    · replace hm := hm.1 c_3
      refine x_iconst hC (0 : Int32) dX3_isMarked_25 (by decide) ?_
      exact hR ((0 : Int32)) () [(0, .ref (se 0)), (1, .int p0), (2, .int p1)] 26 hm rfl dX3_isMarked_26
    · replace hm := hm.2 c_3
      refine x_iconst hC (1 : Int32) dX3_isMarked_21 (by decide) ?_
      refine x_goto hC 26 dX3_isMarked_22 (by decide) ?_
      exact hR ((1 : Int32)) () [(0, .ref (se 0)), (1, .int p0), (2, .int p1)] 26 hm rfl dX3_isMarked_26

def wpL_X3_firstActTo_3 (se_marks : Nat → Int32) (sg_now : Int32) (sg_mayActs : Nat → Int32) (sg_mayEnds : Nat → Int32) (sg_mays : Int32)  (post : Int32 → Prop) : Nat → Int32 → Int32 → Int32 → Prop
  | 0, _, _, _ => False
  | n + 1, x2_1, x3_2, x4_3 => wp_X4_howManyMay sg_mays  (fun (r_4 : Int32) => (r_4 ≤ x4_3 → post ((-9 : Int32)) ) ∧ (¬ r_4 ≤ x4_3 → (((20 : Int32)) ≤ x4_3 → post ((-9 : Int32)) ) ∧ (¬ ((20 : Int32)) ≤ x4_3 → wp_X4_mayComeTo sg_now sg_mayEnds sg_mays x4_3 (fun (r_7 : Int32) => wp_X3_isMarked se_marks r_7 x2_1 (fun (r_8 : Int32) => (¬ r_8 = x3_2 → ∀ x4_10 : Int32, x4_10 = x4_3 + (1 : Int32) → (wpL_X3_firstActTo_3 se_marks sg_now sg_mayActs sg_mayEnds sg_mays  post n) x2_1 x3_2 x4_10) ∧ (r_8 = x3_2 → wp_X4_mayDo sg_mayActs sg_mays x4_3 (fun (r_11 : Int32) => post r_11 )))))))
def wp_X3_firstActTo (se_marks : Nat → Int32) (sg_now : Int32) (sg_mayActs : Nat → Int32) (sg_mayEnds : Nat → Int32) (sg_mays : Int32) (p1 : Int32) (p2 : Int32) (post : Int32 → Prop) : Prop := ∃ k3, wpL_X3_firstActTo_3 se_marks sg_now sg_mayActs sg_mayEnds sg_mays  post k3 p1 p2 ((0 : Int32))
set_option maxHeartbeats 4000000 in
set_option maxRecDepth 100000 in
theorem c_X3_firstActTo (l : Launch) (D : va_G) (cI cZ : ClassId) (se : Nat → Nat) (sg : Nat → Nat) (lw : Nat → Nat) (se_order : Nat → Int32) (se_from : Nat → Int32) (se_marks : Nat → Int32) (se_cameBy : Nat → Int32) (se_runs : Int32) (se_length : Int32) (se_within : Nat → Int32) (sg_ownVotes : Nat → Int32) (sg_votes : Nat → Int32) (sg_rows : Nat → Int32) (sg_groups : Int32) (sg_bars : Int32) (sg_now : Int32) (sg_forced : Int32) (sg_barred : Int32) (sg_mayActs : Nat → Int32) (sg_mayEnds : Nat → Int32) (sg_mays : Int32) (lw_told : Nat → Int32) (lw_parts : Nat → Int32) (lw_hangMasks : Nat → Int32) (lw_hangValues : Nat → Int32) (lw_ownSeats : Nat → Int32) (p1 : Int32) (p2 : Int32) (post : Int32 → Prop) (hm : wp_X3_firstActTo se_marks sg_now sg_mayActs sg_mayEnds sg_mays p1 p2 post) : Mi l D cI cZ yX3_firstActTo cX3_firstActTo 5 .int 2 42 [.ref (se 0), .ref (sg 0), .int p1, .int p2] (W_se cI se se_order se_from se_marks se_cameBy se_runs se_length se_within ++ W_sg cI sg (lw 0) sg_ownVotes sg_votes sg_rows sg_groups sg_bars sg_now sg_forced sg_barred sg_mayActs sg_mayEnds sg_mays ++ W_lw cI lw lw_told lw_parts lw_hangMasks lw_hangValues lw_ownSeats) (S := Unit) (fun _ => W_se cI se se_order se_from se_marks se_cameBy se_runs se_length se_within ++ W_sg cI sg (lw 0) sg_ownVotes sg_votes sg_rows sg_groups sg_bars sg_now sg_forced sg_barred sg_mayActs sg_mayEnds sg_mays ++ W_lw cI lw lw_told lw_parts lw_hangMasks lw_hangValues lw_ownSeats) (fun r _ => post r ) := by
  refine mk_Mi (by decide +kernel) (Nat.le_of_ble_eq_true rfl) ?_
  intro Γ hl0 hD0 hC hR
  subst hl0
  subst hD0
  have hC : CX Γ cI cZ cX3_firstActTo RX3 5 2 42 := hC
  show VV Γ (W_se cI se se_order se_from se_marks se_cameBy se_runs se_length se_within ++ W_sg cI sg (lw 0) sg_ownVotes sg_votes sg_rows sg_groups sg_bars sg_now sg_forced sg_barred sg_mayActs sg_mayEnds sg_mays ++ W_lw cI lw lw_told lw_parts lw_hangMasks lw_hangValues lw_ownSeats) [(0, .ref (se 0)), (1, .ref (sg 0)), (2, .int p1), (3, .int p2)] 0 []
  have B_3 : ∀ (n : Nat) (x2_1 : Int32) (x3_2 : Int32) (x4_3 : Int32), wpL_X3_firstActTo_3 se_marks sg_now sg_mayActs sg_mayEnds sg_mays  post n x2_1 x3_2 x4_3 → VV Γ (W_se cI se se_order se_from se_marks se_cameBy se_runs se_length se_within ++ W_sg cI sg (lw 0) sg_ownVotes sg_votes sg_rows sg_groups sg_bars sg_now sg_forced sg_barred sg_mayActs sg_mayEnds sg_mays ++ W_lw cI lw lw_told lw_parts lw_hangMasks lw_hangValues lw_ownSeats) [(0, .ref (se 0)), (1, .ref (sg 0)), (2, .int x2_1), (3, .int x3_2), (4, .int x4_3)] 3 [] := by
    intro  n
    induction n with
    | zero => intro x2_1 x3_2 x4_3 hm; rw [wpL_X3_firstActTo_3] at hm; exact hm.elim
    | succ n ih =>
      intro x2_1 x3_2 x4_3 hm
      rw [wpL_X3_firstActTo_3] at hm
      refine x_iload hC 4 dX3_firstActTo_3 rfl ?_
      refine x_aload_n hC 1 dX3_firstActTo_5 rfl ?_
      refine x_callVi hC _ [6, 7, 8, 9, 10, 11, 12, 13, 14, 15, 16, 17] [0, 1, 2, 3, 4, 5] [0, 1, 2, 3, 4, 5, 6, 7, 8, 9, 10, 11, 12, 13, 14, 15, 16, 17] (W_se cI se se_order se_from se_marks se_cameBy se_runs se_length se_within) (fun _ => W_se cI se se_order se_from se_marks se_cameBy se_runs se_length se_within ++ W_sg cI sg (lw 0) sg_ownVotes sg_votes sg_rows sg_groups sg_bars sg_now sg_forced sg_barred sg_mayActs sg_mayEnds sg_mays ++ W_lw cI lw lw_told lw_parts lw_hangMasks lw_hangValues lw_ownSeats) ok_X4_howManyMay ml_X3_59 0 2 (c_X4_howManyMay (gl Γ) (gD Γ) cI cZ sg lw sg_ownVotes sg_votes sg_rows sg_groups sg_bars sg_now sg_forced sg_barred sg_mayActs sg_mayEnds sg_mays lw_told lw_parts lw_hangMasks lw_hangValues lw_ownSeats  _ hm) (by decide) (by decide) rfl (Nat.le_of_ble_eq_true rfl) rfl rfl rfl rfl (by decide) rfl (fun _ => rfl) rfl rfl rfl rfl dX3_firstActTo_6 ?_
      rintro r_4 _ hm
      refine x_icmp_ge hC 47 dX3_firstActTo_9 (by decide) (fun c_5 => ?_) (fun c_5 => ?_)
      · replace hm := hm.1 c_5
        refine x_bipush hC (-9 : Int32) dX3_firstActTo_47 (by decide) ?_
        exact hR ((-9 : Int32)) () [(0, .ref (se 0)), (1, .ref (sg 0)), (2, .int x2_1), (3, .int x3_2), (4, .int x4_3)] 49 hm rfl dX3_firstActTo_49
      · replace hm := hm.2 c_5
        refine x_iload hC 4 dX3_firstActTo_12 rfl ?_
        refine x_bipush hC (20 : Int32) dX3_firstActTo_14 (by decide) ?_
        refine x_icmp_ge hC 47 dX3_firstActTo_16 (by decide) (fun c_6 => ?_) (fun c_6 => ?_)
        · replace hm := hm.1 c_6
          refine x_bipush hC (-9 : Int32) dX3_firstActTo_47 (by decide) ?_
          exact hR ((-9 : Int32)) () [(0, .ref (se 0)), (1, .ref (sg 0)), (2, .int x2_1), (3, .int x3_2), (4, .int x4_3)] 49 hm rfl dX3_firstActTo_49
        · replace hm := hm.2 c_6
          refine x_aload_n hC 0 dX3_firstActTo_19 rfl ?_
          refine x_aload_n hC 1 dX3_firstActTo_20 rfl ?_
          refine x_iload hC 4 dX3_firstActTo_21 rfl ?_
          refine x_callVi hC _ [6, 7, 8, 9, 10, 11, 12, 13, 14, 15, 16, 17] [0, 1, 2, 3, 4, 5] [0, 1, 2, 3, 4, 5, 6, 7, 8, 9, 10, 11, 12, 13, 14, 15, 16, 17] (W_se cI se se_order se_from se_marks se_cameBy se_runs se_length se_within) (fun _ => W_se cI se se_order se_from se_marks se_cameBy se_runs se_length se_within ++ W_sg cI sg (lw 0) sg_ownVotes sg_votes sg_rows sg_groups sg_bars sg_now sg_forced sg_barred sg_mayActs sg_mayEnds sg_mays ++ W_lw cI lw lw_told lw_parts lw_hangMasks lw_hangValues lw_ownSeats) ok_X4_mayComeTo ml_X3_65 0 2 (c_X4_mayComeTo (gl Γ) (gD Γ) cI cZ sg lw sg_ownVotes sg_votes sg_rows sg_groups sg_bars sg_now sg_forced sg_barred sg_mayActs sg_mayEnds sg_mays lw_told lw_parts lw_hangMasks lw_hangValues lw_ownSeats x4_3 _ hm) (by decide) (by decide) rfl (Nat.le_of_ble_eq_true rfl) rfl rfl rfl rfl (by decide) rfl (fun _ => rfl) rfl rfl rfl rfl dX3_firstActTo_23 ?_
          rintro r_7 _ hm
          refine x_iload_n hC 2 dX3_firstActTo_26 rfl ?_
          refine x_callVi hC _ [0, 1, 2, 3, 4, 5] [6, 7, 8, 9, 10, 11, 12, 13, 14, 15, 16, 17] [12, 13, 14, 15, 16, 17, 0, 1, 2, 3, 4, 5, 6, 7, 8, 9, 10, 11] (W_sg cI sg (lw 0) sg_ownVotes sg_votes sg_rows sg_groups sg_bars sg_now sg_forced sg_barred sg_mayActs sg_mayEnds sg_mays ++ W_lw cI lw lw_told lw_parts lw_hangMasks lw_hangValues lw_ownSeats) (fun _ => W_se cI se se_order se_from se_marks se_cameBy se_runs se_length se_within ++ W_sg cI sg (lw 0) sg_ownVotes sg_votes sg_rows sg_groups sg_bars sg_now sg_forced sg_barred sg_mayActs sg_mayEnds sg_mays ++ W_lw cI lw lw_told lw_parts lw_hangMasks lw_hangValues lw_ownSeats) ok_X3_isMarked ml_X3_82 0 1 (c_X3_isMarked (gl Γ) (gD Γ) cI cZ se se_order se_from se_marks se_cameBy se_runs se_length se_within r_7 x2_1 _ hm) (by decide) (by decide) rfl (Nat.le_of_ble_eq_true rfl) rfl rfl rfl rfl (by decide) rfl (fun _ => rfl) rfl rfl rfl rfl dX3_firstActTo_27 ?_
          rintro r_8 _ hm
          refine x_iload_n hC 3 dX3_firstActTo_30 rfl ?_
          refine x_icmp_ne hC 41 dX3_firstActTo_31 (by decide) (fun c_9 => ?_) (fun c_9 => ?_)
          · replace hm := hm.1 c_9
            obtain ⟨x4_10, ex4_10⟩ : ∃ y : Int32, y = x4_3 + (1 : Int32) := ⟨_, rfl⟩
            replace hm := hm x4_10 ex4_10
            refine x_iinc hC 4 x4_10 [(0, .ref (se 0)), (1, .ref (sg 0)), (2, .int x2_1), (3, .int x3_2), (4, .int x4_10)] [1, 2, 3, 4, 0] dX3_firstActTo_41 rfl (by rw [ex4_10]; rfl) (by decide) rfl ?_
            refine x_goto hC 3 dX3_firstActTo_44 (by decide) ?_
            exact ih x2_1 x3_2 x4_10 hm
          · replace hm := hm.2 c_9
            refine x_aload_n hC 1 dX3_firstActTo_34 rfl ?_
            refine x_iload hC 4 dX3_firstActTo_35 rfl ?_
            refine x_callVi hC _ [6, 7, 8, 9, 10, 11, 12, 13, 14, 15, 16, 17] [0, 1, 2, 3, 4, 5] [0, 1, 2, 3, 4, 5, 6, 7, 8, 9, 10, 11, 12, 13, 14, 15, 16, 17] (W_se cI se se_order se_from se_marks se_cameBy se_runs se_length se_within) (fun _ => W_se cI se se_order se_from se_marks se_cameBy se_runs se_length se_within ++ W_sg cI sg (lw 0) sg_ownVotes sg_votes sg_rows sg_groups sg_bars sg_now sg_forced sg_barred sg_mayActs sg_mayEnds sg_mays ++ W_lw cI lw lw_told lw_parts lw_hangMasks lw_hangValues lw_ownSeats) ok_X4_mayDo ml_X3_69 0 2 (c_X4_mayDo (gl Γ) (gD Γ) cI cZ sg lw sg_ownVotes sg_votes sg_rows sg_groups sg_bars sg_now sg_forced sg_barred sg_mayActs sg_mayEnds sg_mays lw_told lw_parts lw_hangMasks lw_hangValues lw_ownSeats x4_3 _ hm) (by decide) (by decide) rfl (Nat.le_of_ble_eq_true rfl) rfl rfl rfl rfl (by decide) rfl (fun _ => rfl) rfl rfl rfl rfl dX3_firstActTo_37 ?_
            rintro r_11 _ hm
            exact hR r_11 () [(0, .ref (se 0)), (1, .ref (sg 0)), (2, .int x2_1), (3, .int x3_2), (4, .int x4_3)] 40 hm rfl dX3_firstActTo_40
  unfold wp_X3_firstActTo at hm
  refine x_iconst hC (0 : Int32) dX3_firstActTo_0 (by decide) ?_
  refine x_istore hC [(0, .ref (se 0)), (1, .ref (sg 0)), (2, .int p1), (3, .int p2), (4, .int ((0 : Int32)))] [1, 2, 3, 4, 0] dX3_firstActTo_1 (by decide) rfl ?_
  obtain ⟨n_12, hm⟩ := hm
  exact B_3  n_12 p1 p2 ((0 : Int32)) hm

def wp_X3_canGo (se_marks : Nat → Int32) (sg_ownVotes : Nat → Int32) (sg_votes : Nat → Int32) (sg_rows : Nat → Int32) (sg_groups : Int32) (sg_bars : Int32) (sg_now : Int32) (sg_forced : Int32) (sg_barred : Int32) (sg_mayActs : Nat → Int32) (sg_mayEnds : Nat → Int32) (sg_mays : Int32) (lw_told : Nat → Int32) (lw_parts : Nat → Int32) (lw_hangMasks : Nat → Int32) (lw_hangValues : Nat → Int32) (p0 : Int32) (p1 : Int32) (post : Int32 → (Nat → Int32) → (Nat → Int32) → Int32 → Int32 → Int32 → (Nat → Int32) → (Nat → Int32) → Int32 → Prop) : Prop := wp_X3_isMarked se_marks p0 p1 (fun (r_1 : Int32) => (r_1 = 0 → wp_X4_list sg_ownVotes sg_votes sg_rows sg_groups sg_bars sg_now sg_forced sg_barred sg_mayActs sg_mayEnds sg_mays lw_told lw_parts lw_hangMasks lw_hangValues p0 (fun (sg_votes_3 : Nat → Int32) (sg_rows_4 : Nat → Int32) (sg_now_5 : Int32) (sg_forced_6 : Int32) (sg_barred_7 : Int32) (sg_mayActs_8 : Nat → Int32) (sg_mayEnds_9 : Nat → Int32) (sg_mays_10 : Int32) => wp_X3_firstActTo se_marks sg_now_5 sg_mayActs_8 sg_mayEnds_9 sg_mays_10 p1 ((1 : Int32)) (fun (r_11 : Int32) => (r_11 = ((-9 : Int32)) → post ((0 : Int32)) sg_votes_3 sg_rows_4 sg_now_5 sg_forced_6 sg_barred_7 sg_mayActs_8 sg_mayEnds_9 sg_mays_10) ∧ (¬ r_11 = ((-9 : Int32)) → post ((1 : Int32)) sg_votes_3 sg_rows_4 sg_now_5 sg_forced_6 sg_barred_7 sg_mayActs_8 sg_mayEnds_9 sg_mays_10)))) ∧ (¬ r_1 = 0 → post ((1 : Int32)) sg_votes sg_rows sg_now sg_forced sg_barred sg_mayActs sg_mayEnds sg_mays))
set_option maxHeartbeats 4000000 in
set_option maxRecDepth 100000 in
theorem c_X3_canGo (l : Launch) (D : va_G) (cI cZ : ClassId) (se : Nat → Nat) (sg : Nat → Nat) (lw : Nat → Nat) (se_order : Nat → Int32) (se_from : Nat → Int32) (se_marks : Nat → Int32) (se_cameBy : Nat → Int32) (se_runs : Int32) (se_length : Int32) (se_within : Nat → Int32) (sg_ownVotes : Nat → Int32) (sg_votes : Nat → Int32) (sg_rows : Nat → Int32) (sg_groups : Int32) (sg_bars : Int32) (sg_now : Int32) (sg_forced : Int32) (sg_barred : Int32) (sg_mayActs : Nat → Int32) (sg_mayEnds : Nat → Int32) (sg_mays : Int32) (lw_told : Nat → Int32) (lw_parts : Nat → Int32) (lw_hangMasks : Nat → Int32) (lw_hangValues : Nat → Int32) (lw_ownSeats : Nat → Int32) (p0 : Int32) (p1 : Int32) (post : Int32 → (Nat → Int32) → (Nat → Int32) → Int32 → Int32 → Int32 → (Nat → Int32) → (Nat → Int32) → Int32 → Prop) (hm : wp_X3_canGo se_marks sg_ownVotes sg_votes sg_rows sg_groups sg_bars sg_now sg_forced sg_barred sg_mayActs sg_mayEnds sg_mays lw_told lw_parts lw_hangMasks lw_hangValues p0 p1 post) : Mi l D cI cZ yX3_canGo cX3_canGo 4 .boolean 4 96 [.ref (se 0), .int p0, .int p1, .ref (sg 0)] (W_se cI se se_order se_from se_marks se_cameBy se_runs se_length se_within ++ W_sg cI sg (lw 0) sg_ownVotes sg_votes sg_rows sg_groups sg_bars sg_now sg_forced sg_barred sg_mayActs sg_mayEnds sg_mays ++ W_lw cI lw lw_told lw_parts lw_hangMasks lw_hangValues lw_ownSeats) (S := (Nat → Int32) × (Nat → Int32) × Int32 × Int32 × Int32 × (Nat → Int32) × (Nat → Int32) × Int32) (fun u => W_se cI se se_order se_from se_marks se_cameBy se_runs se_length se_within ++ W_sg cI sg (lw 0) sg_ownVotes (u.1) (u.2.1) sg_groups sg_bars (u.2.2.1) (u.2.2.2.1) (u.2.2.2.2.1) (u.2.2.2.2.2.1) (u.2.2.2.2.2.2.1) (u.2.2.2.2.2.2.2) ++ W_lw cI lw lw_told lw_parts lw_hangMasks lw_hangValues lw_ownSeats) (fun r u => post r u.1 u.2.1 u.2.2.1 u.2.2.2.1 u.2.2.2.2.1 u.2.2.2.2.2.1 u.2.2.2.2.2.2.1 u.2.2.2.2.2.2.2) := by
  refine mk_Mi (by decide +kernel) (Nat.le_of_ble_eq_true rfl) ?_
  intro Γ hl0 hD0 hC hR
  subst hl0
  subst hD0
  have hC : CX Γ cI cZ cX3_canGo RX3 4 4 96 := hC
  show VV Γ (W_se cI se se_order se_from se_marks se_cameBy se_runs se_length se_within ++ W_sg cI sg (lw 0) sg_ownVotes sg_votes sg_rows sg_groups sg_bars sg_now sg_forced sg_barred sg_mayActs sg_mayEnds sg_mays ++ W_lw cI lw lw_told lw_parts lw_hangMasks lw_hangValues lw_ownSeats) [(0, .ref (se 0)), (1, .int p0), (2, .int p1), (3, .ref (sg 0))] 0 []
  unfold wp_X3_canGo at hm
  refine x_aload_n hC 0 dX3_canGo_0 rfl ?_
  refine x_iload_n hC 1 dX3_canGo_1 rfl ?_
  refine x_iload_n hC 2 dX3_canGo_2 rfl ?_
  refine x_callVi hC _ [0, 1, 2, 3, 4, 5] [6, 7, 8, 9, 10, 11, 12, 13, 14, 15, 16, 17] [12, 13, 14, 15, 16, 17, 0, 1, 2, 3, 4, 5, 6, 7, 8, 9, 10, 11] (W_sg cI sg (lw 0) sg_ownVotes sg_votes sg_rows sg_groups sg_bars sg_now sg_forced sg_barred sg_mayActs sg_mayEnds sg_mays ++ W_lw cI lw lw_told lw_parts lw_hangMasks lw_hangValues lw_ownSeats) (fun _ => W_se cI se se_order se_from se_marks se_cameBy se_runs se_length se_within ++ W_sg cI sg (lw 0) sg_ownVotes sg_votes sg_rows sg_groups sg_bars sg_now sg_forced sg_barred sg_mayActs sg_mayEnds sg_mays ++ W_lw cI lw lw_told lw_parts lw_hangMasks lw_hangValues lw_ownSeats) ok_X3_isMarked ml_X3_82 0 1 (c_X3_isMarked (gl Γ) (gD Γ) cI cZ se se_order se_from se_marks se_cameBy se_runs se_length se_within p0 p1 _ hm) (by decide) (by decide) rfl (Nat.le_of_ble_eq_true rfl) rfl rfl rfl rfl (by decide) rfl (fun _ => rfl) rfl rfl rfl rfl dX3_canGo_3 ?_
  rintro r_1 _ hm
  refine x_if_eq hC 11 dX3_canGo_6 (by decide) (fun c_2 => ?_) (fun c_2 => ?_)
  · replace hm := hm.1 c_2
    refine x_aload_n hC 3 dX3_canGo_11 rfl ?_
    refine x_iload_n hC 1 dX3_canGo_12 rfl ?_
    refine x_callVv hC _ [6, 7, 8, 9, 10, 11, 12, 13, 14, 15, 16, 17] [0, 1, 2, 3, 4, 5] [0, 1, 2, 3, 4, 5, 6, 7, 8, 9, 10, 11, 12, 13, 14, 15, 16, 17] (W_se cI se se_order se_from se_marks se_cameBy se_runs se_length se_within) (fun u => W_se cI se se_order se_from se_marks se_cameBy se_runs se_length se_within ++ W_sg cI sg (lw 0) sg_ownVotes (u.1) (u.2.1) sg_groups sg_bars (u.2.2.1) (u.2.2.2.1) (u.2.2.2.2.1) (u.2.2.2.2.2.1) (u.2.2.2.2.2.2.1) (u.2.2.2.2.2.2.2) ++ W_lw cI lw lw_told lw_parts lw_hangMasks lw_hangValues lw_ownSeats) ok_X4_list ml_X3_54 0 2 (c_X4_list (gl Γ) (gD Γ) cI cZ sg lw sg_ownVotes sg_votes sg_rows sg_groups sg_bars sg_now sg_forced sg_barred sg_mayActs sg_mayEnds sg_mays lw_told lw_parts lw_hangMasks lw_hangValues lw_ownSeats p0 _ hm) (by decide) (by decide) rfl (Nat.le_of_ble_eq_true rfl) rfl rfl rfl rfl (by decide) rfl (fun _ => rfl) rfl rfl rfl rfl dX3_canGo_13 ?_
    rintro ⟨sg_votes_3, sg_rows_4, sg_now_5, sg_forced_6, sg_barred_7, sg_mayActs_8, sg_mayEnds_9, sg_mays_10⟩ hm
    refine x_aload_n hC 0 dX3_canGo_16 rfl ?_
    refine x_aload_n hC 3 dX3_canGo_17 rfl ?_
    refine x_iload_n hC 2 dX3_canGo_18 rfl ?_
    refine x_iconst hC (1 : Int32) dX3_canGo_19 (by decide) ?_
    refine x_callVi hC _ [0, 1, 2, 3, 4, 5, 6, 7, 8, 9, 10, 11, 12, 13, 14, 15, 16, 17] [] [0, 1, 2, 3, 4, 5, 6, 7, 8, 9, 10, 11, 12, 13, 14, 15, 16, 17] (([] : va_W)) (fun _ => W_se cI se se_order se_from se_marks se_cameBy se_runs se_length se_within ++ W_sg cI sg (lw 0) sg_ownVotes sg_votes_3 sg_rows_4 sg_groups sg_bars sg_now_5 sg_forced_6 sg_barred_7 sg_mayActs_8 sg_mayEnds_9 sg_mays_10 ++ W_lw cI lw lw_told lw_parts lw_hangMasks lw_hangValues lw_ownSeats) ok_X3_firstActTo ml_X3_93 0 1 (c_X3_firstActTo (gl Γ) (gD Γ) cI cZ se sg lw se_order se_from se_marks se_cameBy se_runs se_length se_within sg_ownVotes sg_votes_3 sg_rows_4 sg_groups sg_bars sg_now_5 sg_forced_6 sg_barred_7 sg_mayActs_8 sg_mayEnds_9 sg_mays_10 lw_told lw_parts lw_hangMasks lw_hangValues lw_ownSeats p1 ((1 : Int32)) _ hm) (by decide) (by decide) rfl (Nat.le_of_ble_eq_true rfl) rfl rfl rfl rfl (by decide) rfl (fun _ => rfl) rfl rfl rfl rfl dX3_canGo_20 ?_
    rintro r_11 _ hm
    refine x_bipush hC (-9 : Int32) dX3_canGo_23 (by decide) ?_
    refine x_icmp_eq hC 32 dX3_canGo_25 (by decide) (fun c_12 => ?_) (fun c_12 => ?_)
    · replace hm := hm.1 c_12
      refine x_iconst hC (0 : Int32) dX3_canGo_32 (by decide) ?_
      exact hR ((0 : Int32)) (sg_votes_3, sg_rows_4, sg_now_5, sg_forced_6, sg_barred_7, sg_mayActs_8, sg_mayEnds_9, sg_mays_10) [(0, .ref (se 0)), (1, .int p0), (2, .int p1), (3, .ref (sg 0))] 33 hm rfl dX3_canGo_33
    · replace hm := hm.2 c_12
      refine x_iconst hC (1 : Int32) dX3_canGo_28 (by decide) ?_
      refine x_goto hC 33 dX3_canGo_29 (by decide) ?_
      exact hR ((1 : Int32)) (sg_votes_3, sg_rows_4, sg_now_5, sg_forced_6, sg_barred_7, sg_mayActs_8, sg_mayEnds_9, sg_mays_10) [(0, .ref (se 0)), (1, .int p0), (2, .int p1), (3, .ref (sg 0))] 33 hm rfl dX3_canGo_33
  · replace hm := hm.2 c_2
    refine x_iconst hC (1 : Int32) dX3_canGo_9 (by decide) ?_
    exact hR ((1 : Int32)) (sg_votes, sg_rows, sg_now, sg_forced, sg_barred, sg_mayActs, sg_mayEnds, sg_mays) [(0, .ref (se 0)), (1, .int p0), (2, .int p1), (3, .ref (sg 0))] 10 hm rfl dX3_canGo_10

def wp_X3_comeTo (se_order : Nat → Int32) (se_from : Nat → Int32) (se_cameBy : Nat → Int32) (se_runs : Int32) (se_length : Int32) (p0 : Int32) (p1 : Int32) (post : (Nat → Int32) → (Nat → Int32) → (Nat → Int32) → Int32 → Prop) : Prop := wp_X5_exists  p0 (fun (r_1 : Int32) => (r_1 = 0 → post se_order se_from se_cameBy se_length) ∧ (¬ r_1 = 0 → vp_in p0 16384 ∧ (((se_cameBy p0.toNatClampNeg) = se_runs → post se_order se_from se_cameBy se_length) ∧ (¬ (se_cameBy p0.toNatClampNeg) = se_runs → (se_length < ((16384 : Int32)) → vp_in p0 16384 ∧ ∀ se_cameBy_5 : Nat → Int32, se_cameBy_5 = upd se_cameBy p0.toNatClampNeg se_runs → vp_in p0 16384 ∧ ∀ se_from_6 : Nat → Int32, se_from_6 = upd se_from p0.toNatClampNeg p1 → vp_in se_length 16384 ∧ ∀ se_order_7 : Nat → Int32, se_order_7 = upd se_order se_length.toNatClampNeg p0 → ∀ v_8 : Int32, v_8 = se_length + ((1 : Int32)) → post se_order_7 se_from_6 se_cameBy_5 v_8) ∧ (¬ se_length < ((16384 : Int32)) → post se_order se_from se_cameBy se_length)))))
set_option maxHeartbeats 4000000 in
set_option maxRecDepth 100000 in
theorem c_X3_comeTo (l : Launch) (D : va_G) (cI cZ : ClassId) (se : Nat → Nat) (se_order : Nat → Int32) (se_from : Nat → Int32) (se_marks : Nat → Int32) (se_cameBy : Nat → Int32) (se_runs : Int32) (se_length : Int32) (se_within : Nat → Int32) (p0 : Int32) (p1 : Int32) (post : (Nat → Int32) → (Nat → Int32) → (Nat → Int32) → Int32 → Prop) (hm : wp_X3_comeTo se_order se_from se_cameBy se_runs se_length p0 p1 post) : Mv l D cI cZ yX3_comeTo cX3_comeTo 3 1 20 [.ref (se 0), .int p0, .int p1] (W_se cI se se_order se_from se_marks se_cameBy se_runs se_length se_within) (S := (Nat → Int32) × (Nat → Int32) × (Nat → Int32) × Int32) (fun u => W_se cI se (u.1) (u.2.1) se_marks (u.2.2.1) se_runs (u.2.2.2) se_within) (fun u => post u.1 u.2.1 u.2.2.1 u.2.2.2) := by
  refine mk_Mv (by decide +kernel) (Nat.le_of_ble_eq_true rfl) ?_
  intro Γ hl0 hD0 hC hR
  subst hl0
  subst hD0
  have hC : CX Γ cI cZ cX3_comeTo RX3 3 1 20 := hC
  show VV Γ (W_se cI se se_order se_from se_marks se_cameBy se_runs se_length se_within) [(0, .ref (se 0)), (1, .int p0), (2, .int p1)] 0 []
  unfold wp_X3_comeTo at hm
  refine x_iload_n hC 1 dX3_comeTo_0 rfl ?_
  refine x_callSi hC _ [] [0, 1, 2, 3, 4, 5] [0, 1, 2, 3, 4, 5] (W_se cI se se_order se_from se_marks se_cameBy se_runs se_length se_within) (fun _ => W_se cI se se_order se_from se_marks se_cameBy se_runs se_length se_within) ok_X5_exists ml_X3_72 (c_X5_exists (gl Γ) (gD Γ) cI cZ   p0 _ hm) (by decide) (by decide) rfl (Nat.le_of_ble_eq_true rfl) rfl rfl rfl rfl (by decide) rfl (fun _ => rfl) rfl dX3_comeTo_1 ?_
  rintro r_1 _ hm
  refine x_if_eq hC 30 dX3_comeTo_4 (by decide) (fun c_2 => ?_) (fun c_2 => ?_)
  · replace hm := hm.1 c_2
    exact hR (se_order, se_from, se_cameBy, se_length) [(0, .ref (se 0)), (1, .int p0), (2, .int p1)] 30 hm dX3_comeTo_30
  · replace hm := hm.2 c_2
    refine x_aload_n hC 0 dX3_comeTo_7 rfl ?_
    refine x_get hC 1 inX3g 0 rfl rfl 3 (by decide) fl_X3_23 rfl dX3_comeTo_8 ?_
    refine x_iload_n hC 1 dX3_comeTo_11 rfl ?_
    refine x_iald hC 4 rfl hm.1 dX3_comeTo_12 ?_
    replace hm := hm.2
    refine x_aload_n hC 0 dX3_comeTo_13 rfl ?_
    refine x_get hC 1 inX3g 0 rfl rfl 4 (by decide) fl_X3_47 rfl dX3_comeTo_14 ?_
    refine x_icmp_eq hC 30 dX3_comeTo_17 (by decide) (fun c_3 => ?_) (fun c_3 => ?_)
    · replace hm := hm.1 c_3
      exact hR (se_order, se_from, se_cameBy, se_length) [(0, .ref (se 0)), (1, .int p0), (2, .int p1)] 30 hm dX3_comeTo_30
    · replace hm := hm.2 c_3
      refine x_aload_n hC 0 dX3_comeTo_20 rfl ?_
      refine x_get hC 1 inX3g 0 rfl rfl 5 (by decide) fl_X3_29 rfl dX3_comeTo_21 ?_
      refine x_sipush hC (16384 : Int32) dX3_comeTo_24 (by decide) ?_
      refine x_icmp_lt hC 31 dX3_comeTo_27 (by decide) (fun c_4 => ?_) (fun c_4 => ?_)
      · replace hm := hm.1 c_4
        refine x_aload_n hC 0 dX3_comeTo_31 rfl ?_
        refine x_get hC 1 inX3g 0 rfl rfl 3 (by decide) fl_X3_23 rfl dX3_comeTo_32 ?_
        refine x_iload_n hC 1 dX3_comeTo_35 rfl ?_
        refine x_aload_n hC 0 dX3_comeTo_36 rfl ?_
        refine x_get hC 1 inX3g 0 rfl rfl 4 (by decide) fl_X3_47 rfl dX3_comeTo_37 ?_
        refine x_iastN hC 4 rfl hm.1 (fun se_cameBy_5 => W_se cI se se_order se_from se_marks se_cameBy_5 se_runs se_length se_within) (fun _ => rfl) dX3_comeTo_40 (fun se_cameBy_5 ese_cameBy_5 => ?_)
        replace hm := hm.2 se_cameBy_5 ese_cameBy_5
        refine x_aload_n hC 0 dX3_comeTo_41 rfl ?_
        refine x_get hC 1 inX3g 0 rfl rfl 1 (by decide) fl_X3_17 rfl dX3_comeTo_42 ?_
        refine x_iload_n hC 1 dX3_comeTo_45 rfl ?_
        refine x_iload_n hC 2 dX3_comeTo_46 rfl ?_
        refine x_iastN hC 2 rfl hm.1 (fun se_from_6 => W_se cI se se_order se_from_6 se_marks se_cameBy_5 se_runs se_length se_within) (fun _ => rfl) dX3_comeTo_47 (fun se_from_6 ese_from_6 => ?_)
        replace hm := hm.2 se_from_6 ese_from_6
        refine x_aload_n hC 0 dX3_comeTo_48 rfl ?_
        refine x_get hC 1 inX3g 0 rfl rfl 0 (by decide) fl_X3_11 rfl dX3_comeTo_49 ?_
        refine x_aload_n hC 0 dX3_comeTo_52 rfl ?_
        refine x_get hC 1 inX3g 0 rfl rfl 5 (by decide) fl_X3_29 rfl dX3_comeTo_53 ?_
        refine x_iload_n hC 1 dX3_comeTo_56 rfl ?_
        refine x_iastN hC 1 rfl hm.1 (fun se_order_7 => W_se cI se se_order_7 se_from_6 se_marks se_cameBy_5 se_runs se_length se_within) (fun _ => rfl) dX3_comeTo_57 (fun se_order_7 ese_order_7 => ?_)
        replace hm := hm.2 se_order_7 ese_order_7
        refine x_aload_n hC 0 dX3_comeTo_58 rfl ?_
        refine x_dup hC dX3_comeTo_59 rfl ?_
        refine x_get hC 1 inX3g 0 rfl rfl 5 (by decide) fl_X3_29 rfl dX3_comeTo_60 ?_
        refine x_iconst hC (1 : Int32) dX3_comeTo_63 (by decide) ?_
        refine x_iadd hC dX3_comeTo_64 ?_
        refine x_top (fun v_8 ev_8 => ?_)
        replace hm := hm v_8 ev_8
        refine x_put hC 1 tyX3_ok nmX3 inX3g 0 rfl rfl 5 (by decide) fl_X3_29 rfl (ty := .int) (by decide +kernel) rfl rfl (Nat.le_of_ble_eq_true rfl) (W_se cI se se_order_7 se_from_6 se_marks se_cameBy_5 se_runs v_8 se_within) rfl dX3_comeTo_65 ?_
        exact hR (se_order_7, se_from_6, se_cameBy_5, v_8) [(0, .ref (se 0)), (1, .int p0), (2, .int p1)] 68 hm dX3_comeTo_68
      · replace hm := hm.2 c_4
        exact hR (se_order, se_from, se_cameBy, se_length) [(0, .ref (se 0)), (1, .int p0), (2, .int p1)] 30 hm dX3_comeTo_30

def wp_X3_startAt (se_order : Nat → Int32) (se_from : Nat → Int32) (se_cameBy : Nat → Int32) (se_runs : Int32) (se_length : Int32) (p0 : Int32) (post : (Nat → Int32) → (Nat → Int32) → (Nat → Int32) → Int32 → Int32 → Prop) : Prop := ∀ v_1 : Int32, v_1 = se_runs + ((1 : Int32)) → wp_X3_comeTo se_order se_from se_cameBy v_1 ((0 : Int32)) p0 ((-1 : Int32)) (fun (se_order_2 : Nat → Int32) (se_from_3 : Nat → Int32) (se_cameBy_4 : Nat → Int32) (se_length_5 : Int32) => post se_order_2 se_from_3 se_cameBy_4 v_1 se_length_5)
set_option maxHeartbeats 4000000 in
set_option maxRecDepth 100000 in
theorem c_X3_startAt (l : Launch) (D : va_G) (cI cZ : ClassId) (se : Nat → Nat) (se_order : Nat → Int32) (se_from : Nat → Int32) (se_marks : Nat → Int32) (se_cameBy : Nat → Int32) (se_runs : Int32) (se_length : Int32) (se_within : Nat → Int32) (p0 : Int32) (post : (Nat → Int32) → (Nat → Int32) → (Nat → Int32) → Int32 → Int32 → Prop) (hm : wp_X3_startAt se_order se_from se_cameBy se_runs se_length p0 post) : Mv l D cI cZ yX3_startAt cX3_startAt 2 2 42 [.ref (se 0), .int p0] (W_se cI se se_order se_from se_marks se_cameBy se_runs se_length se_within) (S := (Nat → Int32) × (Nat → Int32) × (Nat → Int32) × Int32 × Int32) (fun u => W_se cI se (u.1) (u.2.1) se_marks (u.2.2.1) (u.2.2.2.1) (u.2.2.2.2) se_within) (fun u => post u.1 u.2.1 u.2.2.1 u.2.2.2.1 u.2.2.2.2) := by
  refine mk_Mv (by decide +kernel) (Nat.le_of_ble_eq_true rfl) ?_
  intro Γ hl0 hD0 hC hR
  subst hl0
  subst hD0
  have hC : CX Γ cI cZ cX3_startAt RX3 2 2 42 := hC
  show VV Γ (W_se cI se se_order se_from se_marks se_cameBy se_runs se_length se_within) [(0, .ref (se 0)), (1, .int p0)] 0 []
  unfold wp_X3_startAt at hm
  refine x_aload_n hC 0 dX3_startAt_0 rfl ?_
  refine x_dup hC dX3_startAt_1 rfl ?_
  refine x_get hC 1 inX3g 0 rfl rfl 4 (by decide) fl_X3_47 rfl dX3_startAt_2 ?_
  refine x_iconst hC (1 : Int32) dX3_startAt_5 (by decide) ?_
  refine x_iadd hC dX3_startAt_6 ?_
  refine x_top (fun v_1 ev_1 => ?_)
  replace hm := hm v_1 ev_1
  refine x_put hC 1 tyX3_ok nmX3 inX3g 0 rfl rfl 4 (by decide) fl_X3_47 rfl (ty := .int) (by decide +kernel) rfl rfl (Nat.le_of_ble_eq_true rfl) (W_se cI se se_order se_from se_marks se_cameBy v_1 se_length se_within) rfl dX3_startAt_7 ?_
  refine x_aload_n hC 0 dX3_startAt_10 rfl ?_
  refine x_iconst hC (0 : Int32) dX3_startAt_11 (by decide) ?_
  refine x_put hC 1 tyX3_ok nmX3 inX3g 0 rfl rfl 5 (by decide) fl_X3_29 rfl (ty := .int) (by decide +kernel) rfl rfl (Nat.le_of_ble_eq_true rfl) (W_se cI se se_order se_from se_marks se_cameBy v_1 ((0 : Int32)) se_within) rfl dX3_startAt_12 ?_
  refine x_aload_n hC 0 dX3_startAt_15 rfl ?_
  refine x_iload_n hC 1 dX3_startAt_16 rfl ?_
  refine x_iconst hC (-1 : Int32) dX3_startAt_17 (by decide) ?_
  refine x_callVv hC _ [0, 1, 2, 3, 4, 5] [] [0, 1, 2, 3, 4, 5] (([] : va_W)) (fun u => W_se cI se (u.1) (u.2.1) se_marks (u.2.2.1) v_1 (u.2.2.2) se_within) ok_X3_comeTo ml_X3_50 0 1 (c_X3_comeTo (gl Γ) (gD Γ) cI cZ se se_order se_from se_marks se_cameBy v_1 ((0 : Int32)) se_within p0 ((-1 : Int32)) _ hm) (by decide) (by decide) rfl (Nat.le_of_ble_eq_true rfl) rfl rfl rfl rfl (by decide) rfl (fun _ => rfl) rfl rfl rfl rfl dX3_startAt_18 ?_
  rintro ⟨se_order_2, se_from_3, se_cameBy_4, se_length_5⟩ hm
  exact hR (se_order_2, se_from_3, se_cameBy_4, v_1, se_length_5) [(0, .ref (se 0)), (1, .int p0)] 21 hm dX3_startAt_21

def wpL_X3_spread_7 (se_runs : Int32) (sg_ownVotes : Nat → Int32) (sg_groups : Int32) (sg_bars : Int32) (lw_told : Nat → Int32) (lw_parts : Nat → Int32) (lw_hangMasks : Nat → Int32) (lw_hangValues : Nat → Int32)  (post : (Nat → Int32) → (Nat → Int32) → (Nat → Int32) → Int32 → (Nat → Int32) → (Nat → Int32) → Int32 → Int32 → Int32 → (Nat → Int32) → (Nat → Int32) → Int32 → Prop) : Nat → (Nat → Int32) → (Nat → Int32) → (Nat → Int32) → Int32 → (Nat → Int32) → (Nat → Int32) → Int32 → Int32 → Int32 → (Nat → Int32) → (Nat → Int32) → Int32 → Int32 → Int32 → Prop
  | 0, _, _, _, _, _, _, _, _, _, _, _, _, _, _ => False
  | n + 1, se_order_9, se_from_10, se_cameBy_11, se_length_12, sg_votes_13, sg_rows_14, sg_now_15, sg_forced_16, sg_barred_17, sg_mayActs_18, sg_mayEnds_19, sg_mays_20, x1_21, x3_22 => wp_X4_howManyMay sg_mays_20  (fun (r_23 : Int32) => (r_23 ≤ x3_22 → post se_order_9 se_from_10 se_cameBy_11 se_length_12 sg_votes_13 sg_rows_14 sg_now_15 sg_forced_16 sg_barred_17 sg_mayActs_18 sg_mayEnds_19 sg_mays_20) ∧ (¬ r_23 ≤ x3_22 → (((20 : Int32)) ≤ x3_22 → post se_order_9 se_from_10 se_cameBy_11 se_length_12 sg_votes_13 sg_rows_14 sg_now_15 sg_forced_16 sg_barred_17 sg_mayActs_18 sg_mayEnds_19 sg_mays_20) ∧ (¬ ((20 : Int32)) ≤ x3_22 → wp_X4_mayComeTo sg_now_15 sg_mayEnds_19 sg_mays_20 x3_22 (fun (r_26 : Int32) => wp_X4_mayDo sg_mayActs_18 sg_mays_20 x3_22 (fun (r_27 : Int32) => wp_X3_comeTo se_order_9 se_from_10 se_cameBy_11 se_runs se_length_12 r_26 ((x1_21 <<< (((9 : Int32)) &&& 31)) ||| r_27) (fun (se_order_28 : Nat → Int32) (se_from_29 : Nat → Int32) (se_cameBy_30 : Nat → Int32) (se_length_31 : Int32) => ∀ x3_32 : Int32, x3_32 = x3_22 + (1 : Int32) → (wpL_X3_spread_7 se_runs sg_ownVotes sg_groups sg_bars lw_told lw_parts lw_hangMasks lw_hangValues  post n) se_order_28 se_from_29 se_cameBy_30 se_length_31 sg_votes_13 sg_rows_14 sg_now_15 sg_forced_16 sg_barred_17 sg_mayActs_18 sg_mayEnds_19 sg_mays_20 x1_21 x3_32))))))
def wp_X3_spread (se_order : Nat → Int32) (se_from : Nat → Int32) (se_cameBy : Nat → Int32) (se_runs : Int32) (se_length : Int32) (sg_ownVotes : Nat → Int32) (sg_votes : Nat → Int32) (sg_rows : Nat → Int32) (sg_groups : Int32) (sg_bars : Int32) (sg_now : Int32) (sg_forced : Int32) (sg_barred : Int32) (sg_mayActs : Nat → Int32) (sg_mayEnds : Nat → Int32) (sg_mays : Int32) (lw_told : Nat → Int32) (lw_parts : Nat → Int32) (lw_hangMasks : Nat → Int32) (lw_hangValues : Nat → Int32) (p0 : Int32) (post : (Nat → Int32) → (Nat → Int32) → (Nat → Int32) → Int32 → (Nat → Int32) → (Nat → Int32) → Int32 → Int32 → Int32 → (Nat → Int32) → (Nat → Int32) → Int32 → Prop) : Prop := wp_X4_list sg_ownVotes sg_votes sg_rows sg_groups sg_bars sg_now sg_forced sg_barred sg_mayActs sg_mayEnds sg_mays lw_told lw_parts lw_hangMasks lw_hangValues p0 (fun (sg_votes_1 : Nat → Int32) (sg_rows_2 : Nat → Int32) (sg_now_3 : Int32) (sg_forced_4 : Int32) (sg_barred_5 : Int32) (sg_mayActs_6 : Nat → Int32) (sg_mayEnds_7 : Nat → Int32) (sg_mays_8 : Int32) => ∃ k7, wpL_X3_spread_7 se_runs sg_ownVotes sg_groups sg_bars lw_told lw_parts lw_hangMasks lw_hangValues  post k7 se_order se_from se_cameBy se_length sg_votes_1 sg_rows_2 sg_now_3 sg_forced_4 sg_barred_5 sg_mayActs_6 sg_mayEnds_7 sg_mays_8 p0 ((0 : Int32)))
set_option maxHeartbeats 4000000 in
set_option maxRecDepth 100000 in
theorem c_X3_spread (l : Launch) (D : va_G) (cI cZ : ClassId) (se : Nat → Nat) (sg : Nat → Nat) (lw : Nat → Nat) (se_order : Nat → Int32) (se_from : Nat → Int32) (se_marks : Nat → Int32) (se_cameBy : Nat → Int32) (se_runs : Int32) (se_length : Int32) (se_within : Nat → Int32) (sg_ownVotes : Nat → Int32) (sg_votes : Nat → Int32) (sg_rows : Nat → Int32) (sg_groups : Int32) (sg_bars : Int32) (sg_now : Int32) (sg_forced : Int32) (sg_barred : Int32) (sg_mayActs : Nat → Int32) (sg_mayEnds : Nat → Int32) (sg_mays : Int32) (lw_told : Nat → Int32) (lw_parts : Nat → Int32) (lw_hangMasks : Nat → Int32) (lw_hangValues : Nat → Int32) (lw_ownSeats : Nat → Int32) (p0 : Int32) (post : (Nat → Int32) → (Nat → Int32) → (Nat → Int32) → Int32 → (Nat → Int32) → (Nat → Int32) → Int32 → Int32 → Int32 → (Nat → Int32) → (Nat → Int32) → Int32 → Prop) (hm : wp_X3_spread se_order se_from se_cameBy se_runs se_length sg_ownVotes sg_votes sg_rows sg_groups sg_bars sg_now sg_forced sg_barred sg_mayActs sg_mayEnds sg_mays lw_told lw_parts lw_hangMasks lw_hangValues p0 post) : Mv l D cI cZ yX3_spread cX3_spread 4 4 96 [.ref (se 0), .int p0, .ref (sg 0)] (W_se cI se se_order se_from se_marks se_cameBy se_runs se_length se_within ++ W_sg cI sg (lw 0) sg_ownVotes sg_votes sg_rows sg_groups sg_bars sg_now sg_forced sg_barred sg_mayActs sg_mayEnds sg_mays ++ W_lw cI lw lw_told lw_parts lw_hangMasks lw_hangValues lw_ownSeats) (S := (Nat → Int32) × (Nat → Int32) × (Nat → Int32) × Int32 × (Nat → Int32) × (Nat → Int32) × Int32 × Int32 × Int32 × (Nat → Int32) × (Nat → Int32) × Int32) (fun u => W_se cI se (u.1) (u.2.1) se_marks (u.2.2.1) se_runs (u.2.2.2.1) se_within ++ W_sg cI sg (lw 0) sg_ownVotes (u.2.2.2.2.1) (u.2.2.2.2.2.1) sg_groups sg_bars (u.2.2.2.2.2.2.1) (u.2.2.2.2.2.2.2.1) (u.2.2.2.2.2.2.2.2.1) (u.2.2.2.2.2.2.2.2.2.1) (u.2.2.2.2.2.2.2.2.2.2.1) (u.2.2.2.2.2.2.2.2.2.2.2) ++ W_lw cI lw lw_told lw_parts lw_hangMasks lw_hangValues lw_ownSeats) (fun u => post u.1 u.2.1 u.2.2.1 u.2.2.2.1 u.2.2.2.2.1 u.2.2.2.2.2.1 u.2.2.2.2.2.2.1 u.2.2.2.2.2.2.2.1 u.2.2.2.2.2.2.2.2.1 u.2.2.2.2.2.2.2.2.2.1 u.2.2.2.2.2.2.2.2.2.2.1 u.2.2.2.2.2.2.2.2.2.2.2) := by
  refine mk_Mv (by decide +kernel) (Nat.le_of_ble_eq_true rfl) ?_
  intro Γ hl0 hD0 hC hR
  subst hl0
  subst hD0
  have hC : CX Γ cI cZ cX3_spread RX3 4 4 96 := hC
  show VV Γ (W_se cI se se_order se_from se_marks se_cameBy se_runs se_length se_within ++ W_sg cI sg (lw 0) sg_ownVotes sg_votes sg_rows sg_groups sg_bars sg_now sg_forced sg_barred sg_mayActs sg_mayEnds sg_mays ++ W_lw cI lw lw_told lw_parts lw_hangMasks lw_hangValues lw_ownSeats) [(0, .ref (se 0)), (1, .int p0), (2, .ref (sg 0))] 0 []
  have B_7 : ∀ (n : Nat) (se_order_9 : Nat → Int32) (se_from_10 : Nat → Int32) (se_cameBy_11 : Nat → Int32) (se_length_12 : Int32) (sg_votes_13 : Nat → Int32) (sg_rows_14 : Nat → Int32) (sg_now_15 : Int32) (sg_forced_16 : Int32) (sg_barred_17 : Int32) (sg_mayActs_18 : Nat → Int32) (sg_mayEnds_19 : Nat → Int32) (sg_mays_20 : Int32) (x1_21 : Int32) (x3_22 : Int32), wpL_X3_spread_7 se_runs sg_ownVotes sg_groups sg_bars lw_told lw_parts lw_hangMasks lw_hangValues  post n se_order_9 se_from_10 se_cameBy_11 se_length_12 sg_votes_13 sg_rows_14 sg_now_15 sg_forced_16 sg_barred_17 sg_mayActs_18 sg_mayEnds_19 sg_mays_20 x1_21 x3_22 → VV Γ (W_se cI se se_order_9 se_from_10 se_marks se_cameBy_11 se_runs se_length_12 se_within ++ W_sg cI sg (lw 0) sg_ownVotes sg_votes_13 sg_rows_14 sg_groups sg_bars sg_now_15 sg_forced_16 sg_barred_17 sg_mayActs_18 sg_mayEnds_19 sg_mays_20 ++ W_lw cI lw lw_told lw_parts lw_hangMasks lw_hangValues lw_ownSeats) [(0, .ref (se 0)), (1, .int x1_21), (2, .ref (sg 0)), (3, .int x3_22)] 7 [] := by
    intro  n
    induction n with
    | zero => intro se_order_9 se_from_10 se_cameBy_11 se_length_12 sg_votes_13 sg_rows_14 sg_now_15 sg_forced_16 sg_barred_17 sg_mayActs_18 sg_mayEnds_19 sg_mays_20 x1_21 x3_22 hm; rw [wpL_X3_spread_7] at hm; exact hm.elim
    | succ n ih =>
      intro se_order_9 se_from_10 se_cameBy_11 se_length_12 sg_votes_13 sg_rows_14 sg_now_15 sg_forced_16 sg_barred_17 sg_mayActs_18 sg_mayEnds_19 sg_mays_20 x1_21 x3_22 hm
      rw [wpL_X3_spread_7] at hm
      refine x_iload_n hC 3 dX3_spread_7 rfl ?_
      refine x_aload_n hC 2 dX3_spread_8 rfl ?_
      refine x_callVi hC _ [6, 7, 8, 9, 10, 11, 12, 13, 14, 15, 16, 17] [0, 1, 2, 3, 4, 5] [0, 1, 2, 3, 4, 5, 6, 7, 8, 9, 10, 11, 12, 13, 14, 15, 16, 17] (W_se cI se se_order_9 se_from_10 se_marks se_cameBy_11 se_runs se_length_12 se_within) (fun _ => W_se cI se se_order_9 se_from_10 se_marks se_cameBy_11 se_runs se_length_12 se_within ++ W_sg cI sg (lw 0) sg_ownVotes sg_votes_13 sg_rows_14 sg_groups sg_bars sg_now_15 sg_forced_16 sg_barred_17 sg_mayActs_18 sg_mayEnds_19 sg_mays_20 ++ W_lw cI lw lw_told lw_parts lw_hangMasks lw_hangValues lw_ownSeats) ok_X4_howManyMay ml_X3_59 0 2 (c_X4_howManyMay (gl Γ) (gD Γ) cI cZ sg lw sg_ownVotes sg_votes_13 sg_rows_14 sg_groups sg_bars sg_now_15 sg_forced_16 sg_barred_17 sg_mayActs_18 sg_mayEnds_19 sg_mays_20 lw_told lw_parts lw_hangMasks lw_hangValues lw_ownSeats  _ hm) (by decide) (by decide) rfl (Nat.le_of_ble_eq_true rfl) rfl rfl rfl rfl (by decide) rfl (fun _ => rfl) rfl rfl rfl rfl dX3_spread_9 ?_
      rintro r_23 _ hm
      refine x_icmp_ge hC 46 dX3_spread_12 (by decide) (fun c_24 => ?_) (fun c_24 => ?_)
      · replace hm := hm.1 c_24
        exact hR (se_order_9, se_from_10, se_cameBy_11, se_length_12, sg_votes_13, sg_rows_14, sg_now_15, sg_forced_16, sg_barred_17, sg_mayActs_18, sg_mayEnds_19, sg_mays_20) [(0, .ref (se 0)), (1, .int x1_21), (2, .ref (sg 0)), (3, .int x3_22)] 46 hm dX3_spread_46
      · replace hm := hm.2 c_24
        refine x_iload_n hC 3 dX3_spread_15 rfl ?_
        refine x_bipush hC (20 : Int32) dX3_spread_16 (by decide) ?_
        refine x_icmp_ge hC 46 dX3_spread_18 (by decide) (fun c_25 => ?_) (fun c_25 => ?_)
        · replace hm := hm.1 c_25
          exact hR (se_order_9, se_from_10, se_cameBy_11, se_length_12, sg_votes_13, sg_rows_14, sg_now_15, sg_forced_16, sg_barred_17, sg_mayActs_18, sg_mayEnds_19, sg_mays_20) [(0, .ref (se 0)), (1, .int x1_21), (2, .ref (sg 0)), (3, .int x3_22)] 46 hm dX3_spread_46
        · replace hm := hm.2 c_25
          refine x_aload_n hC 0 dX3_spread_21 rfl ?_
          refine x_aload_n hC 2 dX3_spread_22 rfl ?_
          refine x_iload_n hC 3 dX3_spread_23 rfl ?_
          refine x_callVi hC _ [6, 7, 8, 9, 10, 11, 12, 13, 14, 15, 16, 17] [0, 1, 2, 3, 4, 5] [0, 1, 2, 3, 4, 5, 6, 7, 8, 9, 10, 11, 12, 13, 14, 15, 16, 17] (W_se cI se se_order_9 se_from_10 se_marks se_cameBy_11 se_runs se_length_12 se_within) (fun _ => W_se cI se se_order_9 se_from_10 se_marks se_cameBy_11 se_runs se_length_12 se_within ++ W_sg cI sg (lw 0) sg_ownVotes sg_votes_13 sg_rows_14 sg_groups sg_bars sg_now_15 sg_forced_16 sg_barred_17 sg_mayActs_18 sg_mayEnds_19 sg_mays_20 ++ W_lw cI lw lw_told lw_parts lw_hangMasks lw_hangValues lw_ownSeats) ok_X4_mayComeTo ml_X3_65 0 2 (c_X4_mayComeTo (gl Γ) (gD Γ) cI cZ sg lw sg_ownVotes sg_votes_13 sg_rows_14 sg_groups sg_bars sg_now_15 sg_forced_16 sg_barred_17 sg_mayActs_18 sg_mayEnds_19 sg_mays_20 lw_told lw_parts lw_hangMasks lw_hangValues lw_ownSeats x3_22 _ hm) (by decide) (by decide) rfl (Nat.le_of_ble_eq_true rfl) rfl rfl rfl rfl (by decide) rfl (fun _ => rfl) rfl rfl rfl rfl dX3_spread_24 ?_
          rintro r_26 _ hm
          refine x_iload_n hC 1 dX3_spread_27 rfl ?_
          refine x_bipush hC (9 : Int32) dX3_spread_28 (by decide) ?_
          refine x_ishl hC dX3_spread_30 ?_
          refine x_aload_n hC 2 dX3_spread_31 rfl ?_
          refine x_iload_n hC 3 dX3_spread_32 rfl ?_
          refine x_callVi hC _ [6, 7, 8, 9, 10, 11, 12, 13, 14, 15, 16, 17] [0, 1, 2, 3, 4, 5] [0, 1, 2, 3, 4, 5, 6, 7, 8, 9, 10, 11, 12, 13, 14, 15, 16, 17] (W_se cI se se_order_9 se_from_10 se_marks se_cameBy_11 se_runs se_length_12 se_within) (fun _ => W_se cI se se_order_9 se_from_10 se_marks se_cameBy_11 se_runs se_length_12 se_within ++ W_sg cI sg (lw 0) sg_ownVotes sg_votes_13 sg_rows_14 sg_groups sg_bars sg_now_15 sg_forced_16 sg_barred_17 sg_mayActs_18 sg_mayEnds_19 sg_mays_20 ++ W_lw cI lw lw_told lw_parts lw_hangMasks lw_hangValues lw_ownSeats) ok_X4_mayDo ml_X3_69 0 2 (c_X4_mayDo (gl Γ) (gD Γ) cI cZ sg lw sg_ownVotes sg_votes_13 sg_rows_14 sg_groups sg_bars sg_now_15 sg_forced_16 sg_barred_17 sg_mayActs_18 sg_mayEnds_19 sg_mays_20 lw_told lw_parts lw_hangMasks lw_hangValues lw_ownSeats x3_22 _ hm) (by decide) (by decide) rfl (Nat.le_of_ble_eq_true rfl) rfl rfl rfl rfl (by decide) rfl (fun _ => rfl) rfl rfl rfl rfl dX3_spread_33 ?_
          rintro r_27 _ hm
          refine x_ior hC dX3_spread_36 ?_
          refine x_callVv hC _ [0, 1, 2, 3, 4, 5] [6, 7, 8, 9, 10, 11, 12, 13, 14, 15, 16, 17] [12, 13, 14, 15, 16, 17, 0, 1, 2, 3, 4, 5, 6, 7, 8, 9, 10, 11] (W_sg cI sg (lw 0) sg_ownVotes sg_votes_13 sg_rows_14 sg_groups sg_bars sg_now_15 sg_forced_16 sg_barred_17 sg_mayActs_18 sg_mayEnds_19 sg_mays_20 ++ W_lw cI lw lw_told lw_parts lw_hangMasks lw_hangValues lw_ownSeats) (fun u => W_se cI se (u.1) (u.2.1) se_marks (u.2.2.1) se_runs (u.2.2.2) se_within ++ W_sg cI sg (lw 0) sg_ownVotes sg_votes_13 sg_rows_14 sg_groups sg_bars sg_now_15 sg_forced_16 sg_barred_17 sg_mayActs_18 sg_mayEnds_19 sg_mays_20 ++ W_lw cI lw lw_told lw_parts lw_hangMasks lw_hangValues lw_ownSeats) ok_X3_comeTo ml_X3_50 0 1 (c_X3_comeTo (gl Γ) (gD Γ) cI cZ se se_order_9 se_from_10 se_marks se_cameBy_11 se_runs se_length_12 se_within r_26 ((x1_21 <<< (((9 : Int32)) &&& 31)) ||| r_27) _ hm) (by decide) (by decide) rfl (Nat.le_of_ble_eq_true rfl) rfl rfl rfl rfl (by decide) rfl (fun _ => rfl) rfl rfl rfl rfl dX3_spread_37 ?_
          rintro ⟨se_order_28, se_from_29, se_cameBy_30, se_length_31⟩ hm
          obtain ⟨x3_32, ex3_32⟩ : ∃ y : Int32, y = x3_22 + (1 : Int32) := ⟨_, rfl⟩
          replace hm := hm x3_32 ex3_32
          refine x_iinc hC 3 x3_32 [(0, .ref (se 0)), (1, .int x1_21), (2, .ref (sg 0)), (3, .int x3_32)] [1, 2, 3, 0] dX3_spread_40 rfl (by rw [ex3_32]; rfl) (by decide) rfl ?_
          refine x_goto hC 7 dX3_spread_43 (by decide) ?_
          exact ih se_order_28 se_from_29 se_cameBy_30 se_length_31 sg_votes_13 sg_rows_14 sg_now_15 sg_forced_16 sg_barred_17 sg_mayActs_18 sg_mayEnds_19 sg_mays_20 x1_21 x3_32 hm
  unfold wp_X3_spread at hm
  refine x_aload_n hC 2 dX3_spread_0 rfl ?_
  refine x_iload_n hC 1 dX3_spread_1 rfl ?_
  refine x_callVv hC _ [6, 7, 8, 9, 10, 11, 12, 13, 14, 15, 16, 17] [0, 1, 2, 3, 4, 5] [0, 1, 2, 3, 4, 5, 6, 7, 8, 9, 10, 11, 12, 13, 14, 15, 16, 17] (W_se cI se se_order se_from se_marks se_cameBy se_runs se_length se_within) (fun u => W_se cI se se_order se_from se_marks se_cameBy se_runs se_length se_within ++ W_sg cI sg (lw 0) sg_ownVotes (u.1) (u.2.1) sg_groups sg_bars (u.2.2.1) (u.2.2.2.1) (u.2.2.2.2.1) (u.2.2.2.2.2.1) (u.2.2.2.2.2.2.1) (u.2.2.2.2.2.2.2) ++ W_lw cI lw lw_told lw_parts lw_hangMasks lw_hangValues lw_ownSeats) ok_X4_list ml_X3_54 0 2 (c_X4_list (gl Γ) (gD Γ) cI cZ sg lw sg_ownVotes sg_votes sg_rows sg_groups sg_bars sg_now sg_forced sg_barred sg_mayActs sg_mayEnds sg_mays lw_told lw_parts lw_hangMasks lw_hangValues lw_ownSeats p0 _ hm) (by decide) (by decide) rfl (Nat.le_of_ble_eq_true rfl) rfl rfl rfl rfl (by decide) rfl (fun _ => rfl) rfl rfl rfl rfl dX3_spread_2 ?_
  rintro ⟨sg_votes_1, sg_rows_2, sg_now_3, sg_forced_4, sg_barred_5, sg_mayActs_6, sg_mayEnds_7, sg_mays_8⟩ hm
  refine x_iconst hC (0 : Int32) dX3_spread_5 (by decide) ?_
  refine x_istore_n hC [(0, .ref (se 0)), (1, .int p0), (2, .ref (sg 0)), (3, .int ((0 : Int32)))] [1, 2, 3, 0] dX3_spread_6 (by decide) rfl ?_
  obtain ⟨n_33, hm⟩ := hm
  exact B_7  n_33 se_order se_from se_cameBy se_length sg_votes_1 sg_rows_2 sg_now_3 sg_forced_4 sg_barred_5 sg_mayActs_6 sg_mayEnds_7 sg_mays_8 p0 ((0 : Int32)) hm

def wpL_X3_find_8 (sg_ownVotes : Nat → Int32) (sg_groups : Int32) (sg_bars : Int32) (lw_told : Nat → Int32) (lw_parts : Nat → Int32) (lw_hangMasks : Nat → Int32) (lw_hangValues : Nat → Int32)  (post : Int32 → (Nat → Int32) → (Nat → Int32) → (Nat → Int32) → Int32 → Int32 → (Nat → Int32) → (Nat → Int32) → Int32 → Int32 → Int32 → (Nat → Int32) → (Nat → Int32) → Int32 → Prop) : Nat → (Nat → Int32) → (Nat → Int32) → (Nat → Int32) → Int32 → Int32 → (Nat → Int32) → (Nat → Int32) → Int32 → Int32 → Int32 → (Nat → Int32) → (Nat → Int32) → Int32 → Int32 → Int32 → Int32 → Prop
  | 0, _, _, _, _, _, _, _, _, _, _, _, _, _, _, _, _ => False
  | n + 1, se_order_6, se_from_7, se_cameBy_8, se_runs_9, se_length_10, sg_votes_11, sg_rows_12, sg_now_13, sg_forced_14, sg_barred_15, sg_mayActs_16, sg_mayEnds_17, sg_mays_18, x3_19, x4_20, x5_21 => (se_length_10 ≤ x5_21 → post ((-9 : Int32)) se_order_6 se_from_7 se_cameBy_8 se_runs_9 se_length_10 sg_votes_11 sg_rows_12 sg_now_13 sg_forced_14 sg_barred_15 sg_mayActs_16 sg_mayEnds_17 sg_mays_18) ∧ (¬ se_length_10 ≤ x5_21 → (((16384 : Int32)) ≤ x5_21 → post ((-9 : Int32)) se_order_6 se_from_7 se_cameBy_8 se_runs_9 se_length_10 sg_votes_11 sg_rows_12 sg_now_13 sg_forced_14 sg_barred_15 sg_mayActs_16 sg_mayEnds_17 sg_mays_18) ∧ (¬ ((16384 : Int32)) ≤ x5_21 → vp_in x5_21 16384 ∧ (wp_X1_isSo  x3_19 (se_order_6 x5_21.toNatClampNeg) (fun (r_24 : Int32) => (¬ r_24 = x4_20 → vp_in x5_21 16384 ∧ (wp_X3_spread se_order_6 se_from_7 se_cameBy_8 se_runs_9 se_length_10 sg_ownVotes sg_votes_11 sg_rows_12 sg_groups sg_bars sg_now_13 sg_forced_14 sg_barred_15 sg_mayActs_16 sg_mayEnds_17 sg_mays_18 lw_told lw_parts lw_hangMasks lw_hangValues (se_order_6 x5_21.toNatClampNeg) (fun (se_order_26 : Nat → Int32) (se_from_27 : Nat → Int32) (se_cameBy_28 : Nat → Int32) (se_length_29 : Int32) (sg_votes_30 : Nat → Int32) (sg_rows_31 : Nat → Int32) (sg_now_32 : Int32) (sg_forced_33 : Int32) (sg_barred_34 : Int32) (sg_mayActs_35 : Nat → Int32) (sg_mayEnds_36 : Nat → Int32) (sg_mays_37 : Int32) => ∀ x5_38 : Int32, x5_38 = x5_21 + (1 : Int32) → (wpL_X3_find_8 sg_ownVotes sg_groups sg_bars lw_told lw_parts lw_hangMasks lw_hangValues  post n) se_order_26 se_from_27 se_cameBy_28 se_runs_9 se_length_29 sg_votes_30 sg_rows_31 sg_now_32 sg_forced_33 sg_barred_34 sg_mayActs_35 sg_mayEnds_36 sg_mays_37 x3_19 x4_20 x5_38))) ∧ (r_24 = x4_20 → vp_in x5_21 16384 ∧ (post (se_order_6 x5_21.toNatClampNeg) se_order_6 se_from_7 se_cameBy_8 se_runs_9 se_length_10 sg_votes_11 sg_rows_12 sg_now_13 sg_forced_14 sg_barred_15 sg_mayActs_16 sg_mayEnds_17 sg_mays_18))))))
def wp_X3_find (se_order : Nat → Int32) (se_from : Nat → Int32) (se_cameBy : Nat → Int32) (se_runs : Int32) (se_length : Int32) (sg_ownVotes : Nat → Int32) (sg_votes : Nat → Int32) (sg_rows : Nat → Int32) (sg_groups : Int32) (sg_bars : Int32) (sg_now : Int32) (sg_forced : Int32) (sg_barred : Int32) (sg_mayActs : Nat → Int32) (sg_mayEnds : Nat → Int32) (sg_mays : Int32) (lw_told : Nat → Int32) (lw_parts : Nat → Int32) (lw_hangMasks : Nat → Int32) (lw_hangValues : Nat → Int32) (p0 : Int32) (p2 : Int32) (p3 : Int32) (post : Int32 → (Nat → Int32) → (Nat → Int32) → (Nat → Int32) → Int32 → Int32 → (Nat → Int32) → (Nat → Int32) → Int32 → Int32 → Int32 → (Nat → Int32) → (Nat → Int32) → Int32 → Prop) : Prop := wp_X3_startAt se_order se_from se_cameBy se_runs se_length p0 (fun (se_order_1 : Nat → Int32) (se_from_2 : Nat → Int32) (se_cameBy_3 : Nat → Int32) (se_runs_4 : Int32) (se_length_5 : Int32) => ∃ k8, wpL_X3_find_8 sg_ownVotes sg_groups sg_bars lw_told lw_parts lw_hangMasks lw_hangValues  post k8 se_order_1 se_from_2 se_cameBy_3 se_runs_4 se_length_5 sg_votes sg_rows sg_now sg_forced sg_barred sg_mayActs sg_mayEnds sg_mays p2 p3 ((0 : Int32)))
set_option maxHeartbeats 4000000 in
set_option maxRecDepth 100000 in
theorem c_X3_find (l : Launch) (D : va_G) (cI cZ : ClassId) (se : Nat → Nat) (sg : Nat → Nat) (lw : Nat → Nat) (se_order : Nat → Int32) (se_from : Nat → Int32) (se_marks : Nat → Int32) (se_cameBy : Nat → Int32) (se_runs : Int32) (se_length : Int32) (se_within : Nat → Int32) (sg_ownVotes : Nat → Int32) (sg_votes : Nat → Int32) (sg_rows : Nat → Int32) (sg_groups : Int32) (sg_bars : Int32) (sg_now : Int32) (sg_forced : Int32) (sg_barred : Int32) (sg_mayActs : Nat → Int32) (sg_mayEnds : Nat → Int32) (sg_mays : Int32) (lw_told : Nat → Int32) (lw_parts : Nat → Int32) (lw_hangMasks : Nat → Int32) (lw_hangValues : Nat → Int32) (lw_ownSeats : Nat → Int32) (p0 : Int32) (p2 : Int32) (p3 : Int32) (post : Int32 → (Nat → Int32) → (Nat → Int32) → (Nat → Int32) → Int32 → Int32 → (Nat → Int32) → (Nat → Int32) → Int32 → Int32 → Int32 → (Nat → Int32) → (Nat → Int32) → Int32 → Prop) (hm : wp_X3_find se_order se_from se_cameBy se_runs se_length sg_ownVotes sg_votes sg_rows sg_groups sg_bars sg_now sg_forced sg_barred sg_mayActs sg_mayEnds sg_mays lw_told lw_parts lw_hangMasks lw_hangValues p0 p2 p3 post) : Mi l D cI cZ yX3_find cX3_find 6 .int 5 119 [.ref (se 0), .int p0, .ref (sg 0), .int p2, .int p3] (W_se cI se se_order se_from se_marks se_cameBy se_runs se_length se_within ++ W_sg cI sg (lw 0) sg_ownVotes sg_votes sg_rows sg_groups sg_bars sg_now sg_forced sg_barred sg_mayActs sg_mayEnds sg_mays ++ W_lw cI lw lw_told lw_parts lw_hangMasks lw_hangValues lw_ownSeats) (S := (Nat → Int32) × (Nat → Int32) × (Nat → Int32) × Int32 × Int32 × (Nat → Int32) × (Nat → Int32) × Int32 × Int32 × Int32 × (Nat → Int32) × (Nat → Int32) × Int32) (fun u => W_se cI se (u.1) (u.2.1) se_marks (u.2.2.1) (u.2.2.2.1) (u.2.2.2.2.1) se_within ++ W_sg cI sg (lw 0) sg_ownVotes (u.2.2.2.2.2.1) (u.2.2.2.2.2.2.1) sg_groups sg_bars (u.2.2.2.2.2.2.2.1) (u.2.2.2.2.2.2.2.2.1) (u.2.2.2.2.2.2.2.2.2.1) (u.2.2.2.2.2.2.2.2.2.2.1) (u.2.2.2.2.2.2.2.2.2.2.2.1) (u.2.2.2.2.2.2.2.2.2.2.2.2) ++ W_lw cI lw lw_told lw_parts lw_hangMasks lw_hangValues lw_ownSeats) (fun r u => post r u.1 u.2.1 u.2.2.1 u.2.2.2.1 u.2.2.2.2.1 u.2.2.2.2.2.1 u.2.2.2.2.2.2.1 u.2.2.2.2.2.2.2.1 u.2.2.2.2.2.2.2.2.1 u.2.2.2.2.2.2.2.2.2.1 u.2.2.2.2.2.2.2.2.2.2.1 u.2.2.2.2.2.2.2.2.2.2.2.1 u.2.2.2.2.2.2.2.2.2.2.2.2) := by
  refine mk_Mi (by decide +kernel) (Nat.le_of_ble_eq_true rfl) ?_
  intro Γ hl0 hD0 hC hR
  subst hl0
  subst hD0
  have hC : CX Γ cI cZ cX3_find RX3 6 5 119 := hC
  show VV Γ (W_se cI se se_order se_from se_marks se_cameBy se_runs se_length se_within ++ W_sg cI sg (lw 0) sg_ownVotes sg_votes sg_rows sg_groups sg_bars sg_now sg_forced sg_barred sg_mayActs sg_mayEnds sg_mays ++ W_lw cI lw lw_told lw_parts lw_hangMasks lw_hangValues lw_ownSeats) [(0, .ref (se 0)), (1, .int p0), (2, .ref (sg 0)), (3, .int p2), (4, .int p3)] 0 []
  have B_8 : ∀ (n : Nat) (se_order_6 : Nat → Int32) (se_from_7 : Nat → Int32) (se_cameBy_8 : Nat → Int32) (se_runs_9 : Int32) (se_length_10 : Int32) (sg_votes_11 : Nat → Int32) (sg_rows_12 : Nat → Int32) (sg_now_13 : Int32) (sg_forced_14 : Int32) (sg_barred_15 : Int32) (sg_mayActs_16 : Nat → Int32) (sg_mayEnds_17 : Nat → Int32) (sg_mays_18 : Int32) (x3_19 : Int32) (x4_20 : Int32) (x5_21 : Int32), wpL_X3_find_8 sg_ownVotes sg_groups sg_bars lw_told lw_parts lw_hangMasks lw_hangValues  post n se_order_6 se_from_7 se_cameBy_8 se_runs_9 se_length_10 sg_votes_11 sg_rows_12 sg_now_13 sg_forced_14 sg_barred_15 sg_mayActs_16 sg_mayEnds_17 sg_mays_18 x3_19 x4_20 x5_21 → VV Γ (W_se cI se se_order_6 se_from_7 se_marks se_cameBy_8 se_runs_9 se_length_10 se_within ++ W_sg cI sg (lw 0) sg_ownVotes sg_votes_11 sg_rows_12 sg_groups sg_bars sg_now_13 sg_forced_14 sg_barred_15 sg_mayActs_16 sg_mayEnds_17 sg_mays_18 ++ W_lw cI lw lw_told lw_parts lw_hangMasks lw_hangValues lw_ownSeats) [(0, .ref (se 0)), (2, .ref (sg 0)), (3, .int x3_19), (4, .int x4_20), (5, .int x5_21)] 8 [] := by
    intro  n
    induction n with
    | zero => intro se_order_6 se_from_7 se_cameBy_8 se_runs_9 se_length_10 sg_votes_11 sg_rows_12 sg_now_13 sg_forced_14 sg_barred_15 sg_mayActs_16 sg_mayEnds_17 sg_mays_18 x3_19 x4_20 x5_21 hm; rw [wpL_X3_find_8] at hm; exact hm.elim
    | succ n ih =>
      intro se_order_6 se_from_7 se_cameBy_8 se_runs_9 se_length_10 sg_votes_11 sg_rows_12 sg_now_13 sg_forced_14 sg_barred_15 sg_mayActs_16 sg_mayEnds_17 sg_mays_18 x3_19 x4_20 x5_21 hm
      rw [wpL_X3_find_8] at hm
      refine x_iload hC 4 dX3_find_8 rfl ?_
      refine x_aload_n hC 0 dX3_find_10 rfl ?_
      refine x_get hC 1 inX3g 0 rfl rfl 5 (by decide) fl_X3_29 rfl dX3_find_11 ?_
      refine x_icmp_ge hC 67 dX3_find_14 (by decide) (fun c_22 => ?_) (fun c_22 => ?_)
      · replace hm := hm.1 c_22
        refine x_bipush hC (-9 : Int32) dX3_find_67 (by decide) ?_
        exact hR ((-9 : Int32)) (se_order_6, se_from_7, se_cameBy_8, se_runs_9, se_length_10, sg_votes_11, sg_rows_12, sg_now_13, sg_forced_14, sg_barred_15, sg_mayActs_16, sg_mayEnds_17, sg_mays_18) [(0, .ref (se 0)), (2, .ref (sg 0)), (3, .int x3_19), (4, .int x4_20), (5, .int x5_21)] 69 hm rfl dX3_find_69
      · replace hm := hm.2 c_22
        refine x_iload hC 4 dX3_find_17 rfl ?_
        refine x_sipush hC (16384 : Int32) dX3_find_19 (by decide) ?_
        refine x_icmp_ge hC 67 dX3_find_22 (by decide) (fun c_23 => ?_) (fun c_23 => ?_)
        · replace hm := hm.1 c_23
          refine x_bipush hC (-9 : Int32) dX3_find_67 (by decide) ?_
          exact hR ((-9 : Int32)) (se_order_6, se_from_7, se_cameBy_8, se_runs_9, se_length_10, sg_votes_11, sg_rows_12, sg_now_13, sg_forced_14, sg_barred_15, sg_mayActs_16, sg_mayEnds_17, sg_mays_18) [(0, .ref (se 0)), (2, .ref (sg 0)), (3, .int x3_19), (4, .int x4_20), (5, .int x5_21)] 69 hm rfl dX3_find_69
        · replace hm := hm.2 c_23
          refine x_iload_n hC 2 dX3_find_25 rfl ?_
          refine x_aload_n hC 0 dX3_find_26 rfl ?_
          refine x_get hC 1 inX3g 0 rfl rfl 0 (by decide) fl_X3_11 rfl dX3_find_27 ?_
          refine x_iload hC 4 dX3_find_30 rfl ?_
          refine x_iald hC 1 rfl hm.1 dX3_find_32 ?_
          replace hm := hm.2
          refine x_callSi hC _ [] [0, 1, 2, 3, 4, 5, 6, 7, 8, 9, 10, 11, 12, 13, 14, 15, 16, 17] [0, 1, 2, 3, 4, 5, 6, 7, 8, 9, 10, 11, 12, 13, 14, 15, 16, 17] (W_se cI se se_order_6 se_from_7 se_marks se_cameBy_8 se_runs_9 se_length_10 se_within ++ W_sg cI sg (lw 0) sg_ownVotes sg_votes_11 sg_rows_12 sg_groups sg_bars sg_now_13 sg_forced_14 sg_barred_15 sg_mayActs_16 sg_mayEnds_17 sg_mays_18 ++ W_lw cI lw lw_told lw_parts lw_hangMasks lw_hangValues lw_ownSeats) (fun _ => W_se cI se se_order_6 se_from_7 se_marks se_cameBy_8 se_runs_9 se_length_10 se_within ++ W_sg cI sg (lw 0) sg_ownVotes sg_votes_11 sg_rows_12 sg_groups sg_bars sg_now_13 sg_forced_14 sg_barred_15 sg_mayActs_16 sg_mayEnds_17 sg_mays_18 ++ W_lw cI lw lw_told lw_parts lw_hangMasks lw_hangValues lw_ownSeats) ok_X1_isSo ml_X3_41 (c_X1_isSo (gl Γ) (gD Γ) cI cZ   x3_19 (se_order_6 x5_21.toNatClampNeg) _ hm) (by decide) (by decide) rfl (Nat.le_of_ble_eq_true rfl) rfl rfl rfl rfl (by decide) rfl (fun _ => rfl) rfl dX3_find_33 ?_
          rintro r_24 _ hm
          refine x_iload hC 3 dX3_find_36 rfl ?_
          refine x_icmp_ne hC 49 dX3_find_38 (by decide) (fun c_25 => ?_) (fun c_25 => ?_)
          · replace hm := hm.1 c_25
            refine x_aload_n hC 0 dX3_find_49 rfl ?_
            refine x_aload_n hC 0 dX3_find_50 rfl ?_
            refine x_get hC 1 inX3g 0 rfl rfl 0 (by decide) fl_X3_11 rfl dX3_find_51 ?_
            refine x_iload hC 4 dX3_find_54 rfl ?_
            refine x_iald hC 1 rfl hm.1 dX3_find_56 ?_
            replace hm := hm.2
            refine x_aload_n hC 1 dX3_find_57 rfl ?_
            refine x_callVv hC _ [0, 1, 2, 3, 4, 5, 6, 7, 8, 9, 10, 11, 12, 13, 14, 15, 16, 17] [] [0, 1, 2, 3, 4, 5, 6, 7, 8, 9, 10, 11, 12, 13, 14, 15, 16, 17] (([] : va_W)) (fun u => W_se cI se (u.1) (u.2.1) se_marks (u.2.2.1) se_runs_9 (u.2.2.2.1) se_within ++ W_sg cI sg (lw 0) sg_ownVotes (u.2.2.2.2.1) (u.2.2.2.2.2.1) sg_groups sg_bars (u.2.2.2.2.2.2.1) (u.2.2.2.2.2.2.2.1) (u.2.2.2.2.2.2.2.2.1) (u.2.2.2.2.2.2.2.2.2.1) (u.2.2.2.2.2.2.2.2.2.2.1) (u.2.2.2.2.2.2.2.2.2.2.2) ++ W_lw cI lw lw_told lw_parts lw_hangMasks lw_hangValues lw_ownSeats) ok_X3_spread ml_X3_37 0 1 (c_X3_spread (gl Γ) (gD Γ) cI cZ se sg lw se_order_6 se_from_7 se_marks se_cameBy_8 se_runs_9 se_length_10 se_within sg_ownVotes sg_votes_11 sg_rows_12 sg_groups sg_bars sg_now_13 sg_forced_14 sg_barred_15 sg_mayActs_16 sg_mayEnds_17 sg_mays_18 lw_told lw_parts lw_hangMasks lw_hangValues lw_ownSeats (se_order_6 x5_21.toNatClampNeg) _ hm) (by decide) (by decide) rfl (Nat.le_of_ble_eq_true rfl) rfl rfl rfl rfl (by decide) rfl (fun _ => rfl) rfl rfl rfl rfl dX3_find_58 ?_
            rintro ⟨se_order_26, se_from_27, se_cameBy_28, se_length_29, sg_votes_30, sg_rows_31, sg_now_32, sg_forced_33, sg_barred_34, sg_mayActs_35, sg_mayEnds_36, sg_mays_37⟩ hm
            obtain ⟨x5_38, ex5_38⟩ : ∃ y : Int32, y = x5_21 + (1 : Int32) := ⟨_, rfl⟩
            replace hm := hm x5_38 ex5_38
            refine x_iinc hC 4 x5_38 [(0, .ref (se 0)), (2, .ref (sg 0)), (3, .int x3_19), (4, .int x4_20), (5, .int x5_38)] [1, 2, 3, 4, 0] dX3_find_61 rfl (by rw [ex5_38]; rfl) (by decide) rfl ?_
            refine x_goto hC 8 dX3_find_64 (by decide) ?_
            exact ih se_order_26 se_from_27 se_cameBy_28 se_runs_9 se_length_29 sg_votes_30 sg_rows_31 sg_now_32 sg_forced_33 sg_barred_34 sg_mayActs_35 sg_mayEnds_36 sg_mays_37 x3_19 x4_20 x5_38 hm
          · replace hm := hm.2 c_25
            refine x_aload_n hC 0 dX3_find_41 rfl ?_
            refine x_get hC 1 inX3g 0 rfl rfl 0 (by decide) fl_X3_11 rfl dX3_find_42 ?_
            refine x_iload hC 4 dX3_find_45 rfl ?_
            refine x_iald hC 1 rfl hm.1 dX3_find_47 ?_
            replace hm := hm.2
            exact hR (se_order_6 x5_21.toNatClampNeg) (se_order_6, se_from_7, se_cameBy_8, se_runs_9, se_length_10, sg_votes_11, sg_rows_12, sg_now_13, sg_forced_14, sg_barred_15, sg_mayActs_16, sg_mayEnds_17, sg_mays_18) [(0, .ref (se 0)), (2, .ref (sg 0)), (3, .int x3_19), (4, .int x4_20), (5, .int x5_21)] 48 hm rfl dX3_find_48
  unfold wp_X3_find at hm
  refine x_aload_n hC 0 dX3_find_0 rfl ?_
  refine x_iload_n hC 1 dX3_find_1 rfl ?_
  refine x_callVv hC _ [0, 1, 2, 3, 4, 5] [6, 7, 8, 9, 10, 11, 12, 13, 14, 15, 16, 17] [12, 13, 14, 15, 16, 17, 0, 1, 2, 3, 4, 5, 6, 7, 8, 9, 10, 11] (W_sg cI sg (lw 0) sg_ownVotes sg_votes sg_rows sg_groups sg_bars sg_now sg_forced sg_barred sg_mayActs sg_mayEnds sg_mays ++ W_lw cI lw lw_told lw_parts lw_hangMasks lw_hangValues lw_ownSeats) (fun u => W_se cI se (u.1) (u.2.1) se_marks (u.2.2.1) (u.2.2.2.1) (u.2.2.2.2) se_within ++ W_sg cI sg (lw 0) sg_ownVotes sg_votes sg_rows sg_groups sg_bars sg_now sg_forced sg_barred sg_mayActs sg_mayEnds sg_mays ++ W_lw cI lw lw_told lw_parts lw_hangMasks lw_hangValues lw_ownSeats) ok_X3_startAt ml_X3_33 0 1 (c_X3_startAt (gl Γ) (gD Γ) cI cZ se se_order se_from se_marks se_cameBy se_runs se_length se_within p0 _ hm) (by decide) (by decide) rfl (Nat.le_of_ble_eq_true rfl) rfl rfl rfl rfl (by decide) rfl (fun _ => rfl) rfl rfl rfl rfl dX3_find_2 ?_
  rintro ⟨se_order_1, se_from_2, se_cameBy_3, se_runs_4, se_length_5⟩ hm
  refine x_iconst hC (0 : Int32) dX3_find_5 (by decide) ?_
  refine x_istore hC [(0, .ref (se 0)), (1, .int p0), (2, .ref (sg 0)), (3, .int p2), (4, .int p3), (5, .int ((0 : Int32)))] [1, 2, 3, 4, 5, 0] dX3_find_6 (by decide) rfl ?_
  obtain ⟨n_39, hm⟩ := hm
  refine x_lsub [0, 2, 3, 4, 5] rfl ?_
  exact B_8  n_39 se_order_1 se_from_2 se_cameBy_3 se_runs_4 se_length_5 sg_votes sg_rows sg_now sg_forced sg_barred sg_mayActs sg_mayEnds sg_mays p2 p3 ((0 : Int32)) hm

def wpL_X3_firstUnmarked_2 (se_order : Nat → Int32) (se_marks : Nat → Int32) (se_length : Int32)  (post : Int32 → Prop) : Nat → Int32 → Prop
  | 0, _ => False
  | n + 1, x1_1 => (se_length ≤ x1_1 → post ((-9 : Int32)) ) ∧ (¬ se_length ≤ x1_1 → (((16384 : Int32)) ≤ x1_1 → post ((-9 : Int32)) ) ∧ (¬ ((16384 : Int32)) ≤ x1_1 → vp_in x1_1 16384 ∧ (wp_X3_isMarked se_marks (se_order x1_1.toNatClampNeg) ((0 : Int32)) (fun (r_4 : Int32) => (¬ r_4 = 0 → ∀ x1_6 : Int32, x1_6 = x1_1 + (1 : Int32) → (wpL_X3_firstUnmarked_2 se_order se_marks se_length  post n) x1_6) ∧ (r_4 = 0 → vp_in x1_1 16384 ∧ (post (se_order x1_1.toNatClampNeg) ))))))
def wp_X3_firstUnmarked (se_order : Nat → Int32) (se_marks : Nat → Int32) (se_length : Int32)  (post : Int32 → Prop) : Prop := ∃ k2, wpL_X3_firstUnmarked_2 se_order se_marks se_length  post k2 ((0 : Int32))
set_option maxHeartbeats 4000000 in
set_option maxRecDepth 100000 in
theorem c_X3_firstUnmarked (l : Launch) (D : va_G) (cI cZ : ClassId) (se : Nat → Nat) (se_order : Nat → Int32) (se_from : Nat → Int32) (se_marks : Nat → Int32) (se_cameBy : Nat → Int32) (se_runs : Int32) (se_length : Int32) (se_within : Nat → Int32)  (post : Int32 → Prop) (hm : wp_X3_firstUnmarked se_order se_marks se_length  post) : Mi l D cI cZ yX3_firstUnmarked cX3_firstUnmarked 2 .int 2 42 [.ref (se 0)] (W_se cI se se_order se_from se_marks se_cameBy se_runs se_length se_within) (S := Unit) (fun _ => W_se cI se se_order se_from se_marks se_cameBy se_runs se_length se_within) (fun r _ => post r ) := by
  refine mk_Mi (by decide +kernel) (Nat.le_of_ble_eq_true rfl) ?_
  intro Γ hl0 hD0 hC hR
  subst hl0
  subst hD0
  have hC : CX Γ cI cZ cX3_firstUnmarked RX3 2 2 42 := hC
  show VV Γ (W_se cI se se_order se_from se_marks se_cameBy se_runs se_length se_within) [(0, .ref (se 0))] 0 []
  have B_2 : ∀ (n : Nat) (x1_1 : Int32), wpL_X3_firstUnmarked_2 se_order se_marks se_length  post n x1_1 → VV Γ (W_se cI se se_order se_from se_marks se_cameBy se_runs se_length se_within) [(0, .ref (se 0)), (1, .int x1_1)] 2 [] := by
    intro  n
    induction n with
    | zero => intro x1_1 hm; rw [wpL_X3_firstUnmarked_2] at hm; exact hm.elim
    | succ n ih =>
      intro x1_1 hm
      rw [wpL_X3_firstUnmarked_2] at hm
      refine x_iload_n hC 1 dX3_firstUnmarked_2 rfl ?_
      refine x_aload_n hC 0 dX3_firstUnmarked_3 rfl ?_
      refine x_get hC 1 inX3g 0 rfl rfl 5 (by decide) fl_X3_29 rfl dX3_firstUnmarked_4 ?_
      refine x_icmp_ge hC 44 dX3_firstUnmarked_7 (by decide) (fun c_2 => ?_) (fun c_2 => ?_)
      · replace hm := hm.1 c_2
        refine x_bipush hC (-9 : Int32) dX3_firstUnmarked_44 (by decide) ?_
        exact hR ((-9 : Int32)) () [(0, .ref (se 0)), (1, .int x1_1)] 46 hm rfl dX3_firstUnmarked_46
      · replace hm := hm.2 c_2
        refine x_iload_n hC 1 dX3_firstUnmarked_10 rfl ?_
        refine x_sipush hC (16384 : Int32) dX3_firstUnmarked_11 (by decide) ?_
        refine x_icmp_ge hC 44 dX3_firstUnmarked_14 (by decide) (fun c_3 => ?_) (fun c_3 => ?_)
        · replace hm := hm.1 c_3
          refine x_bipush hC (-9 : Int32) dX3_firstUnmarked_44 (by decide) ?_
          exact hR ((-9 : Int32)) () [(0, .ref (se 0)), (1, .int x1_1)] 46 hm rfl dX3_firstUnmarked_46
        · replace hm := hm.2 c_3
          refine x_aload_n hC 0 dX3_firstUnmarked_17 rfl ?_
          refine x_aload_n hC 0 dX3_firstUnmarked_18 rfl ?_
          refine x_get hC 1 inX3g 0 rfl rfl 0 (by decide) fl_X3_11 rfl dX3_firstUnmarked_19 ?_
          refine x_iload_n hC 1 dX3_firstUnmarked_22 rfl ?_
          refine x_iald hC 1 rfl hm.1 dX3_firstUnmarked_23 ?_
          replace hm := hm.2
          refine x_iconst hC (0 : Int32) dX3_firstUnmarked_24 (by decide) ?_
          refine x_callVi hC _ [0, 1, 2, 3, 4, 5] [] [0, 1, 2, 3, 4, 5] (([] : va_W)) (fun _ => W_se cI se se_order se_from se_marks se_cameBy se_runs se_length se_within) ok_X3_isMarked ml_X3_82 0 1 (c_X3_isMarked (gl Γ) (gD Γ) cI cZ se se_order se_from se_marks se_cameBy se_runs se_length se_within (se_order x1_1.toNatClampNeg) ((0 : Int32)) _ hm) (by decide) (by decide) rfl (Nat.le_of_ble_eq_true rfl) rfl rfl rfl rfl (by decide) rfl (fun _ => rfl) rfl rfl rfl rfl dX3_firstUnmarked_25 ?_
          rintro r_4 _ hm
          refine x_if_ne hC 38 dX3_firstUnmarked_28 (by decide) (fun c_5 => ?_) (fun c_5 => ?_)
          · replace hm := hm.1 c_5
            obtain ⟨x1_6, ex1_6⟩ : ∃ y : Int32, y = x1_1 + (1 : Int32) := ⟨_, rfl⟩
            replace hm := hm x1_6 ex1_6
            refine x_iinc hC 1 x1_6 [(0, .ref (se 0)), (1, .int x1_6)] [1, 0] dX3_firstUnmarked_38 rfl (by rw [ex1_6]; rfl) (by decide) rfl ?_
            refine x_goto hC 2 dX3_firstUnmarked_41 (by decide) ?_
            exact ih x1_6 hm
          · replace hm := hm.2 c_5
            refine x_aload_n hC 0 dX3_firstUnmarked_31 rfl ?_
            refine x_get hC 1 inX3g 0 rfl rfl 0 (by decide) fl_X3_11 rfl dX3_firstUnmarked_32 ?_
            refine x_iload_n hC 1 dX3_firstUnmarked_35 rfl ?_
            refine x_iald hC 1 rfl hm.1 dX3_firstUnmarked_36 ?_
            replace hm := hm.2
            exact hR (se_order x1_1.toNatClampNeg) () [(0, .ref (se 0)), (1, .int x1_1)] 37 hm rfl dX3_firstUnmarked_37
  unfold wp_X3_firstUnmarked at hm
  refine x_iconst hC (0 : Int32) dX3_firstUnmarked_0 (by decide) ?_
  refine x_istore_n hC [(0, .ref (se 0)), (1, .int ((0 : Int32)))] [1, 0] dX3_firstUnmarked_1 (by decide) rfl ?_
  obtain ⟨n_7, hm⟩ := hm
  exact B_2  n_7 ((0 : Int32)) hm

def wpL_X3_howManyWith_4 (se_order : Nat → Int32) (se_length : Int32)  (post : Int32 → Prop) : Nat → Int32 → Int32 → Int32 → Prop
  | 0, _, _, _ => False
  | n + 1, x1_1, x2_2, x3_3 => (se_length ≤ x3_3 → post x2_2 ) ∧ (¬ se_length ≤ x3_3 → (((16384 : Int32)) ≤ x3_3 → post x2_2 ) ∧ (¬ ((16384 : Int32)) ≤ x3_3 → vp_in x3_3 16384 ∧ (wp_X1_isSo  x1_1 (se_order x3_3.toNatClampNeg) (fun (r_6 : Int32) => (r_6 = 0 → ∀ x2_8 : Int32, x2_8 = x2_2 + ((0 : Int32)) → ∀ x3_9 : Int32, x3_9 = x3_3 + (1 : Int32) → (wpL_X3_howManyWith_4 se_order se_length  post n) x1_1 x2_8 x3_9) ∧ (¬ r_6 = 0 → ∀ x2_10 : Int32, x2_10 = x2_2 + ((1 : Int32)) → ∀ x3_11 : Int32, x3_11 = x3_3 + (1 : Int32) → (wpL_X3_howManyWith_4 se_order se_length  post n) x1_1 x2_10 x3_11)))))
def wp_X3_howManyWith (se_order : Nat → Int32) (se_length : Int32) (p0 : Int32) (post : Int32 → Prop) : Prop := ∃ k4, wpL_X3_howManyWith_4 se_order se_length  post k4 p0 ((0 : Int32)) ((0 : Int32))
set_option maxHeartbeats 4000000 in
set_option maxRecDepth 100000 in
theorem c_X3_howManyWith (l : Launch) (D : va_G) (cI cZ : ClassId) (se : Nat → Nat) (se_order : Nat → Int32) (se_from : Nat → Int32) (se_marks : Nat → Int32) (se_cameBy : Nat → Int32) (se_runs : Int32) (se_length : Int32) (se_within : Nat → Int32) (p0 : Int32) (post : Int32 → Prop) (hm : wp_X3_howManyWith se_order se_length p0 post) : Mi l D cI cZ yX3_howManyWith cX3_howManyWith 4 .int 3 64 [.ref (se 0), .int p0] (W_se cI se se_order se_from se_marks se_cameBy se_runs se_length se_within) (S := Unit) (fun _ => W_se cI se se_order se_from se_marks se_cameBy se_runs se_length se_within) (fun r _ => post r ) := by
  refine mk_Mi (by decide +kernel) (Nat.le_of_ble_eq_true rfl) ?_
  intro Γ hl0 hD0 hC hR
  subst hl0
  subst hD0
  have hC : CX Γ cI cZ cX3_howManyWith RX3 4 3 64 := hC
  show VV Γ (W_se cI se se_order se_from se_marks se_cameBy se_runs se_length se_within) [(0, .ref (se 0)), (1, .int p0)] 0 []
  have B_4 : ∀ (n : Nat) (x1_1 : Int32) (x2_2 : Int32) (x3_3 : Int32), wpL_X3_howManyWith_4 se_order se_length  post n x1_1 x2_2 x3_3 → VV Γ (W_se cI se se_order se_from se_marks se_cameBy se_runs se_length se_within) [(0, .ref (se 0)), (1, .int x1_1), (2, .int x2_2), (3, .int x3_3)] 4 [] := by
    intro  n
    induction n with
    | zero => intro x1_1 x2_2 x3_3 hm; rw [wpL_X3_howManyWith_4] at hm; exact hm.elim
    | succ n ih =>
      intro x1_1 x2_2 x3_3 hm
      rw [wpL_X3_howManyWith_4] at hm
      refine x_iload_n hC 3 dX3_howManyWith_4 rfl ?_
      refine x_aload_n hC 0 dX3_howManyWith_5 rfl ?_
      refine x_get hC 1 inX3g 0 rfl rfl 5 (by decide) fl_X3_29 rfl dX3_howManyWith_6 ?_
      refine x_icmp_ge hC 46 dX3_howManyWith_9 (by decide) (fun c_4 => ?_) (fun c_4 => ?_)
      · replace hm := hm.1 c_4
        refine x_iload_n hC 2 dX3_howManyWith_46 rfl ?_
        exact hR x2_2 () [(0, .ref (se 0)), (1, .int x1_1), (2, .int x2_2), (3, .int x3_3)] 47 hm rfl dX3_howManyWith_47
      · replace hm := hm.2 c_4
        refine x_iload_n hC 3 dX3_howManyWith_12 rfl ?_
        refine x_sipush hC (16384 : Int32) dX3_howManyWith_13 (by decide) ?_
        refine x_icmp_ge hC 46 dX3_howManyWith_16 (by decide) (fun c_5 => ?_) (fun c_5 => ?_)
        · replace hm := hm.1 c_5
          refine x_iload_n hC 2 dX3_howManyWith_46 rfl ?_
          exact hR x2_2 () [(0, .ref (se 0)), (1, .int x1_1), (2, .int x2_2), (3, .int x3_3)] 47 hm rfl dX3_howManyWith_47
        · replace hm := hm.2 c_5
          refine x_iload_n hC 2 dX3_howManyWith_19 rfl ?_
          refine x_iload_n hC 1 dX3_howManyWith_20 rfl ?_
          refine x_aload_n hC 0 dX3_howManyWith_21 rfl ?_
          refine x_get hC 1 inX3g 0 rfl rfl 0 (by decide) fl_X3_11 rfl dX3_howManyWith_22 ?_
          refine x_iload_n hC 3 dX3_howManyWith_25 rfl ?_
          refine x_iald hC 1 rfl hm.1 dX3_howManyWith_26 ?_
          replace hm := hm.2
          refine x_callSi hC _ [] [0, 1, 2, 3, 4, 5] [0, 1, 2, 3, 4, 5] (W_se cI se se_order se_from se_marks se_cameBy se_runs se_length se_within) (fun _ => W_se cI se se_order se_from se_marks se_cameBy se_runs se_length se_within) ok_X1_isSo ml_X3_41 (c_X1_isSo (gl Γ) (gD Γ) cI cZ   x1_1 (se_order x3_3.toNatClampNeg) _ hm) (by decide) (by decide) rfl (Nat.le_of_ble_eq_true rfl) rfl rfl rfl rfl (by decide) rfl (fun _ => rfl) rfl dX3_howManyWith_27 ?_
          rintro r_6 _ hm
          refine x_if_eq hC 37 dX3_howManyWith_30 (by decide) (fun c_7 => ?_) (fun c_7 => ?_)
          · replace hm := hm.1 c_7
            refine x_iconst hC (0 : Int32) dX3_howManyWith_37 (by decide) ?_
            refine x_iadd hC dX3_howManyWith_38 ?_
            refine x_top (fun x2_8 ex2_8 => ?_)
            replace hm := hm x2_8 ex2_8
            refine x_istore_n hC [(0, .ref (se 0)), (1, .int x1_1), (2, .int x2_8), (3, .int x3_3)] [1, 2, 0, 3] dX3_howManyWith_39 (by decide) rfl ?_
            obtain ⟨x3_9, ex3_9⟩ : ∃ y : Int32, y = x3_3 + (1 : Int32) := ⟨_, rfl⟩
            replace hm := hm x3_9 ex3_9
            refine x_iinc hC 3 x3_9 [(0, .ref (se 0)), (1, .int x1_1), (2, .int x2_8), (3, .int x3_9)] [1, 2, 3, 0] dX3_howManyWith_40 rfl (by rw [ex3_9]; rfl) (by decide) rfl ?_
            refine x_goto hC 4 dX3_howManyWith_43 (by decide) ?_
            exact ih x1_1 x2_8 x3_9 hm
          · replace hm := hm.2 c_7
            refine x_iconst hC (1 : Int32) dX3_howManyWith_33 (by decide) ?_
            refine x_goto hC 38 dX3_howManyWith_34 (by decide) ?_
            refine x_iadd hC dX3_howManyWith_38 ?_
            refine x_top (fun x2_10 ex2_10 => ?_)
            replace hm := hm x2_10 ex2_10
            refine x_istore_n hC [(0, .ref (se 0)), (1, .int x1_1), (2, .int x2_10), (3, .int x3_3)] [1, 2, 0, 3] dX3_howManyWith_39 (by decide) rfl ?_
            obtain ⟨x3_11, ex3_11⟩ : ∃ y : Int32, y = x3_3 + (1 : Int32) := ⟨_, rfl⟩
            replace hm := hm x3_11 ex3_11
            refine x_iinc hC 3 x3_11 [(0, .ref (se 0)), (1, .int x1_1), (2, .int x2_10), (3, .int x3_11)] [1, 2, 3, 0] dX3_howManyWith_40 rfl (by rw [ex3_11]; rfl) (by decide) rfl ?_
            refine x_goto hC 4 dX3_howManyWith_43 (by decide) ?_
            exact ih x1_1 x2_10 x3_11 hm
  unfold wp_X3_howManyWith at hm
  refine x_iconst hC (0 : Int32) dX3_howManyWith_0 (by decide) ?_
  refine x_istore_n hC [(0, .ref (se 0)), (1, .int p0), (2, .int ((0 : Int32)))] [1, 2, 0] dX3_howManyWith_1 (by decide) rfl ?_
  refine x_iconst hC (0 : Int32) dX3_howManyWith_2 (by decide) ?_
  refine x_istore_n hC [(0, .ref (se 0)), (1, .int p0), (2, .int ((0 : Int32))), (3, .int ((0 : Int32)))] [1, 2, 3, 0] dX3_howManyWith_3 (by decide) rfl ?_
  obtain ⟨n_12, hm⟩ := hm
  exact B_4  n_12 p0 ((0 : Int32)) ((0 : Int32)) hm

def wp_X3_mark (se_marks : Nat → Int32) (p0 : Int32) (p1 : Int32) (post : (Nat → Int32) → Prop) : Prop := wp_X5_exists  p0 (fun (r_1 : Int32) => (r_1 = 0 → post se_marks) ∧ (¬ r_1 = 0 → vp_in p0 16384 ∧ (vp_in p0 16384 ∧ ∀ se_marks_3 : Nat → Int32, se_marks_3 = upd se_marks p0.toNatClampNeg ((se_marks p0.toNatClampNeg) ||| (((1 : Int32)) <<< (p1 &&& 31))) → post se_marks_3)))
set_option maxHeartbeats 4000000 in
set_option maxRecDepth 100000 in
theorem c_X3_mark (l : Launch) (D : va_G) (cI cZ : ClassId) (se : Nat → Nat) (se_order : Nat → Int32) (se_from : Nat → Int32) (se_marks : Nat → Int32) (se_cameBy : Nat → Int32) (se_runs : Int32) (se_length : Int32) (se_within : Nat → Int32) (p0 : Int32) (p1 : Int32) (post : (Nat → Int32) → Prop) (hm : wp_X3_mark se_marks p0 p1 post) : Mv l D cI cZ yX3_mark cX3_mark 3 1 20 [.ref (se 0), .int p0, .int p1] (W_se cI se se_order se_from se_marks se_cameBy se_runs se_length se_within) (S := (Nat → Int32)) (fun u => W_se cI se se_order se_from u se_cameBy se_runs se_length se_within) (fun u => post u) := by
  refine mk_Mv (by decide +kernel) (Nat.le_of_ble_eq_true rfl) ?_
  intro Γ hl0 hD0 hC hR
  subst hl0
  subst hD0
  have hC : CX Γ cI cZ cX3_mark RX3 3 1 20 := hC
  show VV Γ (W_se cI se se_order se_from se_marks se_cameBy se_runs se_length se_within) [(0, .ref (se 0)), (1, .int p0), (2, .int p1)] 0 []
  unfold wp_X3_mark at hm
  refine x_iload_n hC 1 dX3_mark_0 rfl ?_
  refine x_callSi hC _ [] [0, 1, 2, 3, 4, 5] [0, 1, 2, 3, 4, 5] (W_se cI se se_order se_from se_marks se_cameBy se_runs se_length se_within) (fun _ => W_se cI se se_order se_from se_marks se_cameBy se_runs se_length se_within) ok_X5_exists ml_X3_72 (c_X5_exists (gl Γ) (gD Γ) cI cZ   p0 _ hm) (by decide) (by decide) rfl (Nat.le_of_ble_eq_true rfl) rfl rfl rfl rfl (by decide) rfl (fun _ => rfl) rfl dX3_mark_1 ?_
  rintro r_1 _ hm
  refine x_if_eq hC 19 dX3_mark_4 (by decide) (fun c_2 => ?_) (fun c_2 => ?_)
  · replace hm := hm.1 c_2
    exact hR se_marks [(0, .ref (se 0)), (1, .int p0), (2, .int p1)] 19 hm dX3_mark_19
  · replace hm := hm.2 c_2
    refine x_aload_n hC 0 dX3_mark_7 rfl ?_
    refine x_get hC 1 inX3g 0 rfl rfl 2 (by decide) fl_X3_20 rfl dX3_mark_8 ?_
    refine x_iload_n hC 1 dX3_mark_11 rfl ?_
    refine x_dup2 hC dX3_mark_12 rfl rfl ?_
    refine x_iald hC 3 rfl hm.1 dX3_mark_13 ?_
    replace hm := hm.2
    refine x_iconst hC (1 : Int32) dX3_mark_14 (by decide) ?_
    refine x_iload_n hC 2 dX3_mark_15 rfl ?_
    refine x_ishl hC dX3_mark_16 ?_
    refine x_ior hC dX3_mark_17 ?_
    refine x_iastN hC 3 rfl hm.1 (fun se_marks_3 => W_se cI se se_order se_from se_marks_3 se_cameBy se_runs se_length se_within) (fun _ => rfl) dX3_mark_18 (fun se_marks_3 ese_marks_3 => ?_)
    replace hm := hm.2 se_marks_3 ese_marks_3
    exact hR se_marks_3 [(0, .ref (se 0)), (1, .int p0), (2, .int p1)] 19 hm dX3_mark_19

def wpL_X3_markAll_2 (se_order : Nat → Int32) (se_length : Int32)  (post : (Nat → Int32) → Prop) : Nat → (Nat → Int32) → Int32 → Int32 → Int32 → Prop
  | 0, _, _, _, _ => False
  | n + 1, se_marks_1, x1_2, x2_3, x3_4 => (se_length ≤ x3_4 → post se_marks_1) ∧ (¬ se_length ≤ x3_4 → (((16384 : Int32)) ≤ x3_4 → post se_marks_1) ∧ (¬ ((16384 : Int32)) ≤ x3_4 → vp_in x3_4 16384 ∧ (∀ x4_7 : Int32, x4_7 = se_order x3_4.toNatClampNeg → wp_X5_exists  x4_7 (fun (r_8 : Int32) => (r_8 = 0 → ∀ x3_10 : Int32, x3_10 = x3_4 + (1 : Int32) → (wpL_X3_markAll_2 se_order se_length  post n) se_marks_1 x1_2 x2_3 x3_10) ∧ (¬ r_8 = 0 → wp_X1_isSo  x1_2 x4_7 (fun (r_11 : Int32) => (¬ r_11 = x2_3 → vp_in x4_7 16384 ∧ ∀ se_marks_13 : Nat → Int32, se_marks_13 = upd se_marks_1 x4_7.toNatClampNeg ((0 : Int32)) → ∀ x3_14 : Int32, x3_14 = x3_4 + (1 : Int32) → (wpL_X3_markAll_2 se_order se_length  post n) se_marks_13 x1_2 x2_3 x3_14) ∧ (r_11 = x2_3 → vp_in x4_7 16384 ∧ ∀ se_marks_15 : Nat → Int32, se_marks_15 = upd se_marks_1 x4_7.toNatClampNeg ((1 : Int32)) → ∀ x3_16 : Int32, x3_16 = x3_4 + (1 : Int32) → (wpL_X3_markAll_2 se_order se_length  post n) se_marks_15 x1_2 x2_3 x3_16)))))))
def wp_X3_markAll (se_order : Nat → Int32) (se_marks : Nat → Int32) (se_length : Int32) (p0 : Int32) (p1 : Int32) (post : (Nat → Int32) → Prop) : Prop := ∃ k2, wpL_X3_markAll_2 se_order se_length  post k2 se_marks p0 p1 ((0 : Int32))
set_option maxHeartbeats 4000000 in
set_option maxRecDepth 100000 in
theorem c_X3_markAll (l : Launch) (D : va_G) (cI cZ : ClassId) (se : Nat → Nat) (se_order : Nat → Int32) (se_from : Nat → Int32) (se_marks : Nat → Int32) (se_cameBy : Nat → Int32) (se_runs : Int32) (se_length : Int32) (se_within : Nat → Int32) (p0 : Int32) (p1 : Int32) (post : (Nat → Int32) → Prop) (hm : wp_X3_markAll se_order se_marks se_length p0 p1 post) : Mv l D cI cZ yX3_markAll cX3_markAll 5 3 64 [.ref (se 0), .int p0, .int p1] (W_se cI se se_order se_from se_marks se_cameBy se_runs se_length se_within) (S := (Nat → Int32)) (fun u => W_se cI se se_order se_from u se_cameBy se_runs se_length se_within) (fun u => post u) := by
  refine mk_Mv (by decide +kernel) (Nat.le_of_ble_eq_true rfl) ?_
  intro Γ hl0 hD0 hC hR
  subst hl0
  subst hD0
  have hC : CX Γ cI cZ cX3_markAll RX3 5 3 64 := hC
  show VV Γ (W_se cI se se_order se_from se_marks se_cameBy se_runs se_length se_within) [(0, .ref (se 0)), (1, .int p0), (2, .int p1)] 0 []
  have B_2 : ∀ (n : Nat) (se_marks_1 : Nat → Int32) (x1_2 : Int32) (x2_3 : Int32) (x3_4 : Int32), wpL_X3_markAll_2 se_order se_length  post n se_marks_1 x1_2 x2_3 x3_4 → VV Γ (W_se cI se se_order se_from se_marks_1 se_cameBy se_runs se_length se_within) [(0, .ref (se 0)), (1, .int x1_2), (2, .int x2_3), (3, .int x3_4)] 2 [] := by
    intro  n
    induction n with
    | zero => intro se_marks_1 x1_2 x2_3 x3_4 hm; rw [wpL_X3_markAll_2] at hm; exact hm.elim
    | succ n ih =>
      intro se_marks_1 x1_2 x2_3 x3_4 hm
      rw [wpL_X3_markAll_2] at hm
      refine x_iload_n hC 3 dX3_markAll_2 rfl ?_
      refine x_aload_n hC 0 dX3_markAll_3 rfl ?_
      refine x_get hC 1 inX3g 0 rfl rfl 5 (by decide) fl_X3_29 rfl dX3_markAll_4 ?_
      refine x_icmp_ge hC 61 dX3_markAll_7 (by decide) (fun c_5 => ?_) (fun c_5 => ?_)
      · replace hm := hm.1 c_5
        exact hR se_marks_1 [(0, .ref (se 0)), (1, .int x1_2), (2, .int x2_3), (3, .int x3_4)] 61 hm dX3_markAll_61
      · replace hm := hm.2 c_5
        refine x_iload_n hC 3 dX3_markAll_10 rfl ?_
        refine x_sipush hC (16384 : Int32) dX3_markAll_11 (by decide) ?_
        refine x_icmp_ge hC 61 dX3_markAll_14 (by decide) (fun c_6 => ?_) (fun c_6 => ?_)
        · replace hm := hm.1 c_6
          exact hR se_marks_1 [(0, .ref (se 0)), (1, .int x1_2), (2, .int x2_3), (3, .int x3_4)] 61 hm dX3_markAll_61
        · replace hm := hm.2 c_6
          refine x_aload_n hC 0 dX3_markAll_17 rfl ?_
          refine x_get hC 1 inX3g 0 rfl rfl 0 (by decide) fl_X3_11 rfl dX3_markAll_18 ?_
          refine x_iload_n hC 3 dX3_markAll_21 rfl ?_
          refine x_iald hC 1 rfl hm.1 dX3_markAll_22 ?_
          replace hm := hm.2
          refine x_top (fun x4_7 ex4_7 => ?_)
          replace hm := hm x4_7 ex4_7
          refine x_istore hC [(0, .ref (se 0)), (1, .int x1_2), (2, .int x2_3), (3, .int x3_4), (4, .int x4_7)] [1, 2, 3, 4, 0] dX3_markAll_23 (by decide) rfl ?_
          refine x_iload hC 4 dX3_markAll_25 rfl ?_
          refine x_callSi hC _ [] [0, 1, 2, 3, 4, 5] [0, 1, 2, 3, 4, 5] (W_se cI se se_order se_from se_marks_1 se_cameBy se_runs se_length se_within) (fun _ => W_se cI se se_order se_from se_marks_1 se_cameBy se_runs se_length se_within) ok_X5_exists ml_X3_72 (c_X5_exists (gl Γ) (gD Γ) cI cZ   x4_7 _ hm) (by decide) (by decide) rfl (Nat.le_of_ble_eq_true rfl) rfl rfl rfl rfl (by decide) rfl (fun _ => rfl) rfl dX3_markAll_27 ?_
          rintro r_8 _ hm
          refine x_if_eq hC 55 dX3_markAll_30 (by decide) (fun c_9 => ?_) (fun c_9 => ?_)
          · replace hm := hm.1 c_9
            obtain ⟨x3_10, ex3_10⟩ : ∃ y : Int32, y = x3_4 + (1 : Int32) := ⟨_, rfl⟩
            replace hm := hm x3_10 ex3_10
            refine x_iinc hC 3 x3_10 [(0, .ref (se 0)), (1, .int x1_2), (2, .int x2_3), (3, .int x3_10), (4, .int x4_7)] [1, 2, 3, 0, 4] dX3_markAll_55 rfl (by rw [ex3_10]; rfl) (by decide) rfl ?_
            refine x_goto hC 2 dX3_markAll_58 (by decide) ?_
            refine x_lsub [0, 1, 2, 3] rfl ?_
            exact ih se_marks_1 x1_2 x2_3 x3_10 hm
          · replace hm := hm.2 c_9
            refine x_aload_n hC 0 dX3_markAll_33 rfl ?_
            refine x_get hC 1 inX3g 0 rfl rfl 2 (by decide) fl_X3_20 rfl dX3_markAll_34 ?_
            refine x_iload hC 4 dX3_markAll_37 rfl ?_
            refine x_iload_n hC 1 dX3_markAll_39 rfl ?_
            refine x_iload hC 4 dX3_markAll_40 rfl ?_
            refine x_callSi hC _ [] [0, 1, 2, 3, 4, 5] [0, 1, 2, 3, 4, 5] (W_se cI se se_order se_from se_marks_1 se_cameBy se_runs se_length se_within) (fun _ => W_se cI se se_order se_from se_marks_1 se_cameBy se_runs se_length se_within) ok_X1_isSo ml_X3_41 (c_X1_isSo (gl Γ) (gD Γ) cI cZ   x1_2 x4_7 _ hm) (by decide) (by decide) rfl (Nat.le_of_ble_eq_true rfl) rfl rfl rfl rfl (by decide) rfl (fun _ => rfl) rfl dX3_markAll_42 ?_
            rintro r_11 _ hm
            refine x_iload_n hC 2 dX3_markAll_45 rfl ?_
            refine x_icmp_ne hC 53 dX3_markAll_46 (by decide) (fun c_12 => ?_) (fun c_12 => ?_)
            · replace hm := hm.1 c_12
              refine x_iconst hC (0 : Int32) dX3_markAll_53 (by decide) ?_
              refine x_iastN hC 3 rfl hm.1 (fun se_marks_13 => W_se cI se se_order se_from se_marks_13 se_cameBy se_runs se_length se_within) (fun _ => rfl) dX3_markAll_54 (fun se_marks_13 ese_marks_13 => ?_)
              replace hm := hm.2 se_marks_13 ese_marks_13
              obtain ⟨x3_14, ex3_14⟩ : ∃ y : Int32, y = x3_4 + (1 : Int32) := ⟨_, rfl⟩
              replace hm := hm x3_14 ex3_14
              refine x_iinc hC 3 x3_14 [(0, .ref (se 0)), (1, .int x1_2), (2, .int x2_3), (3, .int x3_14), (4, .int x4_7)] [1, 2, 3, 0, 4] dX3_markAll_55 rfl (by rw [ex3_14]; rfl) (by decide) rfl ?_
              refine x_goto hC 2 dX3_markAll_58 (by decide) ?_
              refine x_lsub [0, 1, 2, 3] rfl ?_
              exact ih se_marks_13 x1_2 x2_3 x3_14 hm
            · replace hm := hm.2 c_12
              refine x_iconst hC (1 : Int32) dX3_markAll_49 (by decide) ?_
              refine x_goto hC 54 dX3_markAll_50 (by decide) ?_
              refine x_iastN hC 3 rfl hm.1 (fun se_marks_15 => W_se cI se se_order se_from se_marks_15 se_cameBy se_runs se_length se_within) (fun _ => rfl) dX3_markAll_54 (fun se_marks_15 ese_marks_15 => ?_)
              replace hm := hm.2 se_marks_15 ese_marks_15
              obtain ⟨x3_16, ex3_16⟩ : ∃ y : Int32, y = x3_4 + (1 : Int32) := ⟨_, rfl⟩
              replace hm := hm x3_16 ex3_16
              refine x_iinc hC 3 x3_16 [(0, .ref (se 0)), (1, .int x1_2), (2, .int x2_3), (3, .int x3_16), (4, .int x4_7)] [1, 2, 3, 0, 4] dX3_markAll_55 rfl (by rw [ex3_16]; rfl) (by decide) rfl ?_
              refine x_goto hC 2 dX3_markAll_58 (by decide) ?_
              refine x_lsub [0, 1, 2, 3] rfl ?_
              exact ih se_marks_15 x1_2 x2_3 x3_16 hm
  unfold wp_X3_markAll at hm
  refine x_iconst hC (0 : Int32) dX3_markAll_0 (by decide) ?_
  refine x_istore_n hC [(0, .ref (se 0)), (1, .int p0), (2, .int p1), (3, .int ((0 : Int32)))] [1, 2, 3, 0] dX3_markAll_1 (by decide) rfl ?_
  obtain ⟨n_17, hm⟩ := hm
  exact B_2  n_17 se_marks p0 p1 ((0 : Int32)) hm

def wp_X3_markIfItEscapes (se_marks : Nat → Int32) (sg_ownVotes : Nat → Int32) (sg_votes : Nat → Int32) (sg_rows : Nat → Int32) (sg_groups : Int32) (sg_bars : Int32) (sg_now : Int32) (sg_forced : Int32) (sg_barred : Int32) (sg_mayActs : Nat → Int32) (sg_mayEnds : Nat → Int32) (sg_mays : Int32) (lw_told : Nat → Int32) (lw_parts : Nat → Int32) (lw_hangMasks : Nat → Int32) (lw_hangValues : Nat → Int32) (p0 : Int32) (post : Int32 → (Nat → Int32) → (Nat → Int32) → (Nat → Int32) → Int32 → Int32 → Int32 → (Nat → Int32) → (Nat → Int32) → Int32 → Prop) : Prop := wp_X3_isMarked se_marks p0 ((0 : Int32)) (fun (r_1 : Int32) => (r_1 = 0 → wp_X4_list sg_ownVotes sg_votes sg_rows sg_groups sg_bars sg_now sg_forced sg_barred sg_mayActs sg_mayEnds sg_mays lw_told lw_parts lw_hangMasks lw_hangValues p0 (fun (sg_votes_3 : Nat → Int32) (sg_rows_4 : Nat → Int32) (sg_now_5 : Int32) (sg_forced_6 : Int32) (sg_barred_7 : Int32) (sg_mayActs_8 : Nat → Int32) (sg_mayEnds_9 : Nat → Int32) (sg_mays_10 : Int32) => wp_X3_firstActTo se_marks sg_now_5 sg_mayActs_8 sg_mayEnds_9 sg_mays_10 ((0 : Int32)) ((1 : Int32)) (fun (r_11 : Int32) => (¬ r_11 = ((-9 : Int32)) → wp_X3_mark se_marks p0 ((0 : Int32)) (fun (se_marks_13 : Nat → Int32) => post ((1 : Int32)) se_marks_13 sg_votes_3 sg_rows_4 sg_now_5 sg_forced_6 sg_barred_7 sg_mayActs_8 sg_mayEnds_9 sg_mays_10)) ∧ (r_11 = ((-9 : Int32)) → post ((0 : Int32)) se_marks sg_votes_3 sg_rows_4 sg_now_5 sg_forced_6 sg_barred_7 sg_mayActs_8 sg_mayEnds_9 sg_mays_10)))) ∧ (¬ r_1 = 0 → post ((0 : Int32)) se_marks sg_votes sg_rows sg_now sg_forced sg_barred sg_mayActs sg_mayEnds sg_mays))
set_option maxHeartbeats 4000000 in
set_option maxRecDepth 100000 in
theorem c_X3_markIfItEscapes (l : Launch) (D : va_G) (cI cZ : ClassId) (se : Nat → Nat) (sg : Nat → Nat) (lw : Nat → Nat) (se_order : Nat → Int32) (se_from : Nat → Int32) (se_marks : Nat → Int32) (se_cameBy : Nat → Int32) (se_runs : Int32) (se_length : Int32) (se_within : Nat → Int32) (sg_ownVotes : Nat → Int32) (sg_votes : Nat → Int32) (sg_rows : Nat → Int32) (sg_groups : Int32) (sg_bars : Int32) (sg_now : Int32) (sg_forced : Int32) (sg_barred : Int32) (sg_mayActs : Nat → Int32) (sg_mayEnds : Nat → Int32) (sg_mays : Int32) (lw_told : Nat → Int32) (lw_parts : Nat → Int32) (lw_hangMasks : Nat → Int32) (lw_hangValues : Nat → Int32) (lw_ownSeats : Nat → Int32) (p0 : Int32) (post : Int32 → (Nat → Int32) → (Nat → Int32) → (Nat → Int32) → Int32 → Int32 → Int32 → (Nat → Int32) → (Nat → Int32) → Int32 → Prop) (hm : wp_X3_markIfItEscapes se_marks sg_ownVotes sg_votes sg_rows sg_groups sg_bars sg_now sg_forced sg_barred sg_mayActs sg_mayEnds sg_mays lw_told lw_parts lw_hangMasks lw_hangValues p0 post) : Mi l D cI cZ yX3_markIfItEscapes cX3_markIfItEscapes 3 .boolean 4 96 [.ref (se 0), .int p0, .ref (sg 0)] (W_se cI se se_order se_from se_marks se_cameBy se_runs se_length se_within ++ W_sg cI sg (lw 0) sg_ownVotes sg_votes sg_rows sg_groups sg_bars sg_now sg_forced sg_barred sg_mayActs sg_mayEnds sg_mays ++ W_lw cI lw lw_told lw_parts lw_hangMasks lw_hangValues lw_ownSeats) (S := (Nat → Int32) × (Nat → Int32) × (Nat → Int32) × Int32 × Int32 × Int32 × (Nat → Int32) × (Nat → Int32) × Int32) (fun u => W_se cI se se_order se_from (u.1) se_cameBy se_runs se_length se_within ++ W_sg cI sg (lw 0) sg_ownVotes (u.2.1) (u.2.2.1) sg_groups sg_bars (u.2.2.2.1) (u.2.2.2.2.1) (u.2.2.2.2.2.1) (u.2.2.2.2.2.2.1) (u.2.2.2.2.2.2.2.1) (u.2.2.2.2.2.2.2.2) ++ W_lw cI lw lw_told lw_parts lw_hangMasks lw_hangValues lw_ownSeats) (fun r u => post r u.1 u.2.1 u.2.2.1 u.2.2.2.1 u.2.2.2.2.1 u.2.2.2.2.2.1 u.2.2.2.2.2.2.1 u.2.2.2.2.2.2.2.1 u.2.2.2.2.2.2.2.2) := by
  refine mk_Mi (by decide +kernel) (Nat.le_of_ble_eq_true rfl) ?_
  intro Γ hl0 hD0 hC hR
  subst hl0
  subst hD0
  have hC : CX Γ cI cZ cX3_markIfItEscapes RX3 3 4 96 := hC
  show VV Γ (W_se cI se se_order se_from se_marks se_cameBy se_runs se_length se_within ++ W_sg cI sg (lw 0) sg_ownVotes sg_votes sg_rows sg_groups sg_bars sg_now sg_forced sg_barred sg_mayActs sg_mayEnds sg_mays ++ W_lw cI lw lw_told lw_parts lw_hangMasks lw_hangValues lw_ownSeats) [(0, .ref (se 0)), (1, .int p0), (2, .ref (sg 0))] 0 []
  unfold wp_X3_markIfItEscapes at hm
  refine x_aload_n hC 0 dX3_markIfItEscapes_0 rfl ?_
  refine x_iload_n hC 1 dX3_markIfItEscapes_1 rfl ?_
  refine x_iconst hC (0 : Int32) dX3_markIfItEscapes_2 (by decide) ?_
  refine x_callVi hC _ [0, 1, 2, 3, 4, 5] [6, 7, 8, 9, 10, 11, 12, 13, 14, 15, 16, 17] [12, 13, 14, 15, 16, 17, 0, 1, 2, 3, 4, 5, 6, 7, 8, 9, 10, 11] (W_sg cI sg (lw 0) sg_ownVotes sg_votes sg_rows sg_groups sg_bars sg_now sg_forced sg_barred sg_mayActs sg_mayEnds sg_mays ++ W_lw cI lw lw_told lw_parts lw_hangMasks lw_hangValues lw_ownSeats) (fun _ => W_se cI se se_order se_from se_marks se_cameBy se_runs se_length se_within ++ W_sg cI sg (lw 0) sg_ownVotes sg_votes sg_rows sg_groups sg_bars sg_now sg_forced sg_barred sg_mayActs sg_mayEnds sg_mays ++ W_lw cI lw lw_told lw_parts lw_hangMasks lw_hangValues lw_ownSeats) ok_X3_isMarked ml_X3_82 0 1 (c_X3_isMarked (gl Γ) (gD Γ) cI cZ se se_order se_from se_marks se_cameBy se_runs se_length se_within p0 ((0 : Int32)) _ hm) (by decide) (by decide) rfl (Nat.le_of_ble_eq_true rfl) rfl rfl rfl rfl (by decide) rfl (fun _ => rfl) rfl rfl rfl rfl dX3_markIfItEscapes_3 ?_
  rintro r_1 _ hm
  refine x_if_eq hC 11 dX3_markIfItEscapes_6 (by decide) (fun c_2 => ?_) (fun c_2 => ?_)
  · replace hm := hm.1 c_2
    refine x_aload_n hC 2 dX3_markIfItEscapes_11 rfl ?_
    refine x_iload_n hC 1 dX3_markIfItEscapes_12 rfl ?_
    refine x_callVv hC _ [6, 7, 8, 9, 10, 11, 12, 13, 14, 15, 16, 17] [0, 1, 2, 3, 4, 5] [0, 1, 2, 3, 4, 5, 6, 7, 8, 9, 10, 11, 12, 13, 14, 15, 16, 17] (W_se cI se se_order se_from se_marks se_cameBy se_runs se_length se_within) (fun u => W_se cI se se_order se_from se_marks se_cameBy se_runs se_length se_within ++ W_sg cI sg (lw 0) sg_ownVotes (u.1) (u.2.1) sg_groups sg_bars (u.2.2.1) (u.2.2.2.1) (u.2.2.2.2.1) (u.2.2.2.2.2.1) (u.2.2.2.2.2.2.1) (u.2.2.2.2.2.2.2) ++ W_lw cI lw lw_told lw_parts lw_hangMasks lw_hangValues lw_ownSeats) ok_X4_list ml_X3_54 0 2 (c_X4_list (gl Γ) (gD Γ) cI cZ sg lw sg_ownVotes sg_votes sg_rows sg_groups sg_bars sg_now sg_forced sg_barred sg_mayActs sg_mayEnds sg_mays lw_told lw_parts lw_hangMasks lw_hangValues lw_ownSeats p0 _ hm) (by decide) (by decide) rfl (Nat.le_of_ble_eq_true rfl) rfl rfl rfl rfl (by decide) rfl (fun _ => rfl) rfl rfl rfl rfl dX3_markIfItEscapes_13 ?_
    rintro ⟨sg_votes_3, sg_rows_4, sg_now_5, sg_forced_6, sg_barred_7, sg_mayActs_8, sg_mayEnds_9, sg_mays_10⟩ hm
    refine x_aload_n hC 0 dX3_markIfItEscapes_16 rfl ?_
    refine x_aload_n hC 2 dX3_markIfItEscapes_17 rfl ?_
    refine x_iconst hC (0 : Int32) dX3_markIfItEscapes_18 (by decide) ?_
    refine x_iconst hC (1 : Int32) dX3_markIfItEscapes_19 (by decide) ?_
    refine x_callVi hC _ [0, 1, 2, 3, 4, 5, 6, 7, 8, 9, 10, 11, 12, 13, 14, 15, 16, 17] [] [0, 1, 2, 3, 4, 5, 6, 7, 8, 9, 10, 11, 12, 13, 14, 15, 16, 17] (([] : va_W)) (fun _ => W_se cI se se_order se_from se_marks se_cameBy se_runs se_length se_within ++ W_sg cI sg (lw 0) sg_ownVotes sg_votes_3 sg_rows_4 sg_groups sg_bars sg_now_5 sg_forced_6 sg_barred_7 sg_mayActs_8 sg_mayEnds_9 sg_mays_10 ++ W_lw cI lw lw_told lw_parts lw_hangMasks lw_hangValues lw_ownSeats) ok_X3_firstActTo ml_X3_93 0 1 (c_X3_firstActTo (gl Γ) (gD Γ) cI cZ se sg lw se_order se_from se_marks se_cameBy se_runs se_length se_within sg_ownVotes sg_votes_3 sg_rows_4 sg_groups sg_bars sg_now_5 sg_forced_6 sg_barred_7 sg_mayActs_8 sg_mayEnds_9 sg_mays_10 lw_told lw_parts lw_hangMasks lw_hangValues lw_ownSeats ((0 : Int32)) ((1 : Int32)) _ hm) (by decide) (by decide) rfl (Nat.le_of_ble_eq_true rfl) rfl rfl rfl rfl (by decide) rfl (fun _ => rfl) rfl rfl rfl rfl dX3_markIfItEscapes_20 ?_
    rintro r_11 _ hm
    refine x_bipush hC (-9 : Int32) dX3_markIfItEscapes_23 (by decide) ?_
    refine x_icmp_ne hC 30 dX3_markIfItEscapes_25 (by decide) (fun c_12 => ?_) (fun c_12 => ?_)
    · replace hm := hm.1 c_12
      refine x_aload_n hC 0 dX3_markIfItEscapes_30 rfl ?_
      refine x_iload_n hC 1 dX3_markIfItEscapes_31 rfl ?_
      refine x_iconst hC (0 : Int32) dX3_markIfItEscapes_32 (by decide) ?_
      refine x_callVv hC _ [0, 1, 2, 3, 4, 5] [6, 7, 8, 9, 10, 11, 12, 13, 14, 15, 16, 17] [12, 13, 14, 15, 16, 17, 0, 1, 2, 3, 4, 5, 6, 7, 8, 9, 10, 11] (W_sg cI sg (lw 0) sg_ownVotes sg_votes_3 sg_rows_4 sg_groups sg_bars sg_now_5 sg_forced_6 sg_barred_7 sg_mayActs_8 sg_mayEnds_9 sg_mays_10 ++ W_lw cI lw lw_told lw_parts lw_hangMasks lw_hangValues lw_ownSeats) (fun u => W_se cI se se_order se_from u se_cameBy se_runs se_length se_within ++ W_sg cI sg (lw 0) sg_ownVotes sg_votes_3 sg_rows_4 sg_groups sg_bars sg_now_5 sg_forced_6 sg_barred_7 sg_mayActs_8 sg_mayEnds_9 sg_mays_10 ++ W_lw cI lw lw_told lw_parts lw_hangMasks lw_hangValues lw_ownSeats) ok_X3_mark ml_X3_97 0 1 (c_X3_mark (gl Γ) (gD Γ) cI cZ se se_order se_from se_marks se_cameBy se_runs se_length se_within p0 ((0 : Int32)) _ hm) (by decide) (by decide) rfl (Nat.le_of_ble_eq_true rfl) rfl rfl rfl rfl (by decide) rfl (fun _ => rfl) rfl rfl rfl rfl dX3_markIfItEscapes_33 ?_
      rintro se_marks_13 hm
      refine x_iconst hC (1 : Int32) dX3_markIfItEscapes_36 (by decide) ?_
      exact hR ((1 : Int32)) (se_marks_13, sg_votes_3, sg_rows_4, sg_now_5, sg_forced_6, sg_barred_7, sg_mayActs_8, sg_mayEnds_9, sg_mays_10) [(0, .ref (se 0)), (1, .int p0), (2, .ref (sg 0))] 37 hm rfl dX3_markIfItEscapes_37
    · replace hm := hm.2 c_12
      refine x_iconst hC (0 : Int32) dX3_markIfItEscapes_28 (by decide) ?_
      exact hR ((0 : Int32)) (se_marks, sg_votes_3, sg_rows_4, sg_now_5, sg_forced_6, sg_barred_7, sg_mayActs_8, sg_mayEnds_9, sg_mays_10) [(0, .ref (se 0)), (1, .int p0), (2, .ref (sg 0))] 29 hm rfl dX3_markIfItEscapes_29
  · replace hm := hm.2 c_2
    refine x_iconst hC (0 : Int32) dX3_markIfItEscapes_9 (by decide) ?_
    exact hR ((0 : Int32)) (se_marks, sg_votes, sg_rows, sg_now, sg_forced, sg_barred, sg_mayActs, sg_mayEnds, sg_mays) [(0, .ref (se 0)), (1, .int p0), (2, .ref (sg 0))] 10 hm rfl dX3_markIfItEscapes_10

def wpL_X3_markEscapes_33 (se_order : Nat → Int32) (se_length : Int32) (sg_ownVotes : Nat → Int32) (sg_groups : Int32) (sg_bars : Int32) (lw_told : Nat → Int32) (lw_parts : Nat → Int32) (lw_hangMasks : Nat → Int32) (lw_hangValues : Nat → Int32) (K_11 : (Nat → Int32) → (Nat → Int32) → (Nat → Int32) → Int32 → Int32 → Int32 → (Nat → Int32) → (Nat → Int32) → Int32 → Int32 → Int32 → Prop) (post : (Nat → Int32) → (Nat → Int32) → (Nat → Int32) → Int32 → Int32 → Int32 → (Nat → Int32) → (Nat → Int32) → Int32 → Prop) : Nat → (Nat → Int32) → (Nat → Int32) → (Nat → Int32) → Int32 → Int32 → Int32 → (Nat → Int32) → (Nat → Int32) → Int32 → Int32 → Int32 → Int32 → Prop
  | 0, _, _, _, _, _, _, _, _, _, _, _, _ => False
  | n + 1, se_marks_16, sg_votes_17, sg_rows_18, sg_now_19, sg_forced_20, sg_barred_21, sg_mayActs_22, sg_mayEnds_23, sg_mays_24, x3_25, x4_26, x5_27 => (x5_27 < 0 → ∀ x4_29 : Int32, x4_29 = x4_26 + (1 : Int32) → K_11 se_marks_16 sg_votes_17 sg_rows_18 sg_now_19 sg_forced_20 sg_barred_21 sg_mayActs_22 sg_mayEnds_23 sg_mays_24 x3_25 x4_29) ∧ (¬ x5_27 < 0 → (((16384 : Int32)) ≤ x5_27 → ∀ x4_31 : Int32, x4_31 = x4_26 + (1 : Int32) → K_11 se_marks_16 sg_votes_17 sg_rows_18 sg_now_19 sg_forced_20 sg_barred_21 sg_mayActs_22 sg_mayEnds_23 sg_mays_24 x3_25 x4_31) ∧ (¬ ((16384 : Int32)) ≤ x5_27 → vp_in x5_27 16384 ∧ (wp_X3_markIfItEscapes se_marks_16 sg_ownVotes sg_votes_17 sg_rows_18 sg_groups sg_bars sg_now_19 sg_forced_20 sg_barred_21 sg_mayActs_22 sg_mayEnds_23 sg_mays_24 lw_told lw_parts lw_hangMasks lw_hangValues (se_order x5_27.toNatClampNeg) (fun (r_41 : Int32) (se_marks_32 : Nat → Int32) (sg_votes_33 : Nat → Int32) (sg_rows_34 : Nat → Int32) (sg_now_35 : Int32) (sg_forced_36 : Int32) (sg_barred_37 : Int32) (sg_mayActs_38 : Nat → Int32) (sg_mayEnds_39 : Nat → Int32) (sg_mays_40 : Int32) => ∀ x3_42 : Int32, x3_42 = x3_25 ||| r_41 → ∀ x5_43 : Int32, x5_43 = x5_27 + (-1 : Int32) → (wpL_X3_markEscapes_33 se_order se_length sg_ownVotes sg_groups sg_bars lw_told lw_parts lw_hangMasks lw_hangValues K_11 post n) se_marks_32 sg_votes_33 sg_rows_34 sg_now_35 sg_forced_36 sg_barred_37 sg_mayActs_38 sg_mayEnds_39 sg_mays_40 x3_42 x4_26 x5_43))))
def wpL_X3_markEscapes_11 (se_order : Nat → Int32) (se_length : Int32) (sg_ownVotes : Nat → Int32) (sg_groups : Int32) (sg_bars : Int32) (lw_told : Nat → Int32) (lw_parts : Nat → Int32) (lw_hangMasks : Nat → Int32) (lw_hangValues : Nat → Int32)  (post : (Nat → Int32) → (Nat → Int32) → (Nat → Int32) → Int32 → Int32 → Int32 → (Nat → Int32) → (Nat → Int32) → Int32 → Prop) : Nat → (Nat → Int32) → (Nat → Int32) → (Nat → Int32) → Int32 → Int32 → Int32 → (Nat → Int32) → (Nat → Int32) → Int32 → Int32 → Int32 → Prop
  | 0, _, _, _, _, _, _, _, _, _, _, _ => False
  | n + 1, se_marks_2, sg_votes_3, sg_rows_4, sg_now_5, sg_forced_6, sg_barred_7, sg_mayActs_8, sg_mayEnds_9, sg_mays_10, x3_11, x4_12 => (x3_11 = 0 → post se_marks_2 sg_votes_3 sg_rows_4 sg_now_5 sg_forced_6 sg_barred_7 sg_mayActs_8 sg_mayEnds_9 sg_mays_10) ∧ (¬ x3_11 = 0 → (((16384 : Int32)) ≤ x4_12 → post se_marks_2 sg_votes_3 sg_rows_4 sg_now_5 sg_forced_6 sg_barred_7 sg_mayActs_8 sg_mayEnds_9 sg_mays_10) ∧ (¬ ((16384 : Int32)) ≤ x4_12 → ∀ x5_15 : Int32, x5_15 = se_length - ((1 : Int32)) → ∃ k33, wpL_X3_markEscapes_33 se_order se_length sg_ownVotes sg_groups sg_bars lw_told lw_parts lw_hangMasks lw_hangValues (fun y0 y1 y2 y3 y4 y5 y6 y7 y8 y9 y10 => wpL_X3_markEscapes_11 se_order se_length sg_ownVotes sg_groups sg_bars lw_told lw_parts lw_hangMasks lw_hangValues  post n y0 y1 y2 y3 y4 y5 y6 y7 y8 y9 y10) post k33 se_marks_2 sg_votes_3 sg_rows_4 sg_now_5 sg_forced_6 sg_barred_7 sg_mayActs_8 sg_mayEnds_9 sg_mays_10 ((0 : Int32)) x4_12 x5_15))
def wp_X3_markEscapes (se_order : Nat → Int32) (se_marks : Nat → Int32) (se_length : Int32) (sg_ownVotes : Nat → Int32) (sg_votes : Nat → Int32) (sg_rows : Nat → Int32) (sg_groups : Int32) (sg_bars : Int32) (sg_now : Int32) (sg_forced : Int32) (sg_barred : Int32) (sg_mayActs : Nat → Int32) (sg_mayEnds : Nat → Int32) (sg_mays : Int32) (lw_told : Nat → Int32) (lw_parts : Nat → Int32) (lw_hangMasks : Nat → Int32) (lw_hangValues : Nat → Int32) (p0 : Int32) (post : (Nat → Int32) → (Nat → Int32) → (Nat → Int32) → Int32 → Int32 → Int32 → (Nat → Int32) → (Nat → Int32) → Int32 → Prop) : Prop := wp_X3_markAll se_order se_marks se_length p0 ((0 : Int32)) (fun (se_marks_1 : Nat → Int32) => ∃ k11, wpL_X3_markEscapes_11 se_order se_length sg_ownVotes sg_groups sg_bars lw_told lw_parts lw_hangMasks lw_hangValues  post k11 se_marks_1 sg_votes sg_rows sg_now sg_forced sg_barred sg_mayActs sg_mayEnds sg_mays ((1 : Int32)) ((0 : Int32)))
set_option maxHeartbeats 4000000 in
set_option maxRecDepth 100000 in
theorem c_X3_markEscapes (l : Launch) (D : va_G) (cI cZ : ClassId) (se : Nat → Nat) (sg : Nat → Nat) (lw : Nat → Nat) (se_order : Nat → Int32) (se_from : Nat → Int32) (se_marks : Nat → Int32) (se_cameBy : Nat → Int32) (se_runs : Int32) (se_length : Int32) (se_within : Nat → Int32) (sg_ownVotes : Nat → Int32) (sg_votes : Nat → Int32) (sg_rows : Nat → Int32) (sg_groups : Int32) (sg_bars : Int32) (sg_now : Int32) (sg_forced : Int32) (sg_barred : Int32) (sg_mayActs : Nat → Int32) (sg_mayEnds : Nat → Int32) (sg_mays : Int32) (lw_told : Nat → Int32) (lw_parts : Nat → Int32) (lw_hangMasks : Nat → Int32) (lw_hangValues : Nat → Int32) (lw_ownSeats : Nat → Int32) (p0 : Int32) (post : (Nat → Int32) → (Nat → Int32) → (Nat → Int32) → Int32 → Int32 → Int32 → (Nat → Int32) → (Nat → Int32) → Int32 → Prop) (hm : wp_X3_markEscapes se_order se_marks se_length sg_ownVotes sg_votes sg_rows sg_groups sg_bars sg_now sg_forced sg_barred sg_mayActs sg_mayEnds sg_mays lw_told lw_parts lw_hangMasks lw_hangValues p0 post) : Mv l D cI cZ yX3_markEscapes cX3_markEscapes 6 5 118 [.ref (se 0), .int p0, .ref (sg 0)] (W_se cI se se_order se_from se_marks se_cameBy se_runs se_length se_within ++ W_sg cI sg (lw 0) sg_ownVotes sg_votes sg_rows sg_groups sg_bars sg_now sg_forced sg_barred sg_mayActs sg_mayEnds sg_mays ++ W_lw cI lw lw_told lw_parts lw_hangMasks lw_hangValues lw_ownSeats) (S := (Nat → Int32) × (Nat → Int32) × (Nat → Int32) × Int32 × Int32 × Int32 × (Nat → Int32) × (Nat → Int32) × Int32) (fun u => W_se cI se se_order se_from (u.1) se_cameBy se_runs se_length se_within ++ W_sg cI sg (lw 0) sg_ownVotes (u.2.1) (u.2.2.1) sg_groups sg_bars (u.2.2.2.1) (u.2.2.2.2.1) (u.2.2.2.2.2.1) (u.2.2.2.2.2.2.1) (u.2.2.2.2.2.2.2.1) (u.2.2.2.2.2.2.2.2) ++ W_lw cI lw lw_told lw_parts lw_hangMasks lw_hangValues lw_ownSeats) (fun u => post u.1 u.2.1 u.2.2.1 u.2.2.2.1 u.2.2.2.2.1 u.2.2.2.2.2.1 u.2.2.2.2.2.2.1 u.2.2.2.2.2.2.2.1 u.2.2.2.2.2.2.2.2) := by
  refine mk_Mv (by decide +kernel) (Nat.le_of_ble_eq_true rfl) ?_
  intro Γ hl0 hD0 hC hR
  subst hl0
  subst hD0
  have hC : CX Γ cI cZ cX3_markEscapes RX3 6 5 118 := hC
  show VV Γ (W_se cI se se_order se_from se_marks se_cameBy se_runs se_length se_within ++ W_sg cI sg (lw 0) sg_ownVotes sg_votes sg_rows sg_groups sg_bars sg_now sg_forced sg_barred sg_mayActs sg_mayEnds sg_mays ++ W_lw cI lw lw_told lw_parts lw_hangMasks lw_hangValues lw_ownSeats) [(0, .ref (se 0)), (1, .int p0), (2, .ref (sg 0))] 0 []
  have B_33 : ∀ (K_11 : (Nat → Int32) → (Nat → Int32) → (Nat → Int32) → Int32 → Int32 → Int32 → (Nat → Int32) → (Nat → Int32) → Int32 → Int32 → Int32 → Prop) (hK_11 : ∀ (se_marks_2 : Nat → Int32) (sg_votes_3 : Nat → Int32) (sg_rows_4 : Nat → Int32) (sg_now_5 : Int32) (sg_forced_6 : Int32) (sg_barred_7 : Int32) (sg_mayActs_8 : Nat → Int32) (sg_mayEnds_9 : Nat → Int32) (sg_mays_10 : Int32) (x3_11 : Int32) (x4_12 : Int32), K_11 se_marks_2 sg_votes_3 sg_rows_4 sg_now_5 sg_forced_6 sg_barred_7 sg_mayActs_8 sg_mayEnds_9 sg_mays_10 x3_11 x4_12 → VV Γ (W_se cI se se_order se_from se_marks_2 se_cameBy se_runs se_length se_within ++ W_sg cI sg (lw 0) sg_ownVotes sg_votes_3 sg_rows_4 sg_groups sg_bars sg_now_5 sg_forced_6 sg_barred_7 sg_mayActs_8 sg_mayEnds_9 sg_mays_10 ++ W_lw cI lw lw_told lw_parts lw_hangMasks lw_hangValues lw_ownSeats) [(0, .ref (se 0)), (2, .ref (sg 0)), (3, .int x3_11), (4, .int x4_12)] 11 []) (n : Nat) (se_marks_16 : Nat → Int32) (sg_votes_17 : Nat → Int32) (sg_rows_18 : Nat → Int32) (sg_now_19 : Int32) (sg_forced_20 : Int32) (sg_barred_21 : Int32) (sg_mayActs_22 : Nat → Int32) (sg_mayEnds_23 : Nat → Int32) (sg_mays_24 : Int32) (x3_25 : Int32) (x4_26 : Int32) (x5_27 : Int32), wpL_X3_markEscapes_33 se_order se_length sg_ownVotes sg_groups sg_bars lw_told lw_parts lw_hangMasks lw_hangValues K_11 post n se_marks_16 sg_votes_17 sg_rows_18 sg_now_19 sg_forced_20 sg_barred_21 sg_mayActs_22 sg_mayEnds_23 sg_mays_24 x3_25 x4_26 x5_27 → VV Γ (W_se cI se se_order se_from se_marks_16 se_cameBy se_runs se_length se_within ++ W_sg cI sg (lw 0) sg_ownVotes sg_votes_17 sg_rows_18 sg_groups sg_bars sg_now_19 sg_forced_20 sg_barred_21 sg_mayActs_22 sg_mayEnds_23 sg_mays_24 ++ W_lw cI lw lw_told lw_parts lw_hangMasks lw_hangValues lw_ownSeats) [(0, .ref (se 0)), (2, .ref (sg 0)), (3, .int x3_25), (4, .int x4_26), (5, .int x5_27)] 33 [] := by
    intro K_11 hK_11 n
    induction n with
    | zero => intro se_marks_16 sg_votes_17 sg_rows_18 sg_now_19 sg_forced_20 sg_barred_21 sg_mayActs_22 sg_mayEnds_23 sg_mays_24 x3_25 x4_26 x5_27 hm; rw [wpL_X3_markEscapes_33] at hm; exact hm.elim
    | succ n ih =>
      intro se_marks_16 sg_votes_17 sg_rows_18 sg_now_19 sg_forced_20 sg_barred_21 sg_mayActs_22 sg_mayEnds_23 sg_mays_24 x3_25 x4_26 x5_27 hm
      rw [wpL_X3_markEscapes_33] at hm
      refine x_iload hC 4 dX3_markEscapes_33 rfl ?_
      refine x_if_lt hC 67 dX3_markEscapes_35 (by decide) (fun c_28 => ?_) (fun c_28 => ?_)
      · replace hm := hm.1 c_28
        obtain ⟨x4_29, ex4_29⟩ : ∃ y : Int32, y = x4_26 + (1 : Int32) := ⟨_, rfl⟩
        replace hm := hm x4_29 ex4_29
        refine x_iinc hC 3 x4_29 [(0, .ref (se 0)), (2, .ref (sg 0)), (3, .int x3_25), (4, .int x4_29), (5, .int x5_27)] [1, 2, 3, 0, 4] dX3_markEscapes_67 rfl (by rw [ex4_29]; rfl) (by decide) rfl ?_
        refine x_goto hC 11 dX3_markEscapes_70 (by decide) ?_
        refine x_lsub [0, 1, 2, 3] rfl ?_
        exact hK_11 se_marks_16 sg_votes_17 sg_rows_18 sg_now_19 sg_forced_20 sg_barred_21 sg_mayActs_22 sg_mayEnds_23 sg_mays_24 x3_25 x4_29 hm
      · replace hm := hm.2 c_28
        refine x_iload hC 4 dX3_markEscapes_38 rfl ?_
        refine x_sipush hC (16384 : Int32) dX3_markEscapes_40 (by decide) ?_
        refine x_icmp_ge hC 67 dX3_markEscapes_43 (by decide) (fun c_30 => ?_) (fun c_30 => ?_)
        · replace hm := hm.1 c_30
          obtain ⟨x4_31, ex4_31⟩ : ∃ y : Int32, y = x4_26 + (1 : Int32) := ⟨_, rfl⟩
          replace hm := hm x4_31 ex4_31
          refine x_iinc hC 3 x4_31 [(0, .ref (se 0)), (2, .ref (sg 0)), (3, .int x3_25), (4, .int x4_31), (5, .int x5_27)] [1, 2, 3, 0, 4] dX3_markEscapes_67 rfl (by rw [ex4_31]; rfl) (by decide) rfl ?_
          refine x_goto hC 11 dX3_markEscapes_70 (by decide) ?_
          refine x_lsub [0, 1, 2, 3] rfl ?_
          exact hK_11 se_marks_16 sg_votes_17 sg_rows_18 sg_now_19 sg_forced_20 sg_barred_21 sg_mayActs_22 sg_mayEnds_23 sg_mays_24 x3_25 x4_31 hm
        · replace hm := hm.2 c_30
          refine x_iload_n hC 2 dX3_markEscapes_46 rfl ?_
          refine x_aload_n hC 0 dX3_markEscapes_47 rfl ?_
          refine x_aload_n hC 0 dX3_markEscapes_48 rfl ?_
          refine x_get hC 1 inX3g 0 rfl rfl 0 (by decide) fl_X3_11 rfl dX3_markEscapes_49 ?_
          refine x_iload hC 4 dX3_markEscapes_52 rfl ?_
          refine x_iald hC 1 rfl hm.1 dX3_markEscapes_54 ?_
          replace hm := hm.2
          refine x_aload_n hC 1 dX3_markEscapes_55 rfl ?_
          refine x_callVi hC _ [0, 1, 2, 3, 4, 5, 6, 7, 8, 9, 10, 11, 12, 13, 14, 15, 16, 17] [] [0, 1, 2, 3, 4, 5, 6, 7, 8, 9, 10, 11, 12, 13, 14, 15, 16, 17] (([] : va_W)) (fun u => W_se cI se se_order se_from (u.1) se_cameBy se_runs se_length se_within ++ W_sg cI sg (lw 0) sg_ownVotes (u.2.1) (u.2.2.1) sg_groups sg_bars (u.2.2.2.1) (u.2.2.2.2.1) (u.2.2.2.2.2.1) (u.2.2.2.2.2.2.1) (u.2.2.2.2.2.2.2.1) (u.2.2.2.2.2.2.2.2) ++ W_lw cI lw lw_told lw_parts lw_hangMasks lw_hangValues lw_ownSeats) ok_X3_markIfItEscapes ml_X3_89 0 1 (c_X3_markIfItEscapes (gl Γ) (gD Γ) cI cZ se sg lw se_order se_from se_marks_16 se_cameBy se_runs se_length se_within sg_ownVotes sg_votes_17 sg_rows_18 sg_groups sg_bars sg_now_19 sg_forced_20 sg_barred_21 sg_mayActs_22 sg_mayEnds_23 sg_mays_24 lw_told lw_parts lw_hangMasks lw_hangValues lw_ownSeats (se_order x5_27.toNatClampNeg) _ hm) (by decide) (by decide) rfl (Nat.le_of_ble_eq_true rfl) rfl rfl rfl rfl (by decide) rfl (fun _ => rfl) rfl rfl rfl rfl dX3_markEscapes_56 ?_
          rintro r_41 ⟨se_marks_32, sg_votes_33, sg_rows_34, sg_now_35, sg_forced_36, sg_barred_37, sg_mayActs_38, sg_mayEnds_39, sg_mays_40⟩ hm
          refine x_ior hC dX3_markEscapes_59 ?_
          refine x_top (fun x3_42 ex3_42 => ?_)
          replace hm := hm x3_42 ex3_42
          refine x_istore_n hC [(0, .ref (se 0)), (2, .ref (sg 0)), (3, .int x3_42), (4, .int x4_26), (5, .int x5_27)] [1, 2, 0, 3, 4] dX3_markEscapes_60 (by decide) rfl ?_
          obtain ⟨x5_43, ex5_43⟩ : ∃ y : Int32, y = x5_27 + (-1 : Int32) := ⟨_, rfl⟩
          replace hm := hm x5_43 ex5_43
          refine x_iinc hC 4 x5_43 [(0, .ref (se 0)), (2, .ref (sg 0)), (3, .int x3_42), (4, .int x4_26), (5, .int x5_43)] [1, 2, 3, 4, 0] dX3_markEscapes_61 rfl (by rw [ex5_43]; rfl) (by decide) rfl ?_
          refine x_goto hC 33 dX3_markEscapes_64 (by decide) ?_
          exact ih se_marks_32 sg_votes_33 sg_rows_34 sg_now_35 sg_forced_36 sg_barred_37 sg_mayActs_38 sg_mayEnds_39 sg_mays_40 x3_42 x4_26 x5_43 hm
  have B_11 : ∀ (n : Nat) (se_marks_2 : Nat → Int32) (sg_votes_3 : Nat → Int32) (sg_rows_4 : Nat → Int32) (sg_now_5 : Int32) (sg_forced_6 : Int32) (sg_barred_7 : Int32) (sg_mayActs_8 : Nat → Int32) (sg_mayEnds_9 : Nat → Int32) (sg_mays_10 : Int32) (x3_11 : Int32) (x4_12 : Int32), wpL_X3_markEscapes_11 se_order se_length sg_ownVotes sg_groups sg_bars lw_told lw_parts lw_hangMasks lw_hangValues  post n se_marks_2 sg_votes_3 sg_rows_4 sg_now_5 sg_forced_6 sg_barred_7 sg_mayActs_8 sg_mayEnds_9 sg_mays_10 x3_11 x4_12 → VV Γ (W_se cI se se_order se_from se_marks_2 se_cameBy se_runs se_length se_within ++ W_sg cI sg (lw 0) sg_ownVotes sg_votes_3 sg_rows_4 sg_groups sg_bars sg_now_5 sg_forced_6 sg_barred_7 sg_mayActs_8 sg_mayEnds_9 sg_mays_10 ++ W_lw cI lw lw_told lw_parts lw_hangMasks lw_hangValues lw_ownSeats) [(0, .ref (se 0)), (2, .ref (sg 0)), (3, .int x3_11), (4, .int x4_12)] 11 [] := by
    intro  n
    induction n with
    | zero => intro se_marks_2 sg_votes_3 sg_rows_4 sg_now_5 sg_forced_6 sg_barred_7 sg_mayActs_8 sg_mayEnds_9 sg_mays_10 x3_11 x4_12 hm; rw [wpL_X3_markEscapes_11] at hm; exact hm.elim
    | succ n ih =>
      intro se_marks_2 sg_votes_3 sg_rows_4 sg_now_5 sg_forced_6 sg_barred_7 sg_mayActs_8 sg_mayEnds_9 sg_mays_10 x3_11 x4_12 hm
      rw [wpL_X3_markEscapes_11] at hm
      refine x_iload_n hC 2 dX3_markEscapes_11 rfl ?_
      refine x_if_eq hC 73 dX3_markEscapes_12 (by decide) (fun c_13 => ?_) (fun c_13 => ?_)
      · replace hm := hm.1 c_13
        exact hR (se_marks_2, sg_votes_3, sg_rows_4, sg_now_5, sg_forced_6, sg_barred_7, sg_mayActs_8, sg_mayEnds_9, sg_mays_10) [(0, .ref (se 0)), (2, .ref (sg 0)), (3, .int x3_11), (4, .int x4_12)] 73 hm dX3_markEscapes_73
      · replace hm := hm.2 c_13
        refine x_iload hC 3 dX3_markEscapes_15 rfl ?_
        refine x_sipush hC (16384 : Int32) dX3_markEscapes_17 (by decide) ?_
        refine x_icmp_ge hC 73 dX3_markEscapes_20 (by decide) (fun c_14 => ?_) (fun c_14 => ?_)
        · replace hm := hm.1 c_14
          exact hR (se_marks_2, sg_votes_3, sg_rows_4, sg_now_5, sg_forced_6, sg_barred_7, sg_mayActs_8, sg_mayEnds_9, sg_mays_10) [(0, .ref (se 0)), (2, .ref (sg 0)), (3, .int x3_11), (4, .int x4_12)] 73 hm dX3_markEscapes_73
        · replace hm := hm.2 c_14
          refine x_iconst hC (0 : Int32) dX3_markEscapes_23 (by decide) ?_
          refine x_istore_n hC [(0, .ref (se 0)), (2, .ref (sg 0)), (3, .int ((0 : Int32))), (4, .int x4_12)] [1, 2, 0, 3] dX3_markEscapes_24 (by decide) rfl ?_
          refine x_aload_n hC 0 dX3_markEscapes_25 rfl ?_
          refine x_get hC 1 inX3g 0 rfl rfl 5 (by decide) fl_X3_29 rfl dX3_markEscapes_26 ?_
          refine x_iconst hC (1 : Int32) dX3_markEscapes_29 (by decide) ?_
          refine x_isub hC dX3_markEscapes_30 ?_
          refine x_top (fun x5_15 ex5_15 => ?_)
          replace hm := hm x5_15 ex5_15
          refine x_istore hC [(0, .ref (se 0)), (2, .ref (sg 0)), (3, .int ((0 : Int32))), (4, .int x4_12), (5, .int x5_15)] [1, 2, 3, 4, 0] dX3_markEscapes_31 (by decide) rfl ?_
          obtain ⟨n_44, hm⟩ := hm
          exact B_33 (fun y0 y1 y2 y3 y4 y5 y6 y7 y8 y9 y10 => wpL_X3_markEscapes_11 se_order se_length sg_ownVotes sg_groups sg_bars lw_told lw_parts lw_hangMasks lw_hangValues  post n y0 y1 y2 y3 y4 y5 y6 y7 y8 y9 y10) ih n_44 se_marks_2 sg_votes_3 sg_rows_4 sg_now_5 sg_forced_6 sg_barred_7 sg_mayActs_8 sg_mayEnds_9 sg_mays_10 ((0 : Int32)) x4_12 x5_15 hm
  unfold wp_X3_markEscapes at hm
  refine x_aload_n hC 0 dX3_markEscapes_0 rfl ?_
  refine x_iload_n hC 1 dX3_markEscapes_1 rfl ?_
  refine x_iconst hC (0 : Int32) dX3_markEscapes_2 (by decide) ?_
  refine x_callVv hC _ [0, 1, 2, 3, 4, 5] [6, 7, 8, 9, 10, 11, 12, 13, 14, 15, 16, 17] [12, 13, 14, 15, 16, 17, 0, 1, 2, 3, 4, 5, 6, 7, 8, 9, 10, 11] (W_sg cI sg (lw 0) sg_ownVotes sg_votes sg_rows sg_groups sg_bars sg_now sg_forced sg_barred sg_mayActs sg_mayEnds sg_mays ++ W_lw cI lw lw_told lw_parts lw_hangMasks lw_hangValues lw_ownSeats) (fun u => W_se cI se se_order se_from u se_cameBy se_runs se_length se_within ++ W_sg cI sg (lw 0) sg_ownVotes sg_votes sg_rows sg_groups sg_bars sg_now sg_forced sg_barred sg_mayActs sg_mayEnds sg_mays ++ W_lw cI lw lw_told lw_parts lw_hangMasks lw_hangValues lw_ownSeats) ok_X3_markAll ml_X3_85 0 1 (c_X3_markAll (gl Γ) (gD Γ) cI cZ se se_order se_from se_marks se_cameBy se_runs se_length se_within p0 ((0 : Int32)) _ hm) (by decide) (by decide) rfl (Nat.le_of_ble_eq_true rfl) rfl rfl rfl rfl (by decide) rfl (fun _ => rfl) rfl rfl rfl rfl dX3_markEscapes_3 ?_
  rintro se_marks_1 hm
  refine x_iconst hC (1 : Int32) dX3_markEscapes_6 (by decide) ?_
  refine x_istore_n hC [(0, .ref (se 0)), (1, .int p0), (2, .ref (sg 0)), (3, .int ((1 : Int32)))] [1, 2, 3, 0] dX3_markEscapes_7 (by decide) rfl ?_
  refine x_iconst hC (0 : Int32) dX3_markEscapes_8 (by decide) ?_
  refine x_istore hC [(0, .ref (se 0)), (1, .int p0), (2, .ref (sg 0)), (3, .int ((1 : Int32))), (4, .int ((0 : Int32)))] [1, 2, 3, 4, 0] dX3_markEscapes_9 (by decide) rfl ?_
  obtain ⟨n_45, hm⟩ := hm
  refine x_lsub [0, 2, 3, 4] rfl ?_
  exact B_11  n_45 se_marks_1 sg_votes sg_rows sg_now sg_forced sg_barred sg_mayActs sg_mayEnds sg_mays ((1 : Int32)) ((0 : Int32)) hm

def wp_X3_mustGo (se_marks : Nat → Int32) (sg_ownVotes : Nat → Int32) (sg_votes : Nat → Int32) (sg_rows : Nat → Int32) (sg_groups : Int32) (sg_bars : Int32) (sg_now : Int32) (sg_forced : Int32) (sg_barred : Int32) (sg_mayActs : Nat → Int32) (sg_mayEnds : Nat → Int32) (sg_mays : Int32) (lw_told : Nat → Int32) (lw_parts : Nat → Int32) (lw_hangMasks : Nat → Int32) (lw_hangValues : Nat → Int32) (p0 : Int32) (p1 : Int32) (post : Int32 → (Nat → Int32) → (Nat → Int32) → Int32 → Int32 → Int32 → (Nat → Int32) → (Nat → Int32) → Int32 → Prop) : Prop := wp_X3_isMarked se_marks p0 p1 (fun (r_1 : Int32) => (¬ r_1 = 0 → wp_X4_list sg_ownVotes sg_votes sg_rows sg_groups sg_bars sg_now sg_forced sg_barred sg_mayActs sg_mayEnds sg_mays lw_told lw_parts lw_hangMasks lw_hangValues p0 (fun (sg_votes_3 : Nat → Int32) (sg_rows_4 : Nat → Int32) (sg_now_5 : Int32) (sg_forced_6 : Int32) (sg_barred_7 : Int32) (sg_mayActs_8 : Nat → Int32) (sg_mayEnds_9 : Nat → Int32) (sg_mays_10 : Int32) => wp_X3_firstActTo se_marks sg_now_5 sg_mayActs_8 sg_mayEnds_9 sg_mays_10 p1 ((0 : Int32)) (fun (r_11 : Int32) => (¬ r_11 = ((-9 : Int32)) → post ((0 : Int32)) sg_votes_3 sg_rows_4 sg_now_5 sg_forced_6 sg_barred_7 sg_mayActs_8 sg_mayEnds_9 sg_mays_10) ∧ (r_11 = ((-9 : Int32)) → post ((1 : Int32)) sg_votes_3 sg_rows_4 sg_now_5 sg_forced_6 sg_barred_7 sg_mayActs_8 sg_mayEnds_9 sg_mays_10)))) ∧ (r_1 = 0 → post ((0 : Int32)) sg_votes sg_rows sg_now sg_forced sg_barred sg_mayActs sg_mayEnds sg_mays))
set_option maxHeartbeats 4000000 in
set_option maxRecDepth 100000 in
theorem c_X3_mustGo (l : Launch) (D : va_G) (cI cZ : ClassId) (se : Nat → Nat) (sg : Nat → Nat) (lw : Nat → Nat) (se_order : Nat → Int32) (se_from : Nat → Int32) (se_marks : Nat → Int32) (se_cameBy : Nat → Int32) (se_runs : Int32) (se_length : Int32) (se_within : Nat → Int32) (sg_ownVotes : Nat → Int32) (sg_votes : Nat → Int32) (sg_rows : Nat → Int32) (sg_groups : Int32) (sg_bars : Int32) (sg_now : Int32) (sg_forced : Int32) (sg_barred : Int32) (sg_mayActs : Nat → Int32) (sg_mayEnds : Nat → Int32) (sg_mays : Int32) (lw_told : Nat → Int32) (lw_parts : Nat → Int32) (lw_hangMasks : Nat → Int32) (lw_hangValues : Nat → Int32) (lw_ownSeats : Nat → Int32) (p0 : Int32) (p1 : Int32) (post : Int32 → (Nat → Int32) → (Nat → Int32) → Int32 → Int32 → Int32 → (Nat → Int32) → (Nat → Int32) → Int32 → Prop) (hm : wp_X3_mustGo se_marks sg_ownVotes sg_votes sg_rows sg_groups sg_bars sg_now sg_forced sg_barred sg_mayActs sg_mayEnds sg_mays lw_told lw_parts lw_hangMasks lw_hangValues p0 p1 post) : Mi l D cI cZ yX3_mustGo cX3_mustGo 4 .boolean 4 96 [.ref (se 0), .int p0, .int p1, .ref (sg 0)] (W_se cI se se_order se_from se_marks se_cameBy se_runs se_length se_within ++ W_sg cI sg (lw 0) sg_ownVotes sg_votes sg_rows sg_groups sg_bars sg_now sg_forced sg_barred sg_mayActs sg_mayEnds sg_mays ++ W_lw cI lw lw_told lw_parts lw_hangMasks lw_hangValues lw_ownSeats) (S := (Nat → Int32) × (Nat → Int32) × Int32 × Int32 × Int32 × (Nat → Int32) × (Nat → Int32) × Int32) (fun u => W_se cI se se_order se_from se_marks se_cameBy se_runs se_length se_within ++ W_sg cI sg (lw 0) sg_ownVotes (u.1) (u.2.1) sg_groups sg_bars (u.2.2.1) (u.2.2.2.1) (u.2.2.2.2.1) (u.2.2.2.2.2.1) (u.2.2.2.2.2.2.1) (u.2.2.2.2.2.2.2) ++ W_lw cI lw lw_told lw_parts lw_hangMasks lw_hangValues lw_ownSeats) (fun r u => post r u.1 u.2.1 u.2.2.1 u.2.2.2.1 u.2.2.2.2.1 u.2.2.2.2.2.1 u.2.2.2.2.2.2.1 u.2.2.2.2.2.2.2) := by
  refine mk_Mi (by decide +kernel) (Nat.le_of_ble_eq_true rfl) ?_
  intro Γ hl0 hD0 hC hR
  subst hl0
  subst hD0
  have hC : CX Γ cI cZ cX3_mustGo RX3 4 4 96 := hC
  show VV Γ (W_se cI se se_order se_from se_marks se_cameBy se_runs se_length se_within ++ W_sg cI sg (lw 0) sg_ownVotes sg_votes sg_rows sg_groups sg_bars sg_now sg_forced sg_barred sg_mayActs sg_mayEnds sg_mays ++ W_lw cI lw lw_told lw_parts lw_hangMasks lw_hangValues lw_ownSeats) [(0, .ref (se 0)), (1, .int p0), (2, .int p1), (3, .ref (sg 0))] 0 []
  unfold wp_X3_mustGo at hm
  refine x_aload_n hC 0 dX3_mustGo_0 rfl ?_
  refine x_iload_n hC 1 dX3_mustGo_1 rfl ?_
  refine x_iload_n hC 2 dX3_mustGo_2 rfl ?_
  refine x_callVi hC _ [0, 1, 2, 3, 4, 5] [6, 7, 8, 9, 10, 11, 12, 13, 14, 15, 16, 17] [12, 13, 14, 15, 16, 17, 0, 1, 2, 3, 4, 5, 6, 7, 8, 9, 10, 11] (W_sg cI sg (lw 0) sg_ownVotes sg_votes sg_rows sg_groups sg_bars sg_now sg_forced sg_barred sg_mayActs sg_mayEnds sg_mays ++ W_lw cI lw lw_told lw_parts lw_hangMasks lw_hangValues lw_ownSeats) (fun _ => W_se cI se se_order se_from se_marks se_cameBy se_runs se_length se_within ++ W_sg cI sg (lw 0) sg_ownVotes sg_votes sg_rows sg_groups sg_bars sg_now sg_forced sg_barred sg_mayActs sg_mayEnds sg_mays ++ W_lw cI lw lw_told lw_parts lw_hangMasks lw_hangValues lw_ownSeats) ok_X3_isMarked ml_X3_82 0 1 (c_X3_isMarked (gl Γ) (gD Γ) cI cZ se se_order se_from se_marks se_cameBy se_runs se_length se_within p0 p1 _ hm) (by decide) (by decide) rfl (Nat.le_of_ble_eq_true rfl) rfl rfl rfl rfl (by decide) rfl (fun _ => rfl) rfl rfl rfl rfl dX3_mustGo_3 ?_
  rintro r_1 _ hm
  refine x_if_ne hC 11 dX3_mustGo_6 (by decide) (fun c_2 => ?_) (fun c_2 => ?_)
  · replace hm := hm.1 c_2
    refine x_aload_n hC 3 dX3_mustGo_11 rfl ?_
    refine x_iload_n hC 1 dX3_mustGo_12 rfl ?_
    refine x_callVv hC _ [6, 7, 8, 9, 10, 11, 12, 13, 14, 15, 16, 17] [0, 1, 2, 3, 4, 5] [0, 1, 2, 3, 4, 5, 6, 7, 8, 9, 10, 11, 12, 13, 14, 15, 16, 17] (W_se cI se se_order se_from se_marks se_cameBy se_runs se_length se_within) (fun u => W_se cI se se_order se_from se_marks se_cameBy se_runs se_length se_within ++ W_sg cI sg (lw 0) sg_ownVotes (u.1) (u.2.1) sg_groups sg_bars (u.2.2.1) (u.2.2.2.1) (u.2.2.2.2.1) (u.2.2.2.2.2.1) (u.2.2.2.2.2.2.1) (u.2.2.2.2.2.2.2) ++ W_lw cI lw lw_told lw_parts lw_hangMasks lw_hangValues lw_ownSeats) ok_X4_list ml_X3_54 0 2 (c_X4_list (gl Γ) (gD Γ) cI cZ sg lw sg_ownVotes sg_votes sg_rows sg_groups sg_bars sg_now sg_forced sg_barred sg_mayActs sg_mayEnds sg_mays lw_told lw_parts lw_hangMasks lw_hangValues lw_ownSeats p0 _ hm) (by decide) (by decide) rfl (Nat.le_of_ble_eq_true rfl) rfl rfl rfl rfl (by decide) rfl (fun _ => rfl) rfl rfl rfl rfl dX3_mustGo_13 ?_
    rintro ⟨sg_votes_3, sg_rows_4, sg_now_5, sg_forced_6, sg_barred_7, sg_mayActs_8, sg_mayEnds_9, sg_mays_10⟩ hm
    refine x_aload_n hC 0 dX3_mustGo_16 rfl ?_
    refine x_aload_n hC 3 dX3_mustGo_17 rfl ?_
    refine x_iload_n hC 2 dX3_mustGo_18 rfl ?_
    refine x_iconst hC (0 : Int32) dX3_mustGo_19 (by decide) ?_
    refine x_callVi hC _ [0, 1, 2, 3, 4, 5, 6, 7, 8, 9, 10, 11, 12, 13, 14, 15, 16, 17] [] [0, 1, 2, 3, 4, 5, 6, 7, 8, 9, 10, 11, 12, 13, 14, 15, 16, 17] (([] : va_W)) (fun _ => W_se cI se se_order se_from se_marks se_cameBy se_runs se_length se_within ++ W_sg cI sg (lw 0) sg_ownVotes sg_votes_3 sg_rows_4 sg_groups sg_bars sg_now_5 sg_forced_6 sg_barred_7 sg_mayActs_8 sg_mayEnds_9 sg_mays_10 ++ W_lw cI lw lw_told lw_parts lw_hangMasks lw_hangValues lw_ownSeats) ok_X3_firstActTo ml_X3_93 0 1 (c_X3_firstActTo (gl Γ) (gD Γ) cI cZ se sg lw se_order se_from se_marks se_cameBy se_runs se_length se_within sg_ownVotes sg_votes_3 sg_rows_4 sg_groups sg_bars sg_now_5 sg_forced_6 sg_barred_7 sg_mayActs_8 sg_mayEnds_9 sg_mays_10 lw_told lw_parts lw_hangMasks lw_hangValues lw_ownSeats p1 ((0 : Int32)) _ hm) (by decide) (by decide) rfl (Nat.le_of_ble_eq_true rfl) rfl rfl rfl rfl (by decide) rfl (fun _ => rfl) rfl rfl rfl rfl dX3_mustGo_20 ?_
    rintro r_11 _ hm
    refine x_bipush hC (-9 : Int32) dX3_mustGo_23 (by decide) ?_
    refine x_icmp_ne hC 32 dX3_mustGo_25 (by decide) (fun c_12 => ?_) (fun c_12 => ?_)
    · replace hm := hm.1 c_12
      refine x_iconst hC (0 : Int32) dX3_mustGo_32 (by decide) ?_
      exact hR ((0 : Int32)) (sg_votes_3, sg_rows_4, sg_now_5, sg_forced_6, sg_barred_7, sg_mayActs_8, sg_mayEnds_9, sg_mays_10) [(0, .ref (se 0)), (1, .int p0), (2, .int p1), (3, .ref (sg 0))] 33 hm rfl dX3_mustGo_33
    · replace hm := hm.2 c_12
      refine x_iconst hC (1 : Int32) dX3_mustGo_28 (by decide) ?_
      refine x_goto hC 33 dX3_mustGo_29 (by decide) ?_
      exact hR ((1 : Int32)) (sg_votes_3, sg_rows_4, sg_now_5, sg_forced_6, sg_barred_7, sg_mayActs_8, sg_mayEnds_9, sg_mays_10) [(0, .ref (se 0)), (1, .int p0), (2, .int p1), (3, .ref (sg 0))] 33 hm rfl dX3_mustGo_33
  · replace hm := hm.2 c_2
    refine x_iconst hC (0 : Int32) dX3_mustGo_9 (by decide) ?_
    exact hR ((0 : Int32)) (sg_votes, sg_rows, sg_now, sg_forced, sg_barred, sg_mayActs, sg_mayEnds, sg_mays) [(0, .ref (se 0)), (1, .int p0), (2, .int p1), (3, .ref (sg 0))] 10 hm rfl dX3_mustGo_10

def wpJ_X3_markSure_114 (se_order : Nat → Int32) (se_length : Int32) (se_within : Nat → Int32) (sg_ownVotes : Nat → Int32) (sg_groups : Int32) (sg_bars : Int32) (so_ownVotes : Nat → Int32) (so_groups : Int32) (so_bars : Int32) (lw_told : Nat → Int32) (lw_parts : Nat → Int32) (lw_hangMasks : Nat → Int32) (lw_hangValues : Nat → Int32) (K_9 : (Nat → Int32) → (Nat → Int32) → (Nat → Int32) → Int32 → Int32 → Int32 → (Nat → Int32) → (Nat → Int32) → Int32 → (Nat → Int32) → (Nat → Int32) → Int32 → Int32 → Int32 → (Nat → Int32) → (Nat → Int32) → Int32 → Int32 → Int32 → Prop) (K_56 : (Nat → Int32) → (Nat → Int32) → (Nat → Int32) → Int32 → Int32 → Int32 → (Nat → Int32) → (Nat → Int32) → Int32 → (Nat → Int32) → (Nat → Int32) → Int32 → Int32 → Int32 → (Nat → Int32) → (Nat → Int32) → Int32 → Int32 → Int32 → Int32 → Int32 → Prop) (post : (Nat → Int32) → (Nat → Int32) → (Nat → Int32) → Int32 → Int32 → Int32 → (Nat → Int32) → (Nat → Int32) → Int32 → (Nat → Int32) → (Nat → Int32) → Int32 → Int32 → Int32 → (Nat → Int32) → (Nat → Int32) → Int32 → Prop) (se_marks_59 : Nat → Int32) (sg_votes_60 : Nat → Int32) (sg_rows_61 : Nat → Int32) (sg_now_62 : Int32) (sg_forced_63 : Int32) (sg_barred_64 : Int32) (sg_mayActs_65 : Nat → Int32) (sg_mayEnds_66 : Nat → Int32) (sg_mays_67 : Int32) (so_votes_68 : Nat → Int32) (so_rows_69 : Nat → Int32) (so_now_70 : Int32) (so_forced_71 : Int32) (so_barred_72 : Int32) (so_mayActs_73 : Nat → Int32) (so_mayEnds_74 : Nat → Int32) (so_mays_75 : Int32) (x2_76 : Int32) (x5_77 : Int32) (x7_78 : Int32) (x8_79 : Int32) (s0_80 : Int32) : Prop := (s0_80 = 0 → ∀ x8_82 : Int32, x8_82 = x8_79 + (1 : Int32) → K_56 se_marks_59 sg_votes_60 sg_rows_61 sg_now_62 sg_forced_63 sg_barred_64 sg_mayActs_65 sg_mayEnds_66 sg_mays_67 so_votes_68 so_rows_69 so_now_70 so_forced_71 so_barred_72 so_mayActs_73 so_mayEnds_74 so_mays_75 x2_76 x5_77 x7_78 x8_82) ∧ (¬ s0_80 = 0 → vp_in x8_79 16384 ∧ (wp_X3_mark se_marks_59 (se_order x8_79.toNatClampNeg) x5_77 (fun (se_marks_83 : Nat → Int32) => ∀ x8_84 : Int32, x8_84 = x8_79 + (1 : Int32) → K_56 se_marks_83 sg_votes_60 sg_rows_61 sg_now_62 sg_forced_63 sg_barred_64 sg_mayActs_65 sg_mayEnds_66 sg_mays_67 so_votes_68 so_rows_69 so_now_70 so_forced_71 so_barred_72 so_mayActs_73 so_mayEnds_74 so_mays_75 x2_76 x5_77 x7_78 x8_84)))
def wpL_X3_markSure_56 (se_order : Nat → Int32) (se_length : Int32) (se_within : Nat → Int32) (sg_ownVotes : Nat → Int32) (sg_groups : Int32) (sg_bars : Int32) (so_ownVotes : Nat → Int32) (so_groups : Int32) (so_bars : Int32) (lw_told : Nat → Int32) (lw_parts : Nat → Int32) (lw_hangMasks : Nat → Int32) (lw_hangValues : Nat → Int32) (K_9 : (Nat → Int32) → (Nat → Int32) → (Nat → Int32) → Int32 → Int32 → Int32 → (Nat → Int32) → (Nat → Int32) → Int32 → (Nat → Int32) → (Nat → Int32) → Int32 → Int32 → Int32 → (Nat → Int32) → (Nat → Int32) → Int32 → Int32 → Int32 → Prop) (post : (Nat → Int32) → (Nat → Int32) → (Nat → Int32) → Int32 → Int32 → Int32 → (Nat → Int32) → (Nat → Int32) → Int32 → (Nat → Int32) → (Nat → Int32) → Int32 → Int32 → Int32 → (Nat → Int32) → (Nat → Int32) → Int32 → Prop) : Nat → (Nat → Int32) → (Nat → Int32) → (Nat → Int32) → Int32 → Int32 → Int32 → (Nat → Int32) → (Nat → Int32) → Int32 → (Nat → Int32) → (Nat → Int32) → Int32 → Int32 → Int32 → (Nat → Int32) → (Nat → Int32) → Int32 → Int32 → Int32 → Int32 → Int32 → Prop
  | 0, _, _, _, _, _, _, _, _, _, _, _, _, _, _, _, _, _, _, _, _, _ => False
  | n + 1, se_marks_24, sg_votes_25, sg_rows_26, sg_now_27, sg_forced_28, sg_barred_29, sg_mayActs_30, sg_mayEnds_31, sg_mays_32, so_votes_33, so_rows_34, so_now_35, so_forced_36, so_barred_37, so_mayActs_38, so_mayEnds_39, so_mays_40, x2_41, x5_42, x7_43, x8_44 => (x7_43 ≤ x8_44 → ∀ x5_46 : Int32, x5_46 = x5_42 + (1 : Int32) → K_9 se_marks_24 sg_votes_25 sg_rows_26 sg_now_27 sg_forced_28 sg_barred_29 sg_mayActs_30 sg_mayEnds_31 sg_mays_32 so_votes_33 so_rows_34 so_now_35 so_forced_36 so_barred_37 so_mayActs_38 so_mayEnds_39 so_mays_40 x2_41 x5_46) ∧ (¬ x7_43 ≤ x8_44 → (((16384 : Int32)) ≤ x8_44 → ∀ x5_48 : Int32, x5_48 = x5_42 + (1 : Int32) → K_9 se_marks_24 sg_votes_25 sg_rows_26 sg_now_27 sg_forced_28 sg_barred_29 sg_mayActs_30 sg_mayEnds_31 sg_mays_32 so_votes_33 so_rows_34 so_now_35 so_forced_36 so_barred_37 so_mayActs_38 so_mayEnds_39 so_mays_40 x2_41 x5_48) ∧ (¬ ((16384 : Int32)) ≤ x8_44 → (¬ (x5_42 - x5_42 / ((2 : Int32)) * ((2 : Int32))) = 0 → vp_in x8_44 16384 ∧ (wp_X3_mustGo se_marks_24 so_ownVotes so_votes_33 so_rows_34 so_groups so_bars so_now_35 so_forced_36 so_barred_37 so_mayActs_38 so_mayEnds_39 so_mays_40 lw_told lw_parts lw_hangMasks lw_hangValues (se_order x8_44.toNatClampNeg) (x5_42 - ((1 : Int32))) (fun (r_58 : Int32) (so_votes_50 : Nat → Int32) (so_rows_51 : Nat → Int32) (so_now_52 : Int32) (so_forced_53 : Int32) (so_barred_54 : Int32) (so_mayActs_55 : Nat → Int32) (so_mayEnds_56 : Nat → Int32) (so_mays_57 : Int32) => wpJ_X3_markSure_114 se_order se_length se_within sg_ownVotes sg_groups sg_bars so_ownVotes so_groups so_bars lw_told lw_parts lw_hangMasks lw_hangValues K_9 (fun y0 y1 y2 y3 y4 y5 y6 y7 y8 y9 y10 y11 y12 y13 y14 y15 y16 y17 y18 y19 y20 => wpL_X3_markSure_56 se_order se_length se_within sg_ownVotes sg_groups sg_bars so_ownVotes so_groups so_bars lw_told lw_parts lw_hangMasks lw_hangValues K_9 post n y0 y1 y2 y3 y4 y5 y6 y7 y8 y9 y10 y11 y12 y13 y14 y15 y16 y17 y18 y19 y20) post se_marks_24 sg_votes_25 sg_rows_26 sg_now_27 sg_forced_28 sg_barred_29 sg_mayActs_30 sg_mayEnds_31 sg_mays_32 so_votes_50 so_rows_51 so_now_52 so_forced_53 so_barred_54 so_mayActs_55 so_mayEnds_56 so_mays_57 x2_41 x5_42 x7_43 x8_44 r_58))) ∧ ((x5_42 - x5_42 / ((2 : Int32)) * ((2 : Int32))) = 0 → vp_in x8_44 16384 ∧ (wp_X3_canGo se_marks_24 sg_ownVotes sg_votes_25 sg_rows_26 sg_groups sg_bars sg_now_27 sg_forced_28 sg_barred_29 sg_mayActs_30 sg_mayEnds_31 sg_mays_32 lw_told lw_parts lw_hangMasks lw_hangValues (se_order x8_44.toNatClampNeg) (x5_42 - ((1 : Int32))) (fun (r_93 : Int32) (sg_votes_85 : Nat → Int32) (sg_rows_86 : Nat → Int32) (sg_now_87 : Int32) (sg_forced_88 : Int32) (sg_barred_89 : Int32) (sg_mayActs_90 : Nat → Int32) (sg_mayEnds_91 : Nat → Int32) (sg_mays_92 : Int32) => wpJ_X3_markSure_114 se_order se_length se_within sg_ownVotes sg_groups sg_bars so_ownVotes so_groups so_bars lw_told lw_parts lw_hangMasks lw_hangValues K_9 (fun y0 y1 y2 y3 y4 y5 y6 y7 y8 y9 y10 y11 y12 y13 y14 y15 y16 y17 y18 y19 y20 => wpL_X3_markSure_56 se_order se_length se_within sg_ownVotes sg_groups sg_bars so_ownVotes so_groups so_bars lw_told lw_parts lw_hangMasks lw_hangValues K_9 post n y0 y1 y2 y3 y4 y5 y6 y7 y8 y9 y10 y11 y12 y13 y14 y15 y16 y17 y18 y19 y20) post se_marks_24 sg_votes_85 sg_rows_86 sg_now_87 sg_forced_88 sg_barred_89 sg_mayActs_90 sg_mayEnds_91 sg_mays_92 so_votes_33 so_rows_34 so_now_35 so_forced_36 so_barred_37 so_mayActs_38 so_mayEnds_39 so_mays_40 x2_41 x5_42 x7_43 x8_44 r_93)))))
def wpL_X3_markSure_9 (se_order : Nat → Int32) (se_length : Int32) (se_within : Nat → Int32) (sg_ownVotes : Nat → Int32) (sg_groups : Int32) (sg_bars : Int32) (so_ownVotes : Nat → Int32) (so_groups : Int32) (so_bars : Int32) (lw_told : Nat → Int32) (lw_parts : Nat → Int32) (lw_hangMasks : Nat → Int32) (lw_hangValues : Nat → Int32)  (post : (Nat → Int32) → (Nat → Int32) → (Nat → Int32) → Int32 → Int32 → Int32 → (Nat → Int32) → (Nat → Int32) → Int32 → (Nat → Int32) → (Nat → Int32) → Int32 → Int32 → Int32 → (Nat → Int32) → (Nat → Int32) → Int32 → Prop) : Nat → (Nat → Int32) → (Nat → Int32) → (Nat → Int32) → Int32 → Int32 → Int32 → (Nat → Int32) → (Nat → Int32) → Int32 → (Nat → Int32) → (Nat → Int32) → Int32 → Int32 → Int32 → (Nat → Int32) → (Nat → Int32) → Int32 → Int32 → Int32 → Prop
  | 0, _, _, _, _, _, _, _, _, _, _, _, _, _, _, _, _, _, _, _ => False
  | n + 1, se_marks_2, sg_votes_3, sg_rows_4, sg_now_5, sg_forced_6, sg_barred_7, sg_mayActs_8, sg_mayEnds_9, sg_mays_10, so_votes_11, so_rows_12, so_now_13, so_forced_14, so_barred_15, so_mayActs_16, so_mayEnds_17, so_mays_18, x2_19, x5_20 => ((((2 : Int32)) * x2_19) < x5_20 → post se_marks_2 sg_votes_3 sg_rows_4 sg_now_5 sg_forced_6 sg_barred_7 sg_mayActs_8 sg_mayEnds_9 sg_mays_10 so_votes_11 so_rows_12 so_now_13 so_forced_14 so_barred_15 so_mayActs_16 so_mayEnds_17 so_mays_18) ∧ (¬ (((2 : Int32)) * x2_19) < x5_20 → ∀ x6_22 : Int32, x6_22 = (((2 : Int32)) * x2_19) - x5_20 → (x6_22 < 0 → ∃ k56, wpL_X3_markSure_56 se_order se_length se_within sg_ownVotes sg_groups sg_bars so_ownVotes so_groups so_bars lw_told lw_parts lw_hangMasks lw_hangValues (fun y0 y1 y2 y3 y4 y5 y6 y7 y8 y9 y10 y11 y12 y13 y14 y15 y16 y17 y18 => wpL_X3_markSure_9 se_order se_length se_within sg_ownVotes sg_groups sg_bars so_ownVotes so_groups so_bars lw_told lw_parts lw_hangMasks lw_hangValues  post n y0 y1 y2 y3 y4 y5 y6 y7 y8 y9 y10 y11 y12 y13 y14 y15 y16 y17 y18) post k56 se_marks_2 sg_votes_3 sg_rows_4 sg_now_5 sg_forced_6 sg_barred_7 sg_mayActs_8 sg_mayEnds_9 sg_mays_10 so_votes_11 so_rows_12 so_now_13 so_forced_14 so_barred_15 so_mayActs_16 so_mayEnds_17 so_mays_18 x2_19 x5_20 ((0 : Int32)) ((0 : Int32))) ∧ (¬ x6_22 < 0 → (((17 : Int32)) ≤ x6_22 → ∃ k56, wpL_X3_markSure_56 se_order se_length se_within sg_ownVotes sg_groups sg_bars so_ownVotes so_groups so_bars lw_told lw_parts lw_hangMasks lw_hangValues (fun y0 y1 y2 y3 y4 y5 y6 y7 y8 y9 y10 y11 y12 y13 y14 y15 y16 y17 y18 => wpL_X3_markSure_9 se_order se_length se_within sg_ownVotes sg_groups sg_bars so_ownVotes so_groups so_bars lw_told lw_parts lw_hangMasks lw_hangValues  post n y0 y1 y2 y3 y4 y5 y6 y7 y8 y9 y10 y11 y12 y13 y14 y15 y16 y17 y18) post k56 se_marks_2 sg_votes_3 sg_rows_4 sg_now_5 sg_forced_6 sg_barred_7 sg_mayActs_8 sg_mayEnds_9 sg_mays_10 so_votes_11 so_rows_12 so_now_13 so_forced_14 so_barred_15 so_mayActs_16 so_mayEnds_17 so_mays_18 x2_19 x5_20 ((0 : Int32)) ((0 : Int32))) ∧ (¬ ((17 : Int32)) ≤ x6_22 → vp_in x6_22 17 ∧ (∀ x7_97 : Int32, x7_97 = se_within x6_22.toNatClampNeg → ∃ k56, wpL_X3_markSure_56 se_order se_length se_within sg_ownVotes sg_groups sg_bars so_ownVotes so_groups so_bars lw_told lw_parts lw_hangMasks lw_hangValues (fun y0 y1 y2 y3 y4 y5 y6 y7 y8 y9 y10 y11 y12 y13 y14 y15 y16 y17 y18 => wpL_X3_markSure_9 se_order se_length se_within sg_ownVotes sg_groups sg_bars so_ownVotes so_groups so_bars lw_told lw_parts lw_hangMasks lw_hangValues  post n y0 y1 y2 y3 y4 y5 y6 y7 y8 y9 y10 y11 y12 y13 y14 y15 y16 y17 y18) post k56 se_marks_2 sg_votes_3 sg_rows_4 sg_now_5 sg_forced_6 sg_barred_7 sg_mayActs_8 sg_mayEnds_9 sg_mays_10 so_votes_11 so_rows_12 so_now_13 so_forced_14 so_barred_15 so_mayActs_16 so_mayEnds_17 so_mays_18 x2_19 x5_20 x7_97 ((0 : Int32))))))
def wp_X3_markSure (se_order : Nat → Int32) (se_marks : Nat → Int32) (se_length : Int32) (se_within : Nat → Int32) (sg_ownVotes : Nat → Int32) (sg_votes : Nat → Int32) (sg_rows : Nat → Int32) (sg_groups : Int32) (sg_bars : Int32) (sg_now : Int32) (sg_forced : Int32) (sg_barred : Int32) (sg_mayActs : Nat → Int32) (sg_mayEnds : Nat → Int32) (sg_mays : Int32) (so_ownVotes : Nat → Int32) (so_votes : Nat → Int32) (so_rows : Nat → Int32) (so_groups : Int32) (so_bars : Int32) (so_now : Int32) (so_forced : Int32) (so_barred : Int32) (so_mayActs : Nat → Int32) (so_mayEnds : Nat → Int32) (so_mays : Int32) (lw_told : Nat → Int32) (lw_parts : Nat → Int32) (lw_hangMasks : Nat → Int32) (lw_hangValues : Nat → Int32) (p0 : Int32) (p1 : Int32) (post : (Nat → Int32) → (Nat → Int32) → (Nat → Int32) → Int32 → Int32 → Int32 → (Nat → Int32) → (Nat → Int32) → Int32 → (Nat → Int32) → (Nat → Int32) → Int32 → Int32 → Int32 → (Nat → Int32) → (Nat → Int32) → Int32 → Prop) : Prop := wp_X3_markAll se_order se_marks se_length p0 ((1 : Int32)) (fun (se_marks_1 : Nat → Int32) => ∃ k9, wpL_X3_markSure_9 se_order se_length se_within sg_ownVotes sg_groups sg_bars so_ownVotes so_groups so_bars lw_told lw_parts lw_hangMasks lw_hangValues  post k9 se_marks_1 sg_votes sg_rows sg_now sg_forced sg_barred sg_mayActs sg_mayEnds sg_mays so_votes so_rows so_now so_forced so_barred so_mayActs so_mayEnds so_mays p1 ((1 : Int32)))
set_option maxHeartbeats 4000000 in
set_option maxRecDepth 100000 in
theorem c_X3_markSure (l : Launch) (D : va_G) (cI cZ : ClassId) (se : Nat → Nat) (sg : Nat → Nat) (so : Nat → Nat) (lw : Nat → Nat) (se_order : Nat → Int32) (se_from : Nat → Int32) (se_marks : Nat → Int32) (se_cameBy : Nat → Int32) (se_runs : Int32) (se_length : Int32) (se_within : Nat → Int32) (sg_ownVotes : Nat → Int32) (sg_votes : Nat → Int32) (sg_rows : Nat → Int32) (sg_groups : Int32) (sg_bars : Int32) (sg_now : Int32) (sg_forced : Int32) (sg_barred : Int32) (sg_mayActs : Nat → Int32) (sg_mayEnds : Nat → Int32) (sg_mays : Int32) (so_ownVotes : Nat → Int32) (so_votes : Nat → Int32) (so_rows : Nat → Int32) (so_groups : Int32) (so_bars : Int32) (so_now : Int32) (so_forced : Int32) (so_barred : Int32) (so_mayActs : Nat → Int32) (so_mayEnds : Nat → Int32) (so_mays : Int32) (lw_told : Nat → Int32) (lw_parts : Nat → Int32) (lw_hangMasks : Nat → Int32) (lw_hangValues : Nat → Int32) (lw_ownSeats : Nat → Int32) (p0 : Int32) (p1 : Int32) (post : (Nat → Int32) → (Nat → Int32) → (Nat → Int32) → Int32 → Int32 → Int32 → (Nat → Int32) → (Nat → Int32) → Int32 → (Nat → Int32) → (Nat → Int32) → Int32 → Int32 → Int32 → (Nat → Int32) → (Nat → Int32) → Int32 → Prop) (hm : wp_X3_markSure se_order se_marks se_length se_within sg_ownVotes sg_votes sg_rows sg_groups sg_bars sg_now sg_forced sg_barred sg_mayActs sg_mayEnds sg_mays so_ownVotes so_votes so_rows so_groups so_bars so_now so_forced so_barred so_mayActs so_mayEnds so_mays lw_told lw_parts lw_hangMasks lw_hangValues p0 p1 post) : Mv l D cI cZ yX3_markSure cX3_markSure 10 5 119 [.ref (se 0), .int p0, .int p1, .ref (sg 0), .ref (so 0)] (W_se cI se se_order se_from se_marks se_cameBy se_runs se_length se_within ++ W_sg cI sg (lw 0) sg_ownVotes sg_votes sg_rows sg_groups sg_bars sg_now sg_forced sg_barred sg_mayActs sg_mayEnds sg_mays ++ W_sg cI so (lw 0) so_ownVotes so_votes so_rows so_groups so_bars so_now so_forced so_barred so_mayActs so_mayEnds so_mays ++ W_lw cI lw lw_told lw_parts lw_hangMasks lw_hangValues lw_ownSeats) (S := (Nat → Int32) × (Nat → Int32) × (Nat → Int32) × Int32 × Int32 × Int32 × (Nat → Int32) × (Nat → Int32) × Int32 × (Nat → Int32) × (Nat → Int32) × Int32 × Int32 × Int32 × (Nat → Int32) × (Nat → Int32) × Int32) (fun u => W_se cI se se_order se_from (u.1) se_cameBy se_runs se_length se_within ++ W_sg cI sg (lw 0) sg_ownVotes (u.2.1) (u.2.2.1) sg_groups sg_bars (u.2.2.2.1) (u.2.2.2.2.1) (u.2.2.2.2.2.1) (u.2.2.2.2.2.2.1) (u.2.2.2.2.2.2.2.1) (u.2.2.2.2.2.2.2.2.1) ++ W_sg cI so (lw 0) so_ownVotes (u.2.2.2.2.2.2.2.2.2.1) (u.2.2.2.2.2.2.2.2.2.2.1) so_groups so_bars (u.2.2.2.2.2.2.2.2.2.2.2.1) (u.2.2.2.2.2.2.2.2.2.2.2.2.1) (u.2.2.2.2.2.2.2.2.2.2.2.2.2.1) (u.2.2.2.2.2.2.2.2.2.2.2.2.2.2.1) (u.2.2.2.2.2.2.2.2.2.2.2.2.2.2.2.1) (u.2.2.2.2.2.2.2.2.2.2.2.2.2.2.2.2) ++ W_lw cI lw lw_told lw_parts lw_hangMasks lw_hangValues lw_ownSeats) (fun u => post u.1 u.2.1 u.2.2.1 u.2.2.2.1 u.2.2.2.2.1 u.2.2.2.2.2.1 u.2.2.2.2.2.2.1 u.2.2.2.2.2.2.2.1 u.2.2.2.2.2.2.2.2.1 u.2.2.2.2.2.2.2.2.2.1 u.2.2.2.2.2.2.2.2.2.2.1 u.2.2.2.2.2.2.2.2.2.2.2.1 u.2.2.2.2.2.2.2.2.2.2.2.2.1 u.2.2.2.2.2.2.2.2.2.2.2.2.2.1 u.2.2.2.2.2.2.2.2.2.2.2.2.2.2.1 u.2.2.2.2.2.2.2.2.2.2.2.2.2.2.2.1 u.2.2.2.2.2.2.2.2.2.2.2.2.2.2.2.2) := by
  refine mk_Mv (by decide +kernel) (Nat.le_of_ble_eq_true rfl) ?_
  intro Γ hl0 hD0 hC hR
  subst hl0
  subst hD0
  have hC : CX Γ cI cZ cX3_markSure RX3 10 5 119 := hC
  show VV Γ (W_se cI se se_order se_from se_marks se_cameBy se_runs se_length se_within ++ W_sg cI sg (lw 0) sg_ownVotes sg_votes sg_rows sg_groups sg_bars sg_now sg_forced sg_barred sg_mayActs sg_mayEnds sg_mays ++ W_sg cI so (lw 0) so_ownVotes so_votes so_rows so_groups so_bars so_now so_forced so_barred so_mayActs so_mayEnds so_mays ++ W_lw cI lw lw_told lw_parts lw_hangMasks lw_hangValues lw_ownSeats) [(0, .ref (se 0)), (1, .int p0), (2, .int p1), (3, .ref (sg 0)), (4, .ref (so 0))] 0 []
  have B_114 : ∀ (K_9 : (Nat → Int32) → (Nat → Int32) → (Nat → Int32) → Int32 → Int32 → Int32 → (Nat → Int32) → (Nat → Int32) → Int32 → (Nat → Int32) → (Nat → Int32) → Int32 → Int32 → Int32 → (Nat → Int32) → (Nat → Int32) → Int32 → Int32 → Int32 → Prop) (hK_9 : ∀ (se_marks_2 : Nat → Int32) (sg_votes_3 : Nat → Int32) (sg_rows_4 : Nat → Int32) (sg_now_5 : Int32) (sg_forced_6 : Int32) (sg_barred_7 : Int32) (sg_mayActs_8 : Nat → Int32) (sg_mayEnds_9 : Nat → Int32) (sg_mays_10 : Int32) (so_votes_11 : Nat → Int32) (so_rows_12 : Nat → Int32) (so_now_13 : Int32) (so_forced_14 : Int32) (so_barred_15 : Int32) (so_mayActs_16 : Nat → Int32) (so_mayEnds_17 : Nat → Int32) (so_mays_18 : Int32) (x2_19 : Int32) (x5_20 : Int32), K_9 se_marks_2 sg_votes_3 sg_rows_4 sg_now_5 sg_forced_6 sg_barred_7 sg_mayActs_8 sg_mayEnds_9 sg_mays_10 so_votes_11 so_rows_12 so_now_13 so_forced_14 so_barred_15 so_mayActs_16 so_mayEnds_17 so_mays_18 x2_19 x5_20 → VV Γ (W_se cI se se_order se_from se_marks_2 se_cameBy se_runs se_length se_within ++ W_sg cI sg (lw 0) sg_ownVotes sg_votes_3 sg_rows_4 sg_groups sg_bars sg_now_5 sg_forced_6 sg_barred_7 sg_mayActs_8 sg_mayEnds_9 sg_mays_10 ++ W_sg cI so (lw 0) so_ownVotes so_votes_11 so_rows_12 so_groups so_bars so_now_13 so_forced_14 so_barred_15 so_mayActs_16 so_mayEnds_17 so_mays_18 ++ W_lw cI lw lw_told lw_parts lw_hangMasks lw_hangValues lw_ownSeats) [(0, .ref (se 0)), (2, .int x2_19), (3, .ref (sg 0)), (4, .ref (so 0)), (5, .int x5_20)] 9 []) (K_56 : (Nat → Int32) → (Nat → Int32) → (Nat → Int32) → Int32 → Int32 → Int32 → (Nat → Int32) → (Nat → Int32) → Int32 → (Nat → Int32) → (Nat → Int32) → Int32 → Int32 → Int32 → (Nat → Int32) → (Nat → Int32) → Int32 → Int32 → Int32 → Int32 → Int32 → Prop) (hK_56 : ∀ (se_marks_24 : Nat → Int32) (sg_votes_25 : Nat → Int32) (sg_rows_26 : Nat → Int32) (sg_now_27 : Int32) (sg_forced_28 : Int32) (sg_barred_29 : Int32) (sg_mayActs_30 : Nat → Int32) (sg_mayEnds_31 : Nat → Int32) (sg_mays_32 : Int32) (so_votes_33 : Nat → Int32) (so_rows_34 : Nat → Int32) (so_now_35 : Int32) (so_forced_36 : Int32) (so_barred_37 : Int32) (so_mayActs_38 : Nat → Int32) (so_mayEnds_39 : Nat → Int32) (so_mays_40 : Int32) (x2_41 : Int32) (x5_42 : Int32) (x7_43 : Int32) (x8_44 : Int32), K_56 se_marks_24 sg_votes_25 sg_rows_26 sg_now_27 sg_forced_28 sg_barred_29 sg_mayActs_30 sg_mayEnds_31 sg_mays_32 so_votes_33 so_rows_34 so_now_35 so_forced_36 so_barred_37 so_mayActs_38 so_mayEnds_39 so_mays_40 x2_41 x5_42 x7_43 x8_44 → VV Γ (W_se cI se se_order se_from se_marks_24 se_cameBy se_runs se_length se_within ++ W_sg cI sg (lw 0) sg_ownVotes sg_votes_25 sg_rows_26 sg_groups sg_bars sg_now_27 sg_forced_28 sg_barred_29 sg_mayActs_30 sg_mayEnds_31 sg_mays_32 ++ W_sg cI so (lw 0) so_ownVotes so_votes_33 so_rows_34 so_groups so_bars so_now_35 so_forced_36 so_barred_37 so_mayActs_38 so_mayEnds_39 so_mays_40 ++ W_lw cI lw lw_told lw_parts lw_hangMasks lw_hangValues lw_ownSeats) [(0, .ref (se 0)), (2, .int x2_41), (3, .ref (sg 0)), (4, .ref (so 0)), (5, .int x5_42), (7, .int x7_43), (8, .int x8_44)] 56 []) (se_marks_59 : Nat → Int32) (sg_votes_60 : Nat → Int32) (sg_rows_61 : Nat → Int32) (sg_now_62 : Int32) (sg_forced_63 : Int32) (sg_barred_64 : Int32) (sg_mayActs_65 : Nat → Int32) (sg_mayEnds_66 : Nat → Int32) (sg_mays_67 : Int32) (so_votes_68 : Nat → Int32) (so_rows_69 : Nat → Int32) (so_now_70 : Int32) (so_forced_71 : Int32) (so_barred_72 : Int32) (so_mayActs_73 : Nat → Int32) (so_mayEnds_74 : Nat → Int32) (so_mays_75 : Int32) (x2_76 : Int32) (x5_77 : Int32) (x7_78 : Int32) (x8_79 : Int32) (s0_80 : Int32), wpJ_X3_markSure_114 se_order se_length se_within sg_ownVotes sg_groups sg_bars so_ownVotes so_groups so_bars lw_told lw_parts lw_hangMasks lw_hangValues K_9 K_56 post se_marks_59 sg_votes_60 sg_rows_61 sg_now_62 sg_forced_63 sg_barred_64 sg_mayActs_65 sg_mayEnds_66 sg_mays_67 so_votes_68 so_rows_69 so_now_70 so_forced_71 so_barred_72 so_mayActs_73 so_mayEnds_74 so_mays_75 x2_76 x5_77 x7_78 x8_79 s0_80 → VV Γ (W_se cI se se_order se_from se_marks_59 se_cameBy se_runs se_length se_within ++ W_sg cI sg (lw 0) sg_ownVotes sg_votes_60 sg_rows_61 sg_groups sg_bars sg_now_62 sg_forced_63 sg_barred_64 sg_mayActs_65 sg_mayEnds_66 sg_mays_67 ++ W_sg cI so (lw 0) so_ownVotes so_votes_68 so_rows_69 so_groups so_bars so_now_70 so_forced_71 so_barred_72 so_mayActs_73 so_mayEnds_74 so_mays_75 ++ W_lw cI lw lw_told lw_parts lw_hangMasks lw_hangValues lw_ownSeats) [(0, .ref (se 0)), (2, .int x2_76), (3, .ref (sg 0)), (4, .ref (so 0)), (5, .int x5_77), (7, .int x7_78), (8, .int x8_79)] 114 [.int s0_80] := by
    intro K_9 hK_9 K_56 hK_56 se_marks_59 sg_votes_60 sg_rows_61 sg_now_62 sg_forced_63 sg_barred_64 sg_mayActs_65 sg_mayEnds_66 sg_mays_67 so_votes_68 so_rows_69 so_now_70 so_forced_71 so_barred_72 so_mayActs_73 so_mayEnds_74 so_mays_75 x2_76 x5_77 x7_78 x8_79 s0_80 hm
    unfold wpJ_X3_markSure_114 at hm
    refine x_istore hC [(0, .ref (se 0)), (2, .int x2_76), (3, .ref (sg 0)), (4, .ref (so 0)), (5, .int x5_77), (7, .int x7_78), (8, .int x8_79), (9, .int s0_80)] [1, 2, 3, 4, 5, 6, 7, 0] dX3_markSure_114 (by decide) rfl ?_
    refine x_iload hC 7 dX3_markSure_116 rfl ?_
    refine x_if_eq hC 134 dX3_markSure_118 (by decide) (fun c_81 => ?_) (fun c_81 => ?_)
    · replace hm := hm.1 c_81
      obtain ⟨x8_82, ex8_82⟩ : ∃ y : Int32, y = x8_79 + (1 : Int32) := ⟨_, rfl⟩
      replace hm := hm x8_82 ex8_82
      refine x_iinc hC 6 x8_82 [(0, .ref (se 0)), (2, .int x2_76), (3, .ref (sg 0)), (4, .ref (so 0)), (5, .int x5_77), (7, .int x7_78), (8, .int x8_82), (9, .int s0_80)] [1, 2, 3, 4, 5, 6, 0, 7] dX3_markSure_134 rfl (by rw [ex8_82]; rfl) (by decide) rfl ?_
      refine x_goto hC 56 dX3_markSure_137 (by decide) ?_
      refine x_lsub [0, 1, 2, 3, 4, 5, 6] rfl ?_
      exact hK_56 se_marks_59 sg_votes_60 sg_rows_61 sg_now_62 sg_forced_63 sg_barred_64 sg_mayActs_65 sg_mayEnds_66 sg_mays_67 so_votes_68 so_rows_69 so_now_70 so_forced_71 so_barred_72 so_mayActs_73 so_mayEnds_74 so_mays_75 x2_76 x5_77 x7_78 x8_82 hm
    · replace hm := hm.2 c_81
      refine x_aload_n hC 0 dX3_markSure_121 rfl ?_
      refine x_aload_n hC 0 dX3_markSure_122 rfl ?_
      refine x_get hC 1 inX3g 0 rfl rfl 0 (by decide) fl_X3_11 rfl dX3_markSure_123 ?_
      refine x_iload hC 6 dX3_markSure_126 rfl ?_
      refine x_iald hC 1 rfl hm.1 dX3_markSure_128 ?_
      replace hm := hm.2
      refine x_iload hC 4 dX3_markSure_129 rfl ?_
      refine x_callVv hC _ [0, 1, 2, 3, 4, 5] [6, 7, 8, 9, 10, 11, 12, 13, 14, 15, 16, 17, 18, 19, 20, 21, 22, 23] [18, 19, 20, 21, 22, 23, 0, 1, 2, 3, 4, 5, 6, 7, 8, 9, 10, 11, 12, 13, 14, 15, 16, 17] (W_sg cI sg (lw 0) sg_ownVotes sg_votes_60 sg_rows_61 sg_groups sg_bars sg_now_62 sg_forced_63 sg_barred_64 sg_mayActs_65 sg_mayEnds_66 sg_mays_67 ++ W_sg cI so (lw 0) so_ownVotes so_votes_68 so_rows_69 so_groups so_bars so_now_70 so_forced_71 so_barred_72 so_mayActs_73 so_mayEnds_74 so_mays_75 ++ W_lw cI lw lw_told lw_parts lw_hangMasks lw_hangValues lw_ownSeats) (fun u => W_se cI se se_order se_from u se_cameBy se_runs se_length se_within ++ W_sg cI sg (lw 0) sg_ownVotes sg_votes_60 sg_rows_61 sg_groups sg_bars sg_now_62 sg_forced_63 sg_barred_64 sg_mayActs_65 sg_mayEnds_66 sg_mays_67 ++ W_sg cI so (lw 0) so_ownVotes so_votes_68 so_rows_69 so_groups so_bars so_now_70 so_forced_71 so_barred_72 so_mayActs_73 so_mayEnds_74 so_mays_75 ++ W_lw cI lw lw_told lw_parts lw_hangMasks lw_hangValues lw_ownSeats) ok_X3_mark ml_X3_97 0 1 (c_X3_mark (gl Γ) (gD Γ) cI cZ se se_order se_from se_marks_59 se_cameBy se_runs se_length se_within (se_order x8_79.toNatClampNeg) x5_77 _ hm) (by decide) (by decide) rfl (Nat.le_of_ble_eq_true rfl) rfl rfl rfl rfl (by decide) rfl (fun _ => rfl) rfl rfl rfl rfl dX3_markSure_131 ?_
      rintro se_marks_83 hm
      obtain ⟨x8_84, ex8_84⟩ : ∃ y : Int32, y = x8_79 + (1 : Int32) := ⟨_, rfl⟩
      replace hm := hm x8_84 ex8_84
      refine x_iinc hC 6 x8_84 [(0, .ref (se 0)), (2, .int x2_76), (3, .ref (sg 0)), (4, .ref (so 0)), (5, .int x5_77), (7, .int x7_78), (8, .int x8_84), (9, .int s0_80)] [1, 2, 3, 4, 5, 6, 0, 7] dX3_markSure_134 rfl (by rw [ex8_84]; rfl) (by decide) rfl ?_
      refine x_goto hC 56 dX3_markSure_137 (by decide) ?_
      refine x_lsub [0, 1, 2, 3, 4, 5, 6] rfl ?_
      exact hK_56 se_marks_83 sg_votes_60 sg_rows_61 sg_now_62 sg_forced_63 sg_barred_64 sg_mayActs_65 sg_mayEnds_66 sg_mays_67 so_votes_68 so_rows_69 so_now_70 so_forced_71 so_barred_72 so_mayActs_73 so_mayEnds_74 so_mays_75 x2_76 x5_77 x7_78 x8_84 hm
  have B_56 : ∀ (K_9 : (Nat → Int32) → (Nat → Int32) → (Nat → Int32) → Int32 → Int32 → Int32 → (Nat → Int32) → (Nat → Int32) → Int32 → (Nat → Int32) → (Nat → Int32) → Int32 → Int32 → Int32 → (Nat → Int32) → (Nat → Int32) → Int32 → Int32 → Int32 → Prop) (hK_9 : ∀ (se_marks_2 : Nat → Int32) (sg_votes_3 : Nat → Int32) (sg_rows_4 : Nat → Int32) (sg_now_5 : Int32) (sg_forced_6 : Int32) (sg_barred_7 : Int32) (sg_mayActs_8 : Nat → Int32) (sg_mayEnds_9 : Nat → Int32) (sg_mays_10 : Int32) (so_votes_11 : Nat → Int32) (so_rows_12 : Nat → Int32) (so_now_13 : Int32) (so_forced_14 : Int32) (so_barred_15 : Int32) (so_mayActs_16 : Nat → Int32) (so_mayEnds_17 : Nat → Int32) (so_mays_18 : Int32) (x2_19 : Int32) (x5_20 : Int32), K_9 se_marks_2 sg_votes_3 sg_rows_4 sg_now_5 sg_forced_6 sg_barred_7 sg_mayActs_8 sg_mayEnds_9 sg_mays_10 so_votes_11 so_rows_12 so_now_13 so_forced_14 so_barred_15 so_mayActs_16 so_mayEnds_17 so_mays_18 x2_19 x5_20 → VV Γ (W_se cI se se_order se_from se_marks_2 se_cameBy se_runs se_length se_within ++ W_sg cI sg (lw 0) sg_ownVotes sg_votes_3 sg_rows_4 sg_groups sg_bars sg_now_5 sg_forced_6 sg_barred_7 sg_mayActs_8 sg_mayEnds_9 sg_mays_10 ++ W_sg cI so (lw 0) so_ownVotes so_votes_11 so_rows_12 so_groups so_bars so_now_13 so_forced_14 so_barred_15 so_mayActs_16 so_mayEnds_17 so_mays_18 ++ W_lw cI lw lw_told lw_parts lw_hangMasks lw_hangValues lw_ownSeats) [(0, .ref (se 0)), (2, .int x2_19), (3, .ref (sg 0)), (4, .ref (so 0)), (5, .int x5_20)] 9 []) (n : Nat) (se_marks_24 : Nat → Int32) (sg_votes_25 : Nat → Int32) (sg_rows_26 : Nat → Int32) (sg_now_27 : Int32) (sg_forced_28 : Int32) (sg_barred_29 : Int32) (sg_mayActs_30 : Nat → Int32) (sg_mayEnds_31 : Nat → Int32) (sg_mays_32 : Int32) (so_votes_33 : Nat → Int32) (so_rows_34 : Nat → Int32) (so_now_35 : Int32) (so_forced_36 : Int32) (so_barred_37 : Int32) (so_mayActs_38 : Nat → Int32) (so_mayEnds_39 : Nat → Int32) (so_mays_40 : Int32) (x2_41 : Int32) (x5_42 : Int32) (x7_43 : Int32) (x8_44 : Int32), wpL_X3_markSure_56 se_order se_length se_within sg_ownVotes sg_groups sg_bars so_ownVotes so_groups so_bars lw_told lw_parts lw_hangMasks lw_hangValues K_9 post n se_marks_24 sg_votes_25 sg_rows_26 sg_now_27 sg_forced_28 sg_barred_29 sg_mayActs_30 sg_mayEnds_31 sg_mays_32 so_votes_33 so_rows_34 so_now_35 so_forced_36 so_barred_37 so_mayActs_38 so_mayEnds_39 so_mays_40 x2_41 x5_42 x7_43 x8_44 → VV Γ (W_se cI se se_order se_from se_marks_24 se_cameBy se_runs se_length se_within ++ W_sg cI sg (lw 0) sg_ownVotes sg_votes_25 sg_rows_26 sg_groups sg_bars sg_now_27 sg_forced_28 sg_barred_29 sg_mayActs_30 sg_mayEnds_31 sg_mays_32 ++ W_sg cI so (lw 0) so_ownVotes so_votes_33 so_rows_34 so_groups so_bars so_now_35 so_forced_36 so_barred_37 so_mayActs_38 so_mayEnds_39 so_mays_40 ++ W_lw cI lw lw_told lw_parts lw_hangMasks lw_hangValues lw_ownSeats) [(0, .ref (se 0)), (2, .int x2_41), (3, .ref (sg 0)), (4, .ref (so 0)), (5, .int x5_42), (7, .int x7_43), (8, .int x8_44)] 56 [] := by
    intro K_9 hK_9 n
    induction n with
    | zero => intro se_marks_24 sg_votes_25 sg_rows_26 sg_now_27 sg_forced_28 sg_barred_29 sg_mayActs_30 sg_mayEnds_31 sg_mays_32 so_votes_33 so_rows_34 so_now_35 so_forced_36 so_barred_37 so_mayActs_38 so_mayEnds_39 so_mays_40 x2_41 x5_42 x7_43 x8_44 hm; rw [wpL_X3_markSure_56] at hm; exact hm.elim
    | succ n ih =>
      intro se_marks_24 sg_votes_25 sg_rows_26 sg_now_27 sg_forced_28 sg_barred_29 sg_mayActs_30 sg_mayEnds_31 sg_mays_32 so_votes_33 so_rows_34 so_now_35 so_forced_36 so_barred_37 so_mayActs_38 so_mayEnds_39 so_mays_40 x2_41 x5_42 x7_43 x8_44 hm
      rw [wpL_X3_markSure_56] at hm
      refine x_iload hC 6 dX3_markSure_56 rfl ?_
      refine x_iload hC 5 dX3_markSure_58 rfl ?_
      refine x_icmp_ge hC 140 dX3_markSure_60 (by decide) (fun c_45 => ?_) (fun c_45 => ?_)
      · replace hm := hm.1 c_45
        obtain ⟨x5_46, ex5_46⟩ : ∃ y : Int32, y = x5_42 + (1 : Int32) := ⟨_, rfl⟩
        replace hm := hm x5_46 ex5_46
        refine x_iinc hC 4 x5_46 [(0, .ref (se 0)), (2, .int x2_41), (3, .ref (sg 0)), (4, .ref (so 0)), (5, .int x5_46), (7, .int x7_43), (8, .int x8_44)] [1, 2, 3, 4, 0, 5, 6] dX3_markSure_140 rfl (by rw [ex5_46]; rfl) (by decide) rfl ?_
        refine x_goto hC 9 dX3_markSure_143 (by decide) ?_
        refine x_lsub [0, 1, 2, 3, 4] rfl ?_
        exact hK_9 se_marks_24 sg_votes_25 sg_rows_26 sg_now_27 sg_forced_28 sg_barred_29 sg_mayActs_30 sg_mayEnds_31 sg_mays_32 so_votes_33 so_rows_34 so_now_35 so_forced_36 so_barred_37 so_mayActs_38 so_mayEnds_39 so_mays_40 x2_41 x5_46 hm
      · replace hm := hm.2 c_45
        refine x_iload hC 6 dX3_markSure_63 rfl ?_
        refine x_sipush hC (16384 : Int32) dX3_markSure_65 (by decide) ?_
        refine x_icmp_ge hC 140 dX3_markSure_68 (by decide) (fun c_47 => ?_) (fun c_47 => ?_)
        · replace hm := hm.1 c_47
          obtain ⟨x5_48, ex5_48⟩ : ∃ y : Int32, y = x5_42 + (1 : Int32) := ⟨_, rfl⟩
          replace hm := hm x5_48 ex5_48
          refine x_iinc hC 4 x5_48 [(0, .ref (se 0)), (2, .int x2_41), (3, .ref (sg 0)), (4, .ref (so 0)), (5, .int x5_48), (7, .int x7_43), (8, .int x8_44)] [1, 2, 3, 4, 0, 5, 6] dX3_markSure_140 rfl (by rw [ex5_48]; rfl) (by decide) rfl ?_
          refine x_goto hC 9 dX3_markSure_143 (by decide) ?_
          refine x_lsub [0, 1, 2, 3, 4] rfl ?_
          exact hK_9 se_marks_24 sg_votes_25 sg_rows_26 sg_now_27 sg_forced_28 sg_barred_29 sg_mayActs_30 sg_mayEnds_31 sg_mays_32 so_votes_33 so_rows_34 so_now_35 so_forced_36 so_barred_37 so_mayActs_38 so_mayEnds_39 so_mays_40 x2_41 x5_48 hm
        · replace hm := hm.2 c_47
          refine x_iload hC 4 dX3_markSure_71 rfl ?_
          refine x_iconst hC (2 : Int32) dX3_markSure_73 (by decide) ?_
          refine x_irem hC dX3_markSure_74 (by decide) ?_
          refine x_if_ne hC 97 dX3_markSure_75 (by decide) (fun c_49 => ?_) (fun c_49 => ?_)
          · replace hm := hm.1 c_49
            refine x_aload_n hC 0 dX3_markSure_97 rfl ?_
            refine x_aload_n hC 0 dX3_markSure_98 rfl ?_
            refine x_get hC 1 inX3g 0 rfl rfl 0 (by decide) fl_X3_11 rfl dX3_markSure_99 ?_
            refine x_iload hC 6 dX3_markSure_102 rfl ?_
            refine x_iald hC 1 rfl hm.1 dX3_markSure_104 ?_
            replace hm := hm.2
            refine x_iload hC 4 dX3_markSure_105 rfl ?_
            refine x_iconst hC (1 : Int32) dX3_markSure_107 (by decide) ?_
            refine x_isub hC dX3_markSure_108 ?_
            refine x_aload hC 3 dX3_markSure_109 rfl ?_
            refine x_callVi hC _ [0, 1, 2, 3, 4, 5, 12, 13, 14, 15, 16, 17, 18, 19, 20, 21, 22, 23] [6, 7, 8, 9, 10, 11] [6, 7, 8, 9, 10, 11, 0, 1, 2, 3, 4, 5, 12, 13, 14, 15, 16, 17, 18, 19, 20, 21, 22, 23] (W_sg cI sg (lw 0) sg_ownVotes sg_votes_25 sg_rows_26 sg_groups sg_bars sg_now_27 sg_forced_28 sg_barred_29 sg_mayActs_30 sg_mayEnds_31 sg_mays_32) (fun u => W_se cI se se_order se_from se_marks_24 se_cameBy se_runs se_length se_within ++ W_sg cI sg (lw 0) sg_ownVotes sg_votes_25 sg_rows_26 sg_groups sg_bars sg_now_27 sg_forced_28 sg_barred_29 sg_mayActs_30 sg_mayEnds_31 sg_mays_32 ++ W_sg cI so (lw 0) so_ownVotes (u.1) (u.2.1) so_groups so_bars (u.2.2.1) (u.2.2.2.1) (u.2.2.2.2.1) (u.2.2.2.2.2.1) (u.2.2.2.2.2.2.1) (u.2.2.2.2.2.2.2) ++ W_lw cI lw lw_told lw_parts lw_hangMasks lw_hangValues lw_ownSeats) ok_X3_mustGo ml_X3_104 0 1 (c_X3_mustGo (gl Γ) (gD Γ) cI cZ se so lw se_order se_from se_marks_24 se_cameBy se_runs se_length se_within so_ownVotes so_votes_33 so_rows_34 so_groups so_bars so_now_35 so_forced_36 so_barred_37 so_mayActs_38 so_mayEnds_39 so_mays_40 lw_told lw_parts lw_hangMasks lw_hangValues lw_ownSeats (se_order x8_44.toNatClampNeg) (x5_42 - ((1 : Int32))) _ hm) (by decide) (by decide) rfl (Nat.le_of_ble_eq_true rfl) rfl rfl rfl rfl (by decide) rfl (fun _ => rfl) rfl rfl rfl rfl dX3_markSure_111 ?_
            rintro r_58 ⟨so_votes_50, so_rows_51, so_now_52, so_forced_53, so_barred_54, so_mayActs_55, so_mayEnds_56, so_mays_57⟩ hm
            exact B_114 K_9 hK_9 (fun y0 y1 y2 y3 y4 y5 y6 y7 y8 y9 y10 y11 y12 y13 y14 y15 y16 y17 y18 y19 y20 => wpL_X3_markSure_56 se_order se_length se_within sg_ownVotes sg_groups sg_bars so_ownVotes so_groups so_bars lw_told lw_parts lw_hangMasks lw_hangValues K_9 post n y0 y1 y2 y3 y4 y5 y6 y7 y8 y9 y10 y11 y12 y13 y14 y15 y16 y17 y18 y19 y20) ih  se_marks_24 sg_votes_25 sg_rows_26 sg_now_27 sg_forced_28 sg_barred_29 sg_mayActs_30 sg_mayEnds_31 sg_mays_32 so_votes_50 so_rows_51 so_now_52 so_forced_53 so_barred_54 so_mayActs_55 so_mayEnds_56 so_mays_57 x2_41 x5_42 x7_43 x8_44 r_58 hm
          · replace hm := hm.2 c_49
            refine x_aload_n hC 0 dX3_markSure_78 rfl ?_
            refine x_aload_n hC 0 dX3_markSure_79 rfl ?_
            refine x_get hC 1 inX3g 0 rfl rfl 0 (by decide) fl_X3_11 rfl dX3_markSure_80 ?_
            refine x_iload hC 6 dX3_markSure_83 rfl ?_
            refine x_iald hC 1 rfl hm.1 dX3_markSure_85 ?_
            replace hm := hm.2
            refine x_iload hC 4 dX3_markSure_86 rfl ?_
            refine x_iconst hC (1 : Int32) dX3_markSure_88 (by decide) ?_
            refine x_isub hC dX3_markSure_89 ?_
            refine x_aload_n hC 2 dX3_markSure_90 rfl ?_
            refine x_callVi hC _ [0, 1, 2, 3, 4, 5, 6, 7, 8, 9, 10, 11, 18, 19, 20, 21, 22, 23] [12, 13, 14, 15, 16, 17] [6, 7, 8, 9, 10, 11, 12, 13, 14, 15, 16, 17, 0, 1, 2, 3, 4, 5, 18, 19, 20, 21, 22, 23] (W_sg cI so (lw 0) so_ownVotes so_votes_33 so_rows_34 so_groups so_bars so_now_35 so_forced_36 so_barred_37 so_mayActs_38 so_mayEnds_39 so_mays_40) (fun u => W_se cI se se_order se_from se_marks_24 se_cameBy se_runs se_length se_within ++ W_sg cI sg (lw 0) sg_ownVotes (u.1) (u.2.1) sg_groups sg_bars (u.2.2.1) (u.2.2.2.1) (u.2.2.2.2.1) (u.2.2.2.2.2.1) (u.2.2.2.2.2.2.1) (u.2.2.2.2.2.2.2) ++ W_sg cI so (lw 0) so_ownVotes so_votes_33 so_rows_34 so_groups so_bars so_now_35 so_forced_36 so_barred_37 so_mayActs_38 so_mayEnds_39 so_mays_40 ++ W_lw cI lw lw_told lw_parts lw_hangMasks lw_hangValues lw_ownSeats) ok_X3_canGo ml_X3_100 0 1 (c_X3_canGo (gl Γ) (gD Γ) cI cZ se sg lw se_order se_from se_marks_24 se_cameBy se_runs se_length se_within sg_ownVotes sg_votes_25 sg_rows_26 sg_groups sg_bars sg_now_27 sg_forced_28 sg_barred_29 sg_mayActs_30 sg_mayEnds_31 sg_mays_32 lw_told lw_parts lw_hangMasks lw_hangValues lw_ownSeats (se_order x8_44.toNatClampNeg) (x5_42 - ((1 : Int32))) _ hm) (by decide) (by decide) rfl (Nat.le_of_ble_eq_true rfl) rfl rfl rfl rfl (by decide) rfl (fun _ => rfl) rfl rfl rfl rfl dX3_markSure_91 ?_
            rintro r_93 ⟨sg_votes_85, sg_rows_86, sg_now_87, sg_forced_88, sg_barred_89, sg_mayActs_90, sg_mayEnds_91, sg_mays_92⟩ hm
            refine x_goto hC 114 dX3_markSure_94 (by decide) ?_
            exact B_114 K_9 hK_9 (fun y0 y1 y2 y3 y4 y5 y6 y7 y8 y9 y10 y11 y12 y13 y14 y15 y16 y17 y18 y19 y20 => wpL_X3_markSure_56 se_order se_length se_within sg_ownVotes sg_groups sg_bars so_ownVotes so_groups so_bars lw_told lw_parts lw_hangMasks lw_hangValues K_9 post n y0 y1 y2 y3 y4 y5 y6 y7 y8 y9 y10 y11 y12 y13 y14 y15 y16 y17 y18 y19 y20) ih  se_marks_24 sg_votes_85 sg_rows_86 sg_now_87 sg_forced_88 sg_barred_89 sg_mayActs_90 sg_mayEnds_91 sg_mays_92 so_votes_33 so_rows_34 so_now_35 so_forced_36 so_barred_37 so_mayActs_38 so_mayEnds_39 so_mays_40 x2_41 x5_42 x7_43 x8_44 r_93 hm
  have B_9 : ∀ (n : Nat) (se_marks_2 : Nat → Int32) (sg_votes_3 : Nat → Int32) (sg_rows_4 : Nat → Int32) (sg_now_5 : Int32) (sg_forced_6 : Int32) (sg_barred_7 : Int32) (sg_mayActs_8 : Nat → Int32) (sg_mayEnds_9 : Nat → Int32) (sg_mays_10 : Int32) (so_votes_11 : Nat → Int32) (so_rows_12 : Nat → Int32) (so_now_13 : Int32) (so_forced_14 : Int32) (so_barred_15 : Int32) (so_mayActs_16 : Nat → Int32) (so_mayEnds_17 : Nat → Int32) (so_mays_18 : Int32) (x2_19 : Int32) (x5_20 : Int32), wpL_X3_markSure_9 se_order se_length se_within sg_ownVotes sg_groups sg_bars so_ownVotes so_groups so_bars lw_told lw_parts lw_hangMasks lw_hangValues  post n se_marks_2 sg_votes_3 sg_rows_4 sg_now_5 sg_forced_6 sg_barred_7 sg_mayActs_8 sg_mayEnds_9 sg_mays_10 so_votes_11 so_rows_12 so_now_13 so_forced_14 so_barred_15 so_mayActs_16 so_mayEnds_17 so_mays_18 x2_19 x5_20 → VV Γ (W_se cI se se_order se_from se_marks_2 se_cameBy se_runs se_length se_within ++ W_sg cI sg (lw 0) sg_ownVotes sg_votes_3 sg_rows_4 sg_groups sg_bars sg_now_5 sg_forced_6 sg_barred_7 sg_mayActs_8 sg_mayEnds_9 sg_mays_10 ++ W_sg cI so (lw 0) so_ownVotes so_votes_11 so_rows_12 so_groups so_bars so_now_13 so_forced_14 so_barred_15 so_mayActs_16 so_mayEnds_17 so_mays_18 ++ W_lw cI lw lw_told lw_parts lw_hangMasks lw_hangValues lw_ownSeats) [(0, .ref (se 0)), (2, .int x2_19), (3, .ref (sg 0)), (4, .ref (so 0)), (5, .int x5_20)] 9 [] := by
    intro  n
    induction n with
    | zero => intro se_marks_2 sg_votes_3 sg_rows_4 sg_now_5 sg_forced_6 sg_barred_7 sg_mayActs_8 sg_mayEnds_9 sg_mays_10 so_votes_11 so_rows_12 so_now_13 so_forced_14 so_barred_15 so_mayActs_16 so_mayEnds_17 so_mays_18 x2_19 x5_20 hm; rw [wpL_X3_markSure_9] at hm; exact hm.elim
    | succ n ih =>
      intro se_marks_2 sg_votes_3 sg_rows_4 sg_now_5 sg_forced_6 sg_barred_7 sg_mayActs_8 sg_mayEnds_9 sg_mays_10 so_votes_11 so_rows_12 so_now_13 so_forced_14 so_barred_15 so_mayActs_16 so_mayEnds_17 so_mays_18 x2_19 x5_20 hm
      rw [wpL_X3_markSure_9] at hm
      refine x_iload hC 4 dX3_markSure_9 rfl ?_
      refine x_iconst hC (2 : Int32) dX3_markSure_11 (by decide) ?_
      refine x_iload_n hC 1 dX3_markSure_12 rfl ?_
      refine x_imul hC dX3_markSure_13 ?_
      refine x_icmp_gt hC 146 dX3_markSure_14 (by decide) (fun c_21 => ?_) (fun c_21 => ?_)
      · replace hm := hm.1 c_21
        exact hR (se_marks_2, sg_votes_3, sg_rows_4, sg_now_5, sg_forced_6, sg_barred_7, sg_mayActs_8, sg_mayEnds_9, sg_mays_10, so_votes_11, so_rows_12, so_now_13, so_forced_14, so_barred_15, so_mayActs_16, so_mayEnds_17, so_mays_18) [(0, .ref (se 0)), (2, .int x2_19), (3, .ref (sg 0)), (4, .ref (so 0)), (5, .int x5_20)] 146 hm dX3_markSure_146
      · replace hm := hm.2 c_21
        refine x_iconst hC (2 : Int32) dX3_markSure_17 (by decide) ?_
        refine x_iload_n hC 1 dX3_markSure_18 rfl ?_
        refine x_imul hC dX3_markSure_19 ?_
        refine x_iload hC 4 dX3_markSure_20 rfl ?_
        refine x_isub hC dX3_markSure_22 ?_
        refine x_top (fun x6_22 ex6_22 => ?_)
        replace hm := hm x6_22 ex6_22
        refine x_istore hC [(0, .ref (se 0)), (2, .int x2_19), (3, .ref (sg 0)), (4, .ref (so 0)), (5, .int x5_20), (6, .int x6_22)] [1, 2, 3, 4, 5, 0] dX3_markSure_23 (by decide) rfl ?_
        refine x_iload hC 5 dX3_markSure_25 rfl ?_
        refine x_if_lt hC 50 dX3_markSure_27 (by decide) (fun c_23 => ?_) (fun c_23 => ?_)
        · replace hm := hm.1 c_23
          refine x_iconst hC (0 : Int32) dX3_markSure_50 (by decide) ?_
          refine x_istore hC [(0, .ref (se 0)), (2, .int x2_19), (3, .ref (sg 0)), (4, .ref (so 0)), (5, .int x5_20), (6, .int x6_22), (7, .int ((0 : Int32)))] [1, 2, 3, 4, 5, 6, 0] dX3_markSure_51 (by decide) rfl ?_
          refine x_iconst hC (0 : Int32) dX3_markSure_53 (by decide) ?_
          refine x_istore hC [(0, .ref (se 0)), (2, .int x2_19), (3, .ref (sg 0)), (4, .ref (so 0)), (5, .int x5_20), (6, .int x6_22), (7, .int ((0 : Int32))), (8, .int ((0 : Int32)))] [1, 2, 3, 4, 5, 6, 7, 0] dX3_markSure_54 (by decide) rfl ?_
          obtain ⟨n_94, hm⟩ := hm
          refine x_lsub [0, 1, 2, 3, 4, 6, 7] rfl ?_
          exact B_56 (fun y0 y1 y2 y3 y4 y5 y6 y7 y8 y9 y10 y11 y12 y13 y14 y15 y16 y17 y18 => wpL_X3_markSure_9 se_order se_length se_within sg_ownVotes sg_groups sg_bars so_ownVotes so_groups so_bars lw_told lw_parts lw_hangMasks lw_hangValues  post n y0 y1 y2 y3 y4 y5 y6 y7 y8 y9 y10 y11 y12 y13 y14 y15 y16 y17 y18) ih n_94 se_marks_2 sg_votes_3 sg_rows_4 sg_now_5 sg_forced_6 sg_barred_7 sg_mayActs_8 sg_mayEnds_9 sg_mays_10 so_votes_11 so_rows_12 so_now_13 so_forced_14 so_barred_15 so_mayActs_16 so_mayEnds_17 so_mays_18 x2_19 x5_20 ((0 : Int32)) ((0 : Int32)) hm
        · replace hm := hm.2 c_23
          refine x_iload hC 5 dX3_markSure_30 rfl ?_
          refine x_aload_n hC 0 dX3_markSure_32 rfl ?_
          refine x_get hC 1 inX3g 0 rfl rfl 6 (by decide) fl_X3_26 rfl dX3_markSure_33 ?_
          refine x_alen hC 5 rfl rfl dX3_markSure_36 ?_
          refine x_icmp_ge hC 50 dX3_markSure_37 (by decide) (fun c_95 => ?_) (fun c_95 => ?_)
          · replace hm := hm.1 c_95
            refine x_iconst hC (0 : Int32) dX3_markSure_50 (by decide) ?_
            refine x_istore hC [(0, .ref (se 0)), (2, .int x2_19), (3, .ref (sg 0)), (4, .ref (so 0)), (5, .int x5_20), (6, .int x6_22), (7, .int ((0 : Int32)))] [1, 2, 3, 4, 5, 6, 0] dX3_markSure_51 (by decide) rfl ?_
            refine x_iconst hC (0 : Int32) dX3_markSure_53 (by decide) ?_
            refine x_istore hC [(0, .ref (se 0)), (2, .int x2_19), (3, .ref (sg 0)), (4, .ref (so 0)), (5, .int x5_20), (6, .int x6_22), (7, .int ((0 : Int32))), (8, .int ((0 : Int32)))] [1, 2, 3, 4, 5, 6, 7, 0] dX3_markSure_54 (by decide) rfl ?_
            obtain ⟨n_96, hm⟩ := hm
            refine x_lsub [0, 1, 2, 3, 4, 6, 7] rfl ?_
            exact B_56 (fun y0 y1 y2 y3 y4 y5 y6 y7 y8 y9 y10 y11 y12 y13 y14 y15 y16 y17 y18 => wpL_X3_markSure_9 se_order se_length se_within sg_ownVotes sg_groups sg_bars so_ownVotes so_groups so_bars lw_told lw_parts lw_hangMasks lw_hangValues  post n y0 y1 y2 y3 y4 y5 y6 y7 y8 y9 y10 y11 y12 y13 y14 y15 y16 y17 y18) ih n_96 se_marks_2 sg_votes_3 sg_rows_4 sg_now_5 sg_forced_6 sg_barred_7 sg_mayActs_8 sg_mayEnds_9 sg_mays_10 so_votes_11 so_rows_12 so_now_13 so_forced_14 so_barred_15 so_mayActs_16 so_mayEnds_17 so_mays_18 x2_19 x5_20 ((0 : Int32)) ((0 : Int32)) hm
          · replace hm := hm.2 c_95
            refine x_aload_n hC 0 dX3_markSure_40 rfl ?_
            refine x_get hC 1 inX3g 0 rfl rfl 6 (by decide) fl_X3_26 rfl dX3_markSure_41 ?_
            refine x_iload hC 5 dX3_markSure_44 rfl ?_
            refine x_iald hC 5 rfl hm.1 dX3_markSure_46 ?_
            replace hm := hm.2
            refine x_goto hC 51 dX3_markSure_47 (by decide) ?_
            refine x_top (fun x7_97 ex7_97 => ?_)
            replace hm := hm x7_97 ex7_97
            refine x_istore hC [(0, .ref (se 0)), (2, .int x2_19), (3, .ref (sg 0)), (4, .ref (so 0)), (5, .int x5_20), (6, .int x6_22), (7, .int x7_97)] [1, 2, 3, 4, 5, 6, 0] dX3_markSure_51 (by decide) rfl ?_
            refine x_iconst hC (0 : Int32) dX3_markSure_53 (by decide) ?_
            refine x_istore hC [(0, .ref (se 0)), (2, .int x2_19), (3, .ref (sg 0)), (4, .ref (so 0)), (5, .int x5_20), (6, .int x6_22), (7, .int x7_97), (8, .int ((0 : Int32)))] [1, 2, 3, 4, 5, 6, 7, 0] dX3_markSure_54 (by decide) rfl ?_
            obtain ⟨n_98, hm⟩ := hm
            refine x_lsub [0, 1, 2, 3, 4, 6, 7] rfl ?_
            exact B_56 (fun y0 y1 y2 y3 y4 y5 y6 y7 y8 y9 y10 y11 y12 y13 y14 y15 y16 y17 y18 => wpL_X3_markSure_9 se_order se_length se_within sg_ownVotes sg_groups sg_bars so_ownVotes so_groups so_bars lw_told lw_parts lw_hangMasks lw_hangValues  post n y0 y1 y2 y3 y4 y5 y6 y7 y8 y9 y10 y11 y12 y13 y14 y15 y16 y17 y18) ih n_98 se_marks_2 sg_votes_3 sg_rows_4 sg_now_5 sg_forced_6 sg_barred_7 sg_mayActs_8 sg_mayEnds_9 sg_mays_10 so_votes_11 so_rows_12 so_now_13 so_forced_14 so_barred_15 so_mayActs_16 so_mayEnds_17 so_mays_18 x2_19 x5_20 x7_97 ((0 : Int32)) hm
  unfold wp_X3_markSure at hm
  refine x_aload_n hC 0 dX3_markSure_0 rfl ?_
  refine x_iload_n hC 1 dX3_markSure_1 rfl ?_
  refine x_iconst hC (1 : Int32) dX3_markSure_2 (by decide) ?_
  refine x_callVv hC _ [0, 1, 2, 3, 4, 5] [6, 7, 8, 9, 10, 11, 12, 13, 14, 15, 16, 17, 18, 19, 20, 21, 22, 23] [18, 19, 20, 21, 22, 23, 0, 1, 2, 3, 4, 5, 6, 7, 8, 9, 10, 11, 12, 13, 14, 15, 16, 17] (W_sg cI sg (lw 0) sg_ownVotes sg_votes sg_rows sg_groups sg_bars sg_now sg_forced sg_barred sg_mayActs sg_mayEnds sg_mays ++ W_sg cI so (lw 0) so_ownVotes so_votes so_rows so_groups so_bars so_now so_forced so_barred so_mayActs so_mayEnds so_mays ++ W_lw cI lw lw_told lw_parts lw_hangMasks lw_hangValues lw_ownSeats) (fun u => W_se cI se se_order se_from u se_cameBy se_runs se_length se_within ++ W_sg cI sg (lw 0) sg_ownVotes sg_votes sg_rows sg_groups sg_bars sg_now sg_forced sg_barred sg_mayActs sg_mayEnds sg_mays ++ W_sg cI so (lw 0) so_ownVotes so_votes so_rows so_groups so_bars so_now so_forced so_barred so_mayActs so_mayEnds so_mays ++ W_lw cI lw lw_told lw_parts lw_hangMasks lw_hangValues lw_ownSeats) ok_X3_markAll ml_X3_85 0 1 (c_X3_markAll (gl Γ) (gD Γ) cI cZ se se_order se_from se_marks se_cameBy se_runs se_length se_within p0 ((1 : Int32)) _ hm) (by decide) (by decide) rfl (Nat.le_of_ble_eq_true rfl) rfl rfl rfl rfl (by decide) rfl (fun _ => rfl) rfl rfl rfl rfl dX3_markSure_3 ?_
  rintro se_marks_1 hm
  refine x_iconst hC (1 : Int32) dX3_markSure_6 (by decide) ?_
  refine x_istore hC [(0, .ref (se 0)), (1, .int p0), (2, .int p1), (3, .ref (sg 0)), (4, .ref (so 0)), (5, .int ((1 : Int32)))] [1, 2, 3, 4, 5, 0] dX3_markSure_7 (by decide) rfl ?_
  obtain ⟨n_99, hm⟩ := hm
  refine x_lsub [0, 2, 3, 4, 5] rfl ?_
  exact B_9  n_99 se_marks_1 sg_votes sg_rows sg_now sg_forced sg_barred sg_mayActs sg_mayEnds sg_mays so_votes so_rows so_now so_forced so_barred so_mayActs so_mayEnds so_mays p1 ((1 : Int32)) hm

def wpL_X3_rowsOfThings_4 (se_order : Nat → Int32) (se_length : Int32)  (post : Int32 → Prop) : Nat → Int32 → Int32 → Prop
  | 0, _, _ => False
  | n + 1, x1_1, x2_2 => (se_length ≤ x2_2 → post x1_1 ) ∧ (¬ se_length ≤ x2_2 → (((16384 : Int32)) ≤ x2_2 → post x1_1 ) ∧ (¬ ((16384 : Int32)) ≤ x2_2 → vp_in x2_2 16384 ∧ (wp_X5_thingsOf  (se_order x2_2.toNatClampNeg) (fun (r_5 : Int32) => ∀ x1_6 : Int32, x1_6 = x1_1 ||| (((1 : Int32)) <<< (r_5 &&& 31)) → ∀ x2_7 : Int32, x2_7 = x2_2 + (1 : Int32) → (wpL_X3_rowsOfThings_4 se_order se_length  post n) x1_6 x2_7))))
def wp_X3_rowsOfThings (se_order : Nat → Int32) (se_length : Int32)  (post : Int32 → Prop) : Prop := ∃ k4, wpL_X3_rowsOfThings_4 se_order se_length  post k4 ((0 : Int32)) ((0 : Int32))
set_option maxHeartbeats 4000000 in
set_option maxRecDepth 100000 in
theorem c_X3_rowsOfThings (l : Launch) (D : va_G) (cI cZ : ClassId) (se : Nat → Nat) (se_order : Nat → Int32) (se_from : Nat → Int32) (se_marks : Nat → Int32) (se_cameBy : Nat → Int32) (se_runs : Int32) (se_length : Int32) (se_within : Nat → Int32)  (post : Int32 → Prop) (hm : wp_X3_rowsOfThings se_order se_length  post) : Mi l D cI cZ yX3_rowsOfThings cX3_rowsOfThings 3 .int 1 20 [.ref (se 0)] (W_se cI se se_order se_from se_marks se_cameBy se_runs se_length se_within) (S := Unit) (fun _ => W_se cI se se_order se_from se_marks se_cameBy se_runs se_length se_within) (fun r _ => post r ) := by
  refine mk_Mi (by decide +kernel) (Nat.le_of_ble_eq_true rfl) ?_
  intro Γ hl0 hD0 hC hR
  subst hl0
  subst hD0
  have hC : CX Γ cI cZ cX3_rowsOfThings RX3 3 1 20 := hC
  show VV Γ (W_se cI se se_order se_from se_marks se_cameBy se_runs se_length se_within) [(0, .ref (se 0))] 0 []
  have B_4 : ∀ (n : Nat) (x1_1 : Int32) (x2_2 : Int32), wpL_X3_rowsOfThings_4 se_order se_length  post n x1_1 x2_2 → VV Γ (W_se cI se se_order se_from se_marks se_cameBy se_runs se_length se_within) [(0, .ref (se 0)), (1, .int x1_1), (2, .int x2_2)] 4 [] := by
    intro  n
    induction n with
    | zero => intro x1_1 x2_2 hm; rw [wpL_X3_rowsOfThings_4] at hm; exact hm.elim
    | succ n ih =>
      intro x1_1 x2_2 hm
      rw [wpL_X3_rowsOfThings_4] at hm
      refine x_iload_n hC 2 dX3_rowsOfThings_4 rfl ?_
      refine x_aload_n hC 0 dX3_rowsOfThings_5 rfl ?_
      refine x_get hC 1 inX3g 0 rfl rfl 5 (by decide) fl_X3_29 rfl dX3_rowsOfThings_6 ?_
      refine x_icmp_ge hC 39 dX3_rowsOfThings_9 (by decide) (fun c_3 => ?_) (fun c_3 => ?_)
      · replace hm := hm.1 c_3
        refine x_iload_n hC 1 dX3_rowsOfThings_39 rfl ?_
        exact hR x1_1 () [(0, .ref (se 0)), (1, .int x1_1), (2, .int x2_2)] 40 hm rfl dX3_rowsOfThings_40
      · replace hm := hm.2 c_3
        refine x_iload_n hC 2 dX3_rowsOfThings_12 rfl ?_
        refine x_sipush hC (16384 : Int32) dX3_rowsOfThings_13 (by decide) ?_
        refine x_icmp_ge hC 39 dX3_rowsOfThings_16 (by decide) (fun c_4 => ?_) (fun c_4 => ?_)
        · replace hm := hm.1 c_4
          refine x_iload_n hC 1 dX3_rowsOfThings_39 rfl ?_
          exact hR x1_1 () [(0, .ref (se 0)), (1, .int x1_1), (2, .int x2_2)] 40 hm rfl dX3_rowsOfThings_40
        · replace hm := hm.2 c_4
          refine x_iload_n hC 1 dX3_rowsOfThings_19 rfl ?_
          refine x_iconst hC (1 : Int32) dX3_rowsOfThings_20 (by decide) ?_
          refine x_aload_n hC 0 dX3_rowsOfThings_21 rfl ?_
          refine x_get hC 1 inX3g 0 rfl rfl 0 (by decide) fl_X3_11 rfl dX3_rowsOfThings_22 ?_
          refine x_iload_n hC 2 dX3_rowsOfThings_25 rfl ?_
          refine x_iald hC 1 rfl hm.1 dX3_rowsOfThings_26 ?_
          replace hm := hm.2
          refine x_callSi hC _ [] [0, 1, 2, 3, 4, 5] [0, 1, 2, 3, 4, 5] (W_se cI se se_order se_from se_marks se_cameBy se_runs se_length se_within) (fun _ => W_se cI se se_order se_from se_marks se_cameBy se_runs se_length se_within) ok_X5_thingsOf ml_X3_76 (c_X5_thingsOf (gl Γ) (gD Γ) cI cZ   (se_order x2_2.toNatClampNeg) _ hm) (by decide) (by decide) rfl (Nat.le_of_ble_eq_true rfl) rfl rfl rfl rfl (by decide) rfl (fun _ => rfl) rfl dX3_rowsOfThings_27 ?_
          rintro r_5 _ hm
          refine x_ishl hC dX3_rowsOfThings_30 ?_
          refine x_ior hC dX3_rowsOfThings_31 ?_
          refine x_top (fun x1_6 ex1_6 => ?_)
          replace hm := hm x1_6 ex1_6
          refine x_istore_n hC [(0, .ref (se 0)), (1, .int x1_6), (2, .int x2_2)] [1, 0, 2] dX3_rowsOfThings_32 (by decide) rfl ?_
          obtain ⟨x2_7, ex2_7⟩ : ∃ y : Int32, y = x2_2 + (1 : Int32) := ⟨_, rfl⟩
          replace hm := hm x2_7 ex2_7
          refine x_iinc hC 2 x2_7 [(0, .ref (se 0)), (1, .int x1_6), (2, .int x2_7)] [1, 2, 0] dX3_rowsOfThings_33 rfl (by rw [ex2_7]; rfl) (by decide) rfl ?_
          refine x_goto hC 4 dX3_rowsOfThings_36 (by decide) ?_
          exact ih x1_6 x2_7 hm
  unfold wp_X3_rowsOfThings at hm
  refine x_iconst hC (0 : Int32) dX3_rowsOfThings_0 (by decide) ?_
  refine x_istore_n hC [(0, .ref (se 0)), (1, .int ((0 : Int32)))] [1, 0] dX3_rowsOfThings_1 (by decide) rfl ?_
  refine x_iconst hC (0 : Int32) dX3_rowsOfThings_2 (by decide) ?_
  refine x_istore_n hC [(0, .ref (se 0)), (1, .int ((0 : Int32))), (2, .int ((0 : Int32)))] [1, 2, 0] dX3_rowsOfThings_3 (by decide) rfl ?_
  obtain ⟨n_8, hm⟩ := hm
  exact B_4  n_8 ((0 : Int32)) ((0 : Int32)) hm

def wpL_X3_run_7 (sg_ownVotes : Nat → Int32) (sg_groups : Int32) (sg_bars : Int32) (lw_told : Nat → Int32) (lw_parts : Nat → Int32) (lw_hangMasks : Nat → Int32) (lw_hangValues : Nat → Int32)  (post : (Nat → Int32) → (Nat → Int32) → (Nat → Int32) → Int32 → Int32 → (Nat → Int32) → (Nat → Int32) → Int32 → Int32 → Int32 → (Nat → Int32) → (Nat → Int32) → Int32 → Prop) : Nat → (Nat → Int32) → (Nat → Int32) → (Nat → Int32) → Int32 → Int32 → (Nat → Int32) → (Nat → Int32) → Int32 → Int32 → Int32 → (Nat → Int32) → (Nat → Int32) → Int32 → Int32 → Prop
  | 0, _, _, _, _, _, _, _, _, _, _, _, _, _, _ => False
  | n + 1, se_order_6, se_from_7, se_cameBy_8, se_runs_9, se_length_10, sg_votes_11, sg_rows_12, sg_now_13, sg_forced_14, sg_barred_15, sg_mayActs_16, sg_mayEnds_17, sg_mays_18, x3_19 => (se_length_10 ≤ x3_19 → post se_order_6 se_from_7 se_cameBy_8 se_runs_9 se_length_10 sg_votes_11 sg_rows_12 sg_now_13 sg_forced_14 sg_barred_15 sg_mayActs_16 sg_mayEnds_17 sg_mays_18) ∧ (¬ se_length_10 ≤ x3_19 → (((16384 : Int32)) ≤ x3_19 → post se_order_6 se_from_7 se_cameBy_8 se_runs_9 se_length_10 sg_votes_11 sg_rows_12 sg_now_13 sg_forced_14 sg_barred_15 sg_mayActs_16 sg_mayEnds_17 sg_mays_18) ∧ (¬ ((16384 : Int32)) ≤ x3_19 → vp_in x3_19 16384 ∧ (wp_X3_spread se_order_6 se_from_7 se_cameBy_8 se_runs_9 se_length_10 sg_ownVotes sg_votes_11 sg_rows_12 sg_groups sg_bars sg_now_13 sg_forced_14 sg_barred_15 sg_mayActs_16 sg_mayEnds_17 sg_mays_18 lw_told lw_parts lw_hangMasks lw_hangValues (se_order_6 x3_19.toNatClampNeg) (fun (se_order_22 : Nat → Int32) (se_from_23 : Nat → Int32) (se_cameBy_24 : Nat → Int32) (se_length_25 : Int32) (sg_votes_26 : Nat → Int32) (sg_rows_27 : Nat → Int32) (sg_now_28 : Int32) (sg_forced_29 : Int32) (sg_barred_30 : Int32) (sg_mayActs_31 : Nat → Int32) (sg_mayEnds_32 : Nat → Int32) (sg_mays_33 : Int32) => ∀ x3_34 : Int32, x3_34 = x3_19 + (1 : Int32) → (wpL_X3_run_7 sg_ownVotes sg_groups sg_bars lw_told lw_parts lw_hangMasks lw_hangValues  post n) se_order_22 se_from_23 se_cameBy_24 se_runs_9 se_length_25 sg_votes_26 sg_rows_27 sg_now_28 sg_forced_29 sg_barred_30 sg_mayActs_31 sg_mayEnds_32 sg_mays_33 x3_34))))
def wp_X3_run (se_order : Nat → Int32) (se_from : Nat → Int32) (se_cameBy : Nat → Int32) (se_runs : Int32) (se_length : Int32) (sg_ownVotes : Nat → Int32) (sg_votes : Nat → Int32) (sg_rows : Nat → Int32) (sg_groups : Int32) (sg_bars : Int32) (sg_now : Int32) (sg_forced : Int32) (sg_barred : Int32) (sg_mayActs : Nat → Int32) (sg_mayEnds : Nat → Int32) (sg_mays : Int32) (lw_told : Nat → Int32) (lw_parts : Nat → Int32) (lw_hangMasks : Nat → Int32) (lw_hangValues : Nat → Int32) (p0 : Int32) (post : (Nat → Int32) → (Nat → Int32) → (Nat → Int32) → Int32 → Int32 → (Nat → Int32) → (Nat → Int32) → Int32 → Int32 → Int32 → (Nat → Int32) → (Nat → Int32) → Int32 → Prop) : Prop := wp_X3_startAt se_order se_from se_cameBy se_runs se_length p0 (fun (se_order_1 : Nat → Int32) (se_from_2 : Nat → Int32) (se_cameBy_3 : Nat → Int32) (se_runs_4 : Int32) (se_length_5 : Int32) => ∃ k7, wpL_X3_run_7 sg_ownVotes sg_groups sg_bars lw_told lw_parts lw_hangMasks lw_hangValues  post k7 se_order_1 se_from_2 se_cameBy_3 se_runs_4 se_length_5 sg_votes sg_rows sg_now sg_forced sg_barred sg_mayActs sg_mayEnds sg_mays ((0 : Int32)))
set_option maxHeartbeats 4000000 in
set_option maxRecDepth 100000 in
theorem c_X3_run (l : Launch) (D : va_G) (cI cZ : ClassId) (se : Nat → Nat) (sg : Nat → Nat) (lw : Nat → Nat) (se_order : Nat → Int32) (se_from : Nat → Int32) (se_marks : Nat → Int32) (se_cameBy : Nat → Int32) (se_runs : Int32) (se_length : Int32) (se_within : Nat → Int32) (sg_ownVotes : Nat → Int32) (sg_votes : Nat → Int32) (sg_rows : Nat → Int32) (sg_groups : Int32) (sg_bars : Int32) (sg_now : Int32) (sg_forced : Int32) (sg_barred : Int32) (sg_mayActs : Nat → Int32) (sg_mayEnds : Nat → Int32) (sg_mays : Int32) (lw_told : Nat → Int32) (lw_parts : Nat → Int32) (lw_hangMasks : Nat → Int32) (lw_hangValues : Nat → Int32) (lw_ownSeats : Nat → Int32) (p0 : Int32) (post : (Nat → Int32) → (Nat → Int32) → (Nat → Int32) → Int32 → Int32 → (Nat → Int32) → (Nat → Int32) → Int32 → Int32 → Int32 → (Nat → Int32) → (Nat → Int32) → Int32 → Prop) (hm : wp_X3_run se_order se_from se_cameBy se_runs se_length sg_ownVotes sg_votes sg_rows sg_groups sg_bars sg_now sg_forced sg_barred sg_mayActs sg_mayEnds sg_mays lw_told lw_parts lw_hangMasks lw_hangValues p0 post) : Mv l D cI cZ yX3_run cX3_run 4 5 119 [.ref (se 0), .int p0, .ref (sg 0)] (W_se cI se se_order se_from se_marks se_cameBy se_runs se_length se_within ++ W_sg cI sg (lw 0) sg_ownVotes sg_votes sg_rows sg_groups sg_bars sg_now sg_forced sg_barred sg_mayActs sg_mayEnds sg_mays ++ W_lw cI lw lw_told lw_parts lw_hangMasks lw_hangValues lw_ownSeats) (S := (Nat → Int32) × (Nat → Int32) × (Nat → Int32) × Int32 × Int32 × (Nat → Int32) × (Nat → Int32) × Int32 × Int32 × Int32 × (Nat → Int32) × (Nat → Int32) × Int32) (fun u => W_se cI se (u.1) (u.2.1) se_marks (u.2.2.1) (u.2.2.2.1) (u.2.2.2.2.1) se_within ++ W_sg cI sg (lw 0) sg_ownVotes (u.2.2.2.2.2.1) (u.2.2.2.2.2.2.1) sg_groups sg_bars (u.2.2.2.2.2.2.2.1) (u.2.2.2.2.2.2.2.2.1) (u.2.2.2.2.2.2.2.2.2.1) (u.2.2.2.2.2.2.2.2.2.2.1) (u.2.2.2.2.2.2.2.2.2.2.2.1) (u.2.2.2.2.2.2.2.2.2.2.2.2) ++ W_lw cI lw lw_told lw_parts lw_hangMasks lw_hangValues lw_ownSeats) (fun u => post u.1 u.2.1 u.2.2.1 u.2.2.2.1 u.2.2.2.2.1 u.2.2.2.2.2.1 u.2.2.2.2.2.2.1 u.2.2.2.2.2.2.2.1 u.2.2.2.2.2.2.2.2.1 u.2.2.2.2.2.2.2.2.2.1 u.2.2.2.2.2.2.2.2.2.2.1 u.2.2.2.2.2.2.2.2.2.2.2.1 u.2.2.2.2.2.2.2.2.2.2.2.2) := by
  refine mk_Mv (by decide +kernel) (Nat.le_of_ble_eq_true rfl) ?_
  intro Γ hl0 hD0 hC hR
  subst hl0
  subst hD0
  have hC : CX Γ cI cZ cX3_run RX3 4 5 119 := hC
  show VV Γ (W_se cI se se_order se_from se_marks se_cameBy se_runs se_length se_within ++ W_sg cI sg (lw 0) sg_ownVotes sg_votes sg_rows sg_groups sg_bars sg_now sg_forced sg_barred sg_mayActs sg_mayEnds sg_mays ++ W_lw cI lw lw_told lw_parts lw_hangMasks lw_hangValues lw_ownSeats) [(0, .ref (se 0)), (1, .int p0), (2, .ref (sg 0))] 0 []
  have B_7 : ∀ (n : Nat) (se_order_6 : Nat → Int32) (se_from_7 : Nat → Int32) (se_cameBy_8 : Nat → Int32) (se_runs_9 : Int32) (se_length_10 : Int32) (sg_votes_11 : Nat → Int32) (sg_rows_12 : Nat → Int32) (sg_now_13 : Int32) (sg_forced_14 : Int32) (sg_barred_15 : Int32) (sg_mayActs_16 : Nat → Int32) (sg_mayEnds_17 : Nat → Int32) (sg_mays_18 : Int32) (x3_19 : Int32), wpL_X3_run_7 sg_ownVotes sg_groups sg_bars lw_told lw_parts lw_hangMasks lw_hangValues  post n se_order_6 se_from_7 se_cameBy_8 se_runs_9 se_length_10 sg_votes_11 sg_rows_12 sg_now_13 sg_forced_14 sg_barred_15 sg_mayActs_16 sg_mayEnds_17 sg_mays_18 x3_19 → VV Γ (W_se cI se se_order_6 se_from_7 se_marks se_cameBy_8 se_runs_9 se_length_10 se_within ++ W_sg cI sg (lw 0) sg_ownVotes sg_votes_11 sg_rows_12 sg_groups sg_bars sg_now_13 sg_forced_14 sg_barred_15 sg_mayActs_16 sg_mayEnds_17 sg_mays_18 ++ W_lw cI lw lw_told lw_parts lw_hangMasks lw_hangValues lw_ownSeats) [(0, .ref (se 0)), (2, .ref (sg 0)), (3, .int x3_19)] 7 [] := by
    intro  n
    induction n with
    | zero => intro se_order_6 se_from_7 se_cameBy_8 se_runs_9 se_length_10 sg_votes_11 sg_rows_12 sg_now_13 sg_forced_14 sg_barred_15 sg_mayActs_16 sg_mayEnds_17 sg_mays_18 x3_19 hm; rw [wpL_X3_run_7] at hm; exact hm.elim
    | succ n ih =>
      intro se_order_6 se_from_7 se_cameBy_8 se_runs_9 se_length_10 sg_votes_11 sg_rows_12 sg_now_13 sg_forced_14 sg_barred_15 sg_mayActs_16 sg_mayEnds_17 sg_mays_18 x3_19 hm
      rw [wpL_X3_run_7] at hm
      refine x_iload_n hC 2 dX3_run_7 rfl ?_
      refine x_aload_n hC 0 dX3_run_8 rfl ?_
      refine x_get hC 1 inX3g 0 rfl rfl 5 (by decide) fl_X3_29 rfl dX3_run_9 ?_
      refine x_icmp_ge hC 39 dX3_run_12 (by decide) (fun c_20 => ?_) (fun c_20 => ?_)
      · replace hm := hm.1 c_20
        exact hR (se_order_6, se_from_7, se_cameBy_8, se_runs_9, se_length_10, sg_votes_11, sg_rows_12, sg_now_13, sg_forced_14, sg_barred_15, sg_mayActs_16, sg_mayEnds_17, sg_mays_18) [(0, .ref (se 0)), (2, .ref (sg 0)), (3, .int x3_19)] 39 hm dX3_run_39
      · replace hm := hm.2 c_20
        refine x_iload_n hC 2 dX3_run_15 rfl ?_
        refine x_sipush hC (16384 : Int32) dX3_run_16 (by decide) ?_
        refine x_icmp_ge hC 39 dX3_run_19 (by decide) (fun c_21 => ?_) (fun c_21 => ?_)
        · replace hm := hm.1 c_21
          exact hR (se_order_6, se_from_7, se_cameBy_8, se_runs_9, se_length_10, sg_votes_11, sg_rows_12, sg_now_13, sg_forced_14, sg_barred_15, sg_mayActs_16, sg_mayEnds_17, sg_mays_18) [(0, .ref (se 0)), (2, .ref (sg 0)), (3, .int x3_19)] 39 hm dX3_run_39
        · replace hm := hm.2 c_21
          refine x_aload_n hC 0 dX3_run_22 rfl ?_
          refine x_aload_n hC 0 dX3_run_23 rfl ?_
          refine x_get hC 1 inX3g 0 rfl rfl 0 (by decide) fl_X3_11 rfl dX3_run_24 ?_
          refine x_iload_n hC 2 dX3_run_27 rfl ?_
          refine x_iald hC 1 rfl hm.1 dX3_run_28 ?_
          replace hm := hm.2
          refine x_aload_n hC 1 dX3_run_29 rfl ?_
          refine x_callVv hC _ [0, 1, 2, 3, 4, 5, 6, 7, 8, 9, 10, 11, 12, 13, 14, 15, 16, 17] [] [0, 1, 2, 3, 4, 5, 6, 7, 8, 9, 10, 11, 12, 13, 14, 15, 16, 17] (([] : va_W)) (fun u => W_se cI se (u.1) (u.2.1) se_marks (u.2.2.1) se_runs_9 (u.2.2.2.1) se_within ++ W_sg cI sg (lw 0) sg_ownVotes (u.2.2.2.2.1) (u.2.2.2.2.2.1) sg_groups sg_bars (u.2.2.2.2.2.2.1) (u.2.2.2.2.2.2.2.1) (u.2.2.2.2.2.2.2.2.1) (u.2.2.2.2.2.2.2.2.2.1) (u.2.2.2.2.2.2.2.2.2.2.1) (u.2.2.2.2.2.2.2.2.2.2.2) ++ W_lw cI lw lw_told lw_parts lw_hangMasks lw_hangValues lw_ownSeats) ok_X3_spread ml_X3_37 0 1 (c_X3_spread (gl Γ) (gD Γ) cI cZ se sg lw se_order_6 se_from_7 se_marks se_cameBy_8 se_runs_9 se_length_10 se_within sg_ownVotes sg_votes_11 sg_rows_12 sg_groups sg_bars sg_now_13 sg_forced_14 sg_barred_15 sg_mayActs_16 sg_mayEnds_17 sg_mays_18 lw_told lw_parts lw_hangMasks lw_hangValues lw_ownSeats (se_order_6 x3_19.toNatClampNeg) _ hm) (by decide) (by decide) rfl (Nat.le_of_ble_eq_true rfl) rfl rfl rfl rfl (by decide) rfl (fun _ => rfl) rfl rfl rfl rfl dX3_run_30 ?_
          rintro ⟨se_order_22, se_from_23, se_cameBy_24, se_length_25, sg_votes_26, sg_rows_27, sg_now_28, sg_forced_29, sg_barred_30, sg_mayActs_31, sg_mayEnds_32, sg_mays_33⟩ hm
          obtain ⟨x3_34, ex3_34⟩ : ∃ y : Int32, y = x3_19 + (1 : Int32) := ⟨_, rfl⟩
          replace hm := hm x3_34 ex3_34
          refine x_iinc hC 2 x3_34 [(0, .ref (se 0)), (2, .ref (sg 0)), (3, .int x3_34)] [1, 2, 0] dX3_run_33 rfl (by rw [ex3_34]; rfl) (by decide) rfl ?_
          refine x_goto hC 7 dX3_run_36 (by decide) ?_
          exact ih se_order_22 se_from_23 se_cameBy_24 se_runs_9 se_length_25 sg_votes_26 sg_rows_27 sg_now_28 sg_forced_29 sg_barred_30 sg_mayActs_31 sg_mayEnds_32 sg_mays_33 x3_34 hm
  unfold wp_X3_run at hm
  refine x_aload_n hC 0 dX3_run_0 rfl ?_
  refine x_iload_n hC 1 dX3_run_1 rfl ?_
  refine x_callVv hC _ [0, 1, 2, 3, 4, 5] [6, 7, 8, 9, 10, 11, 12, 13, 14, 15, 16, 17] [12, 13, 14, 15, 16, 17, 0, 1, 2, 3, 4, 5, 6, 7, 8, 9, 10, 11] (W_sg cI sg (lw 0) sg_ownVotes sg_votes sg_rows sg_groups sg_bars sg_now sg_forced sg_barred sg_mayActs sg_mayEnds sg_mays ++ W_lw cI lw lw_told lw_parts lw_hangMasks lw_hangValues lw_ownSeats) (fun u => W_se cI se (u.1) (u.2.1) se_marks (u.2.2.1) (u.2.2.2.1) (u.2.2.2.2) se_within ++ W_sg cI sg (lw 0) sg_ownVotes sg_votes sg_rows sg_groups sg_bars sg_now sg_forced sg_barred sg_mayActs sg_mayEnds sg_mays ++ W_lw cI lw lw_told lw_parts lw_hangMasks lw_hangValues lw_ownSeats) ok_X3_startAt ml_X3_33 0 1 (c_X3_startAt (gl Γ) (gD Γ) cI cZ se se_order se_from se_marks se_cameBy se_runs se_length se_within p0 _ hm) (by decide) (by decide) rfl (Nat.le_of_ble_eq_true rfl) rfl rfl rfl rfl (by decide) rfl (fun _ => rfl) rfl rfl rfl rfl dX3_run_2 ?_
  rintro ⟨se_order_1, se_from_2, se_cameBy_3, se_runs_4, se_length_5⟩ hm
  refine x_iconst hC (0 : Int32) dX3_run_5 (by decide) ?_
  refine x_istore_n hC [(0, .ref (se 0)), (1, .int p0), (2, .ref (sg 0)), (3, .int ((0 : Int32)))] [1, 2, 3, 0] dX3_run_6 (by decide) rfl ?_
  obtain ⟨n_35, hm⟩ := hm
  refine x_lsub [0, 2, 3] rfl ?_
  exact B_7  n_35 se_order_1 se_from_2 se_cameBy_3 se_runs_4 se_length_5 sg_votes sg_rows sg_now sg_forced sg_barred sg_mayActs sg_mayEnds sg_mays ((0 : Int32)) hm

def wpJ_X3_runByBoth_100 (sg_ownVotes : Nat → Int32) (sg_groups : Int32) (sg_bars : Int32) (so_ownVotes : Nat → Int32) (so_groups : Int32) (so_bars : Int32) (lw_told : Nat → Int32) (lw_parts : Nat → Int32) (lw_hangMasks : Nat → Int32) (lw_hangValues : Nat → Int32) (K_11 : (Nat → Int32) → (Nat → Int32) → (Nat → Int32) → Int32 → Int32 → (Nat → Int32) → (Nat → Int32) → (Nat → Int32) → Int32 → Int32 → Int32 → (Nat → Int32) → (Nat → Int32) → Int32 → (Nat → Int32) → (Nat → Int32) → Int32 → Int32 → Int32 → (Nat → Int32) → (Nat → Int32) → Int32 → Int32 → Int32 → Int32 → Prop) (post : (Nat → Int32) → (Nat → Int32) → (Nat → Int32) → Int32 → Int32 → (Nat → Int32) → (Nat → Int32) → (Nat → Int32) → Int32 → Int32 → Int32 → (Nat → Int32) → (Nat → Int32) → Int32 → (Nat → Int32) → (Nat → Int32) → Int32 → Int32 → Int32 → (Nat → Int32) → (Nat → Int32) → Int32 → Prop) (se_order_60 : Nat → Int32) (se_from_61 : Nat → Int32) (se_cameBy_62 : Nat → Int32) (se_runs_63 : Int32) (se_length_64 : Int32) (se_within_65 : Nat → Int32) (sg_votes_66 : Nat → Int32) (sg_rows_67 : Nat → Int32) (sg_now_68 : Int32) (sg_forced_69 : Int32) (sg_barred_70 : Int32) (sg_mayActs_71 : Nat → Int32) (sg_mayEnds_72 : Nat → Int32) (sg_mays_73 : Int32) (so_votes_74 : Nat → Int32) (so_rows_75 : Nat → Int32) (so_now_76 : Int32) (so_forced_77 : Int32) (so_barred_78 : Int32) (so_mayActs_79 : Nat → Int32) (so_mayEnds_80 : Nat → Int32) (so_mays_81 : Int32) (x4_82 : Int32) (x6_83 : Int32) : Prop := vp_in x6_83 17 ∧ (∀ x5_84 : Int32, x5_84 = se_within_65 x6_83.toNatClampNeg → ∀ x6_85 : Int32, x6_85 = x6_83 + (1 : Int32) → K_11 se_order_60 se_from_61 se_cameBy_62 se_runs_63 se_length_64 se_within_65 sg_votes_66 sg_rows_67 sg_now_68 sg_forced_69 sg_barred_70 sg_mayActs_71 sg_mayEnds_72 sg_mays_73 so_votes_74 so_rows_75 so_now_76 so_forced_77 so_barred_78 so_mayActs_79 so_mayEnds_80 so_mays_81 x4_82 x5_84 x6_85)
def wpL_X3_runByBoth_43 (sg_ownVotes : Nat → Int32) (sg_groups : Int32) (sg_bars : Int32) (so_ownVotes : Nat → Int32) (so_groups : Int32) (so_bars : Int32) (lw_told : Nat → Int32) (lw_parts : Nat → Int32) (lw_hangMasks : Nat → Int32) (lw_hangValues : Nat → Int32) (K_11 : (Nat → Int32) → (Nat → Int32) → (Nat → Int32) → Int32 → Int32 → (Nat → Int32) → (Nat → Int32) → (Nat → Int32) → Int32 → Int32 → Int32 → (Nat → Int32) → (Nat → Int32) → Int32 → (Nat → Int32) → (Nat → Int32) → Int32 → Int32 → Int32 → (Nat → Int32) → (Nat → Int32) → Int32 → Int32 → Int32 → Int32 → Prop) (post : (Nat → Int32) → (Nat → Int32) → (Nat → Int32) → Int32 → Int32 → (Nat → Int32) → (Nat → Int32) → (Nat → Int32) → Int32 → Int32 → Int32 → (Nat → Int32) → (Nat → Int32) → Int32 → (Nat → Int32) → (Nat → Int32) → Int32 → Int32 → Int32 → (Nat → Int32) → (Nat → Int32) → Int32 → Prop) : Nat → (Nat → Int32) → (Nat → Int32) → (Nat → Int32) → Int32 → Int32 → (Nat → Int32) → (Nat → Int32) → (Nat → Int32) → Int32 → Int32 → Int32 → (Nat → Int32) → (Nat → Int32) → Int32 → (Nat → Int32) → (Nat → Int32) → Int32 → Int32 → Int32 → (Nat → Int32) → (Nat → Int32) → Int32 → Int32 → Int32 → Int32 → Prop
  | 0, _, _, _, _, _, _, _, _, _, _, _, _, _, _, _, _, _, _, _, _, _, _, _, _, _ => False
  | n + 1, se_order_34, se_from_35, se_cameBy_36, se_runs_37, se_length_38, se_within_39, sg_votes_40, sg_rows_41, sg_now_42, sg_forced_43, sg_barred_44, sg_mayActs_45, sg_mayEnds_46, sg_mays_47, so_votes_48, so_rows_49, so_now_50, so_forced_51, so_barred_52, so_mayActs_53, so_mayEnds_54, so_mays_55, x4_56, x6_57, x7_58 => (x4_56 ≤ x6_57 → wpJ_X3_runByBoth_100 sg_ownVotes sg_groups sg_bars so_ownVotes so_groups so_bars lw_told lw_parts lw_hangMasks lw_hangValues K_11 post se_order_34 se_from_35 se_cameBy_36 se_runs_37 se_length_38 se_within_39 sg_votes_40 sg_rows_41 sg_now_42 sg_forced_43 sg_barred_44 sg_mayActs_45 sg_mayEnds_46 sg_mays_47 so_votes_48 so_rows_49 so_now_50 so_forced_51 so_barred_52 so_mayActs_53 so_mayEnds_54 so_mays_55 x4_56 x6_57) ∧ (¬ x4_56 ≤ x6_57 → vp_in x6_57 17 ∧ (((se_within_39 x6_57.toNatClampNeg) ≤ x7_58 → wpJ_X3_runByBoth_100 sg_ownVotes sg_groups sg_bars so_ownVotes so_groups so_bars lw_told lw_parts lw_hangMasks lw_hangValues K_11 post se_order_34 se_from_35 se_cameBy_36 se_runs_37 se_length_38 se_within_39 sg_votes_40 sg_rows_41 sg_now_42 sg_forced_43 sg_barred_44 sg_mayActs_45 sg_mayEnds_46 sg_mays_47 so_votes_48 so_rows_49 so_now_50 so_forced_51 so_barred_52 so_mayActs_53 so_mayEnds_54 so_mays_55 x4_56 x6_57) ∧ (¬ (se_within_39 x6_57.toNatClampNeg) ≤ x7_58 → (((16384 : Int32)) ≤ x7_58 → wpJ_X3_runByBoth_100 sg_ownVotes sg_groups sg_bars so_ownVotes so_groups so_bars lw_told lw_parts lw_hangMasks lw_hangValues K_11 post se_order_34 se_from_35 se_cameBy_36 se_runs_37 se_length_38 se_within_39 sg_votes_40 sg_rows_41 sg_now_42 sg_forced_43 sg_barred_44 sg_mayActs_45 sg_mayEnds_46 sg_mays_47 so_votes_48 so_rows_49 so_now_50 so_forced_51 so_barred_52 so_mayActs_53 so_mayEnds_54 so_mays_55 x4_56 x6_57) ∧ (¬ ((16384 : Int32)) ≤ x7_58 → vp_in x7_58 16384 ∧ (wp_X3_spread se_order_34 se_from_35 se_cameBy_36 se_runs_37 se_length_38 sg_ownVotes sg_votes_40 sg_rows_41 sg_groups sg_bars sg_now_42 sg_forced_43 sg_barred_44 sg_mayActs_45 sg_mayEnds_46 sg_mays_47 lw_told lw_parts lw_hangMasks lw_hangValues (se_order_34 x7_58.toNatClampNeg) (fun (se_order_88 : Nat → Int32) (se_from_89 : Nat → Int32) (se_cameBy_90 : Nat → Int32) (se_length_91 : Int32) (sg_votes_92 : Nat → Int32) (sg_rows_93 : Nat → Int32) (sg_now_94 : Int32) (sg_forced_95 : Int32) (sg_barred_96 : Int32) (sg_mayActs_97 : Nat → Int32) (sg_mayEnds_98 : Nat → Int32) (sg_mays_99 : Int32) => vp_in x7_58 16384 ∧ (wp_X3_spread se_order_88 se_from_89 se_cameBy_90 se_runs_37 se_length_91 so_ownVotes so_votes_48 so_rows_49 so_groups so_bars so_now_50 so_forced_51 so_barred_52 so_mayActs_53 so_mayEnds_54 so_mays_55 lw_told lw_parts lw_hangMasks lw_hangValues (se_order_88 x7_58.toNatClampNeg) (fun (se_order_100 : Nat → Int32) (se_from_101 : Nat → Int32) (se_cameBy_102 : Nat → Int32) (se_length_103 : Int32) (so_votes_104 : Nat → Int32) (so_rows_105 : Nat → Int32) (so_now_106 : Int32) (so_forced_107 : Int32) (so_barred_108 : Int32) (so_mayActs_109 : Nat → Int32) (so_mayEnds_110 : Nat → Int32) (so_mays_111 : Int32) => ∀ x7_112 : Int32, x7_112 = x7_58 + (1 : Int32) → (wpL_X3_runByBoth_43 sg_ownVotes sg_groups sg_bars so_ownVotes so_groups so_bars lw_told lw_parts lw_hangMasks lw_hangValues K_11 post n) se_order_100 se_from_101 se_cameBy_102 se_runs_37 se_length_103 se_within_39 sg_votes_92 sg_rows_93 sg_now_94 sg_forced_95 sg_barred_96 sg_mayActs_97 sg_mayEnds_98 sg_mays_99 so_votes_104 so_rows_105 so_now_106 so_forced_107 so_barred_108 so_mayActs_109 so_mayEnds_110 so_mays_111 x4_56 x6_57 x7_112))))))))
def wpL_X3_runByBoth_11 (sg_ownVotes : Nat → Int32) (sg_groups : Int32) (sg_bars : Int32) (so_ownVotes : Nat → Int32) (so_groups : Int32) (so_bars : Int32) (lw_told : Nat → Int32) (lw_parts : Nat → Int32) (lw_hangMasks : Nat → Int32) (lw_hangValues : Nat → Int32)  (post : (Nat → Int32) → (Nat → Int32) → (Nat → Int32) → Int32 → Int32 → (Nat → Int32) → (Nat → Int32) → (Nat → Int32) → Int32 → Int32 → Int32 → (Nat → Int32) → (Nat → Int32) → Int32 → (Nat → Int32) → (Nat → Int32) → Int32 → Int32 → Int32 → (Nat → Int32) → (Nat → Int32) → Int32 → Prop) : Nat → (Nat → Int32) → (Nat → Int32) → (Nat → Int32) → Int32 → Int32 → (Nat → Int32) → (Nat → Int32) → (Nat → Int32) → Int32 → Int32 → Int32 → (Nat → Int32) → (Nat → Int32) → Int32 → (Nat → Int32) → (Nat → Int32) → Int32 → Int32 → Int32 → (Nat → Int32) → (Nat → Int32) → Int32 → Int32 → Int32 → Int32 → Prop
  | 0, _, _, _, _, _, _, _, _, _, _, _, _, _, _, _, _, _, _, _, _, _, _, _, _, _ => False
  | n + 1, se_order_6, se_from_7, se_cameBy_8, se_runs_9, se_length_10, se_within_11, sg_votes_12, sg_rows_13, sg_now_14, sg_forced_15, sg_barred_16, sg_mayActs_17, sg_mayEnds_18, sg_mays_19, so_votes_20, so_rows_21, so_now_22, so_forced_23, so_barred_24, so_mayActs_25, so_mayEnds_26, so_mays_27, x4_28, x5_29, x6_30 => (x4_28 < x6_30 → post se_order_6 se_from_7 se_cameBy_8 se_runs_9 se_length_10 se_within_11 sg_votes_12 sg_rows_13 sg_now_14 sg_forced_15 sg_barred_16 sg_mayActs_17 sg_mayEnds_18 sg_mays_19 so_votes_20 so_rows_21 so_now_22 so_forced_23 so_barred_24 so_mayActs_25 so_mayEnds_26 so_mays_27) ∧ (¬ x4_28 < x6_30 → (((17 : Int32)) ≤ x6_30 → post se_order_6 se_from_7 se_cameBy_8 se_runs_9 se_length_10 se_within_11 sg_votes_12 sg_rows_13 sg_now_14 sg_forced_15 sg_barred_16 sg_mayActs_17 sg_mayEnds_18 sg_mays_19 so_votes_20 so_rows_21 so_now_22 so_forced_23 so_barred_24 so_mayActs_25 so_mayEnds_26 so_mays_27) ∧ (¬ ((17 : Int32)) ≤ x6_30 → vp_in x6_30 17 ∧ ∀ se_within_33 : Nat → Int32, se_within_33 = upd se_within_11 x6_30.toNatClampNeg se_length_10 → ∃ k43, wpL_X3_runByBoth_43 sg_ownVotes sg_groups sg_bars so_ownVotes so_groups so_bars lw_told lw_parts lw_hangMasks lw_hangValues (fun y0 y1 y2 y3 y4 y5 y6 y7 y8 y9 y10 y11 y12 y13 y14 y15 y16 y17 y18 y19 y20 y21 y22 y23 y24 => wpL_X3_runByBoth_11 sg_ownVotes sg_groups sg_bars so_ownVotes so_groups so_bars lw_told lw_parts lw_hangMasks lw_hangValues  post n y0 y1 y2 y3 y4 y5 y6 y7 y8 y9 y10 y11 y12 y13 y14 y15 y16 y17 y18 y19 y20 y21 y22 y23 y24) post k43 se_order_6 se_from_7 se_cameBy_8 se_runs_9 se_length_10 se_within_33 sg_votes_12 sg_rows_13 sg_now_14 sg_forced_15 sg_barred_16 sg_mayActs_17 sg_mayEnds_18 sg_mays_19 so_votes_20 so_rows_21 so_now_22 so_forced_23 so_barred_24 so_mayActs_25 so_mayEnds_26 so_mays_27 x4_28 x6_30 x5_29))
def wp_X3_runByBoth (se_order : Nat → Int32) (se_from : Nat → Int32) (se_cameBy : Nat → Int32) (se_runs : Int32) (se_length : Int32) (se_within : Nat → Int32) (sg_ownVotes : Nat → Int32) (sg_votes : Nat → Int32) (sg_rows : Nat → Int32) (sg_groups : Int32) (sg_bars : Int32) (sg_now : Int32) (sg_forced : Int32) (sg_barred : Int32) (sg_mayActs : Nat → Int32) (sg_mayEnds : Nat → Int32) (sg_mays : Int32) (so_ownVotes : Nat → Int32) (so_votes : Nat → Int32) (so_rows : Nat → Int32) (so_groups : Int32) (so_bars : Int32) (so_now : Int32) (so_forced : Int32) (so_barred : Int32) (so_mayActs : Nat → Int32) (so_mayEnds : Nat → Int32) (so_mays : Int32) (lw_told : Nat → Int32) (lw_parts : Nat → Int32) (lw_hangMasks : Nat → Int32) (lw_hangValues : Nat → Int32) (p0 : Int32) (p3 : Int32) (post : (Nat → Int32) → (Nat → Int32) → (Nat → Int32) → Int32 → Int32 → (Nat → Int32) → (Nat → Int32) → (Nat → Int32) → Int32 → Int32 → Int32 → (Nat → Int32) → (Nat → Int32) → Int32 → (Nat → Int32) → (Nat → Int32) → Int32 → Int32 → Int32 → (Nat → Int32) → (Nat → Int32) → Int32 → Prop) : Prop := wp_X3_startAt se_order se_from se_cameBy se_runs se_length p0 (fun (se_order_1 : Nat → Int32) (se_from_2 : Nat → Int32) (se_cameBy_3 : Nat → Int32) (se_runs_4 : Int32) (se_length_5 : Int32) => ∃ k11, wpL_X3_runByBoth_11 sg_ownVotes sg_groups sg_bars so_ownVotes so_groups so_bars lw_told lw_parts lw_hangMasks lw_hangValues  post k11 se_order_1 se_from_2 se_cameBy_3 se_runs_4 se_length_5 se_within sg_votes sg_rows sg_now sg_forced sg_barred sg_mayActs sg_mayEnds sg_mays so_votes so_rows so_now so_forced so_barred so_mayActs so_mayEnds so_mays p3 ((0 : Int32)) ((0 : Int32)))
set_option maxHeartbeats 4000000 in
set_option maxRecDepth 100000 in
theorem c_X3_runByBoth (l : Launch) (D : va_G) (cI cZ : ClassId) (se : Nat → Nat) (sg : Nat → Nat) (so : Nat → Nat) (lw : Nat → Nat) (se_order : Nat → Int32) (se_from : Nat → Int32) (se_marks : Nat → Int32) (se_cameBy : Nat → Int32) (se_runs : Int32) (se_length : Int32) (se_within : Nat → Int32) (sg_ownVotes : Nat → Int32) (sg_votes : Nat → Int32) (sg_rows : Nat → Int32) (sg_groups : Int32) (sg_bars : Int32) (sg_now : Int32) (sg_forced : Int32) (sg_barred : Int32) (sg_mayActs : Nat → Int32) (sg_mayEnds : Nat → Int32) (sg_mays : Int32) (so_ownVotes : Nat → Int32) (so_votes : Nat → Int32) (so_rows : Nat → Int32) (so_groups : Int32) (so_bars : Int32) (so_now : Int32) (so_forced : Int32) (so_barred : Int32) (so_mayActs : Nat → Int32) (so_mayEnds : Nat → Int32) (so_mays : Int32) (lw_told : Nat → Int32) (lw_parts : Nat → Int32) (lw_hangMasks : Nat → Int32) (lw_hangValues : Nat → Int32) (lw_ownSeats : Nat → Int32) (p0 : Int32) (p3 : Int32) (post : (Nat → Int32) → (Nat → Int32) → (Nat → Int32) → Int32 → Int32 → (Nat → Int32) → (Nat → Int32) → (Nat → Int32) → Int32 → Int32 → Int32 → (Nat → Int32) → (Nat → Int32) → Int32 → (Nat → Int32) → (Nat → Int32) → Int32 → Int32 → Int32 → (Nat → Int32) → (Nat → Int32) → Int32 → Prop) (hm : wp_X3_runByBoth se_order se_from se_cameBy se_runs se_length se_within sg_ownVotes sg_votes sg_rows sg_groups sg_bars sg_now sg_forced sg_barred sg_mayActs sg_mayEnds sg_mays so_ownVotes so_votes so_rows so_groups so_bars so_now so_forced so_barred so_mayActs so_mayEnds so_mays lw_told lw_parts lw_hangMasks lw_hangValues p0 p3 post) : Mv l D cI cZ yX3_runByBoth cX3_runByBoth 8 5 119 [.ref (se 0), .int p0, .ref (sg 0), .ref (so 0), .int p3] (W_se cI se se_order se_from se_marks se_cameBy se_runs se_length se_within ++ W_sg cI sg (lw 0) sg_ownVotes sg_votes sg_rows sg_groups sg_bars sg_now sg_forced sg_barred sg_mayActs sg_mayEnds sg_mays ++ W_sg cI so (lw 0) so_ownVotes so_votes so_rows so_groups so_bars so_now so_forced so_barred so_mayActs so_mayEnds so_mays ++ W_lw cI lw lw_told lw_parts lw_hangMasks lw_hangValues lw_ownSeats) (S := (Nat → Int32) × (Nat → Int32) × (Nat → Int32) × Int32 × Int32 × (Nat → Int32) × (Nat → Int32) × (Nat → Int32) × Int32 × Int32 × Int32 × (Nat → Int32) × (Nat → Int32) × Int32 × (Nat → Int32) × (Nat → Int32) × Int32 × Int32 × Int32 × (Nat → Int32) × (Nat → Int32) × Int32) (fun u => W_se cI se (u.1) (u.2.1) se_marks (u.2.2.1) (u.2.2.2.1) (u.2.2.2.2.1) (u.2.2.2.2.2.1) ++ W_sg cI sg (lw 0) sg_ownVotes (u.2.2.2.2.2.2.1) (u.2.2.2.2.2.2.2.1) sg_groups sg_bars (u.2.2.2.2.2.2.2.2.1) (u.2.2.2.2.2.2.2.2.2.1) (u.2.2.2.2.2.2.2.2.2.2.1) (u.2.2.2.2.2.2.2.2.2.2.2.1) (u.2.2.2.2.2.2.2.2.2.2.2.2.1) (u.2.2.2.2.2.2.2.2.2.2.2.2.2.1) ++ W_sg cI so (lw 0) so_ownVotes (u.2.2.2.2.2.2.2.2.2.2.2.2.2.2.1) (u.2.2.2.2.2.2.2.2.2.2.2.2.2.2.2.1) so_groups so_bars (u.2.2.2.2.2.2.2.2.2.2.2.2.2.2.2.2.1) (u.2.2.2.2.2.2.2.2.2.2.2.2.2.2.2.2.2.1) (u.2.2.2.2.2.2.2.2.2.2.2.2.2.2.2.2.2.2.1) (u.2.2.2.2.2.2.2.2.2.2.2.2.2.2.2.2.2.2.2.1) (u.2.2.2.2.2.2.2.2.2.2.2.2.2.2.2.2.2.2.2.2.1) (u.2.2.2.2.2.2.2.2.2.2.2.2.2.2.2.2.2.2.2.2.2) ++ W_lw cI lw lw_told lw_parts lw_hangMasks lw_hangValues lw_ownSeats) (fun u => post u.1 u.2.1 u.2.2.1 u.2.2.2.1 u.2.2.2.2.1 u.2.2.2.2.2.1 u.2.2.2.2.2.2.1 u.2.2.2.2.2.2.2.1 u.2.2.2.2.2.2.2.2.1 u.2.2.2.2.2.2.2.2.2.1 u.2.2.2.2.2.2.2.2.2.2.1 u.2.2.2.2.2.2.2.2.2.2.2.1 u.2.2.2.2.2.2.2.2.2.2.2.2.1 u.2.2.2.2.2.2.2.2.2.2.2.2.2.1 u.2.2.2.2.2.2.2.2.2.2.2.2.2.2.1 u.2.2.2.2.2.2.2.2.2.2.2.2.2.2.2.1 u.2.2.2.2.2.2.2.2.2.2.2.2.2.2.2.2.1 u.2.2.2.2.2.2.2.2.2.2.2.2.2.2.2.2.2.1 u.2.2.2.2.2.2.2.2.2.2.2.2.2.2.2.2.2.2.1 u.2.2.2.2.2.2.2.2.2.2.2.2.2.2.2.2.2.2.2.1 u.2.2.2.2.2.2.2.2.2.2.2.2.2.2.2.2.2.2.2.2.1 u.2.2.2.2.2.2.2.2.2.2.2.2.2.2.2.2.2.2.2.2.2) := by
  refine mk_Mv (by decide +kernel) (Nat.le_of_ble_eq_true rfl) ?_
  intro Γ hl0 hD0 hC hR
  subst hl0
  subst hD0
  have hC : CX Γ cI cZ cX3_runByBoth RX3 8 5 119 := hC
  show VV Γ (W_se cI se se_order se_from se_marks se_cameBy se_runs se_length se_within ++ W_sg cI sg (lw 0) sg_ownVotes sg_votes sg_rows sg_groups sg_bars sg_now sg_forced sg_barred sg_mayActs sg_mayEnds sg_mays ++ W_sg cI so (lw 0) so_ownVotes so_votes so_rows so_groups so_bars so_now so_forced so_barred so_mayActs so_mayEnds so_mays ++ W_lw cI lw lw_told lw_parts lw_hangMasks lw_hangValues lw_ownSeats) [(0, .ref (se 0)), (1, .int p0), (2, .ref (sg 0)), (3, .ref (so 0)), (4, .int p3)] 0 []
  have B_100 : ∀ (K_11 : (Nat → Int32) → (Nat → Int32) → (Nat → Int32) → Int32 → Int32 → (Nat → Int32) → (Nat → Int32) → (Nat → Int32) → Int32 → Int32 → Int32 → (Nat → Int32) → (Nat → Int32) → Int32 → (Nat → Int32) → (Nat → Int32) → Int32 → Int32 → Int32 → (Nat → Int32) → (Nat → Int32) → Int32 → Int32 → Int32 → Int32 → Prop) (hK_11 : ∀ (se_order_6 : Nat → Int32) (se_from_7 : Nat → Int32) (se_cameBy_8 : Nat → Int32) (se_runs_9 : Int32) (se_length_10 : Int32) (se_within_11 : Nat → Int32) (sg_votes_12 : Nat → Int32) (sg_rows_13 : Nat → Int32) (sg_now_14 : Int32) (sg_forced_15 : Int32) (sg_barred_16 : Int32) (sg_mayActs_17 : Nat → Int32) (sg_mayEnds_18 : Nat → Int32) (sg_mays_19 : Int32) (so_votes_20 : Nat → Int32) (so_rows_21 : Nat → Int32) (so_now_22 : Int32) (so_forced_23 : Int32) (so_barred_24 : Int32) (so_mayActs_25 : Nat → Int32) (so_mayEnds_26 : Nat → Int32) (so_mays_27 : Int32) (x4_28 : Int32) (x5_29 : Int32) (x6_30 : Int32), K_11 se_order_6 se_from_7 se_cameBy_8 se_runs_9 se_length_10 se_within_11 sg_votes_12 sg_rows_13 sg_now_14 sg_forced_15 sg_barred_16 sg_mayActs_17 sg_mayEnds_18 sg_mays_19 so_votes_20 so_rows_21 so_now_22 so_forced_23 so_barred_24 so_mayActs_25 so_mayEnds_26 so_mays_27 x4_28 x5_29 x6_30 → VV Γ (W_se cI se se_order_6 se_from_7 se_marks se_cameBy_8 se_runs_9 se_length_10 se_within_11 ++ W_sg cI sg (lw 0) sg_ownVotes sg_votes_12 sg_rows_13 sg_groups sg_bars sg_now_14 sg_forced_15 sg_barred_16 sg_mayActs_17 sg_mayEnds_18 sg_mays_19 ++ W_sg cI so (lw 0) so_ownVotes so_votes_20 so_rows_21 so_groups so_bars so_now_22 so_forced_23 so_barred_24 so_mayActs_25 so_mayEnds_26 so_mays_27 ++ W_lw cI lw lw_told lw_parts lw_hangMasks lw_hangValues lw_ownSeats) [(0, .ref (se 0)), (2, .ref (sg 0)), (3, .ref (so 0)), (4, .int x4_28), (5, .int x5_29), (6, .int x6_30)] 11 []) (se_order_60 : Nat → Int32) (se_from_61 : Nat → Int32) (se_cameBy_62 : Nat → Int32) (se_runs_63 : Int32) (se_length_64 : Int32) (se_within_65 : Nat → Int32) (sg_votes_66 : Nat → Int32) (sg_rows_67 : Nat → Int32) (sg_now_68 : Int32) (sg_forced_69 : Int32) (sg_barred_70 : Int32) (sg_mayActs_71 : Nat → Int32) (sg_mayEnds_72 : Nat → Int32) (sg_mays_73 : Int32) (so_votes_74 : Nat → Int32) (so_rows_75 : Nat → Int32) (so_now_76 : Int32) (so_forced_77 : Int32) (so_barred_78 : Int32) (so_mayActs_79 : Nat → Int32) (so_mayEnds_80 : Nat → Int32) (so_mays_81 : Int32) (x4_82 : Int32) (x6_83 : Int32), wpJ_X3_runByBoth_100 sg_ownVotes sg_groups sg_bars so_ownVotes so_groups so_bars lw_told lw_parts lw_hangMasks lw_hangValues K_11 post se_order_60 se_from_61 se_cameBy_62 se_runs_63 se_length_64 se_within_65 sg_votes_66 sg_rows_67 sg_now_68 sg_forced_69 sg_barred_70 sg_mayActs_71 sg_mayEnds_72 sg_mays_73 so_votes_74 so_rows_75 so_now_76 so_forced_77 so_barred_78 so_mayActs_79 so_mayEnds_80 so_mays_81 x4_82 x6_83 → VV Γ (W_se cI se se_order_60 se_from_61 se_marks se_cameBy_62 se_runs_63 se_length_64 se_within_65 ++ W_sg cI sg (lw 0) sg_ownVotes sg_votes_66 sg_rows_67 sg_groups sg_bars sg_now_68 sg_forced_69 sg_barred_70 sg_mayActs_71 sg_mayEnds_72 sg_mays_73 ++ W_sg cI so (lw 0) so_ownVotes so_votes_74 so_rows_75 so_groups so_bars so_now_76 so_forced_77 so_barred_78 so_mayActs_79 so_mayEnds_80 so_mays_81 ++ W_lw cI lw lw_told lw_parts lw_hangMasks lw_hangValues lw_ownSeats) [(0, .ref (se 0)), (2, .ref (sg 0)), (3, .ref (so 0)), (4, .int x4_82), (6, .int x6_83)] 100 [] := by
    intro K_11 hK_11 se_order_60 se_from_61 se_cameBy_62 se_runs_63 se_length_64 se_within_65 sg_votes_66 sg_rows_67 sg_now_68 sg_forced_69 sg_barred_70 sg_mayActs_71 sg_mayEnds_72 sg_mays_73 so_votes_74 so_rows_75 so_now_76 so_forced_77 so_barred_78 so_mayActs_79 so_mayEnds_80 so_mays_81 x4_82 x6_83 hm
    unfold wpJ_X3_runByBoth_100 at hm
    refine x_aload_n hC 0 dX3_runByBoth_100 rfl ?_
    refine x_get hC 1 inX3g 0 rfl rfl 6 (by decide) fl_X3_26 rfl dX3_runByBoth_101 ?_
    refine x_iload hC 4 dX3_runByBoth_104 rfl ?_
    refine x_iald hC 5 rfl hm.1 dX3_runByBoth_106 ?_
    replace hm := hm.2
    refine x_top (fun x5_84 ex5_84 => ?_)
    replace hm := hm x5_84 ex5_84
    refine x_istore hC [(0, .ref (se 0)), (2, .ref (sg 0)), (3, .ref (so 0)), (4, .int x4_82), (5, .int x5_84), (6, .int x6_83)] [1, 2, 3, 4, 0, 5] dX3_runByBoth_107 (by decide) rfl ?_
    obtain ⟨x6_85, ex6_85⟩ : ∃ y : Int32, y = x6_83 + (1 : Int32) := ⟨_, rfl⟩
    replace hm := hm x6_85 ex6_85
    refine x_iinc hC 5 x6_85 [(0, .ref (se 0)), (2, .ref (sg 0)), (3, .ref (so 0)), (4, .int x4_82), (5, .int x5_84), (6, .int x6_85)] [1, 2, 3, 4, 5, 0] dX3_runByBoth_109 rfl (by rw [ex6_85]; rfl) (by decide) rfl ?_
    refine x_goto hC 11 dX3_runByBoth_112 (by decide) ?_
    exact hK_11 se_order_60 se_from_61 se_cameBy_62 se_runs_63 se_length_64 se_within_65 sg_votes_66 sg_rows_67 sg_now_68 sg_forced_69 sg_barred_70 sg_mayActs_71 sg_mayEnds_72 sg_mays_73 so_votes_74 so_rows_75 so_now_76 so_forced_77 so_barred_78 so_mayActs_79 so_mayEnds_80 so_mays_81 x4_82 x5_84 x6_85 hm
  have B_43 : ∀ (K_11 : (Nat → Int32) → (Nat → Int32) → (Nat → Int32) → Int32 → Int32 → (Nat → Int32) → (Nat → Int32) → (Nat → Int32) → Int32 → Int32 → Int32 → (Nat → Int32) → (Nat → Int32) → Int32 → (Nat → Int32) → (Nat → Int32) → Int32 → Int32 → Int32 → (Nat → Int32) → (Nat → Int32) → Int32 → Int32 → Int32 → Int32 → Prop) (hK_11 : ∀ (se_order_6 : Nat → Int32) (se_from_7 : Nat → Int32) (se_cameBy_8 : Nat → Int32) (se_runs_9 : Int32) (se_length_10 : Int32) (se_within_11 : Nat → Int32) (sg_votes_12 : Nat → Int32) (sg_rows_13 : Nat → Int32) (sg_now_14 : Int32) (sg_forced_15 : Int32) (sg_barred_16 : Int32) (sg_mayActs_17 : Nat → Int32) (sg_mayEnds_18 : Nat → Int32) (sg_mays_19 : Int32) (so_votes_20 : Nat → Int32) (so_rows_21 : Nat → Int32) (so_now_22 : Int32) (so_forced_23 : Int32) (so_barred_24 : Int32) (so_mayActs_25 : Nat → Int32) (so_mayEnds_26 : Nat → Int32) (so_mays_27 : Int32) (x4_28 : Int32) (x5_29 : Int32) (x6_30 : Int32), K_11 se_order_6 se_from_7 se_cameBy_8 se_runs_9 se_length_10 se_within_11 sg_votes_12 sg_rows_13 sg_now_14 sg_forced_15 sg_barred_16 sg_mayActs_17 sg_mayEnds_18 sg_mays_19 so_votes_20 so_rows_21 so_now_22 so_forced_23 so_barred_24 so_mayActs_25 so_mayEnds_26 so_mays_27 x4_28 x5_29 x6_30 → VV Γ (W_se cI se se_order_6 se_from_7 se_marks se_cameBy_8 se_runs_9 se_length_10 se_within_11 ++ W_sg cI sg (lw 0) sg_ownVotes sg_votes_12 sg_rows_13 sg_groups sg_bars sg_now_14 sg_forced_15 sg_barred_16 sg_mayActs_17 sg_mayEnds_18 sg_mays_19 ++ W_sg cI so (lw 0) so_ownVotes so_votes_20 so_rows_21 so_groups so_bars so_now_22 so_forced_23 so_barred_24 so_mayActs_25 so_mayEnds_26 so_mays_27 ++ W_lw cI lw lw_told lw_parts lw_hangMasks lw_hangValues lw_ownSeats) [(0, .ref (se 0)), (2, .ref (sg 0)), (3, .ref (so 0)), (4, .int x4_28), (5, .int x5_29), (6, .int x6_30)] 11 []) (n : Nat) (se_order_34 : Nat → Int32) (se_from_35 : Nat → Int32) (se_cameBy_36 : Nat → Int32) (se_runs_37 : Int32) (se_length_38 : Int32) (se_within_39 : Nat → Int32) (sg_votes_40 : Nat → Int32) (sg_rows_41 : Nat → Int32) (sg_now_42 : Int32) (sg_forced_43 : Int32) (sg_barred_44 : Int32) (sg_mayActs_45 : Nat → Int32) (sg_mayEnds_46 : Nat → Int32) (sg_mays_47 : Int32) (so_votes_48 : Nat → Int32) (so_rows_49 : Nat → Int32) (so_now_50 : Int32) (so_forced_51 : Int32) (so_barred_52 : Int32) (so_mayActs_53 : Nat → Int32) (so_mayEnds_54 : Nat → Int32) (so_mays_55 : Int32) (x4_56 : Int32) (x6_57 : Int32) (x7_58 : Int32), wpL_X3_runByBoth_43 sg_ownVotes sg_groups sg_bars so_ownVotes so_groups so_bars lw_told lw_parts lw_hangMasks lw_hangValues K_11 post n se_order_34 se_from_35 se_cameBy_36 se_runs_37 se_length_38 se_within_39 sg_votes_40 sg_rows_41 sg_now_42 sg_forced_43 sg_barred_44 sg_mayActs_45 sg_mayEnds_46 sg_mays_47 so_votes_48 so_rows_49 so_now_50 so_forced_51 so_barred_52 so_mayActs_53 so_mayEnds_54 so_mays_55 x4_56 x6_57 x7_58 → VV Γ (W_se cI se se_order_34 se_from_35 se_marks se_cameBy_36 se_runs_37 se_length_38 se_within_39 ++ W_sg cI sg (lw 0) sg_ownVotes sg_votes_40 sg_rows_41 sg_groups sg_bars sg_now_42 sg_forced_43 sg_barred_44 sg_mayActs_45 sg_mayEnds_46 sg_mays_47 ++ W_sg cI so (lw 0) so_ownVotes so_votes_48 so_rows_49 so_groups so_bars so_now_50 so_forced_51 so_barred_52 so_mayActs_53 so_mayEnds_54 so_mays_55 ++ W_lw cI lw lw_told lw_parts lw_hangMasks lw_hangValues lw_ownSeats) [(0, .ref (se 0)), (2, .ref (sg 0)), (3, .ref (so 0)), (4, .int x4_56), (6, .int x6_57), (7, .int x7_58)] 43 [] := by
    intro K_11 hK_11 n
    induction n with
    | zero => intro se_order_34 se_from_35 se_cameBy_36 se_runs_37 se_length_38 se_within_39 sg_votes_40 sg_rows_41 sg_now_42 sg_forced_43 sg_barred_44 sg_mayActs_45 sg_mayEnds_46 sg_mays_47 so_votes_48 so_rows_49 so_now_50 so_forced_51 so_barred_52 so_mayActs_53 so_mayEnds_54 so_mays_55 x4_56 x6_57 x7_58 hm; rw [wpL_X3_runByBoth_43] at hm; exact hm.elim
    | succ n ih =>
      intro se_order_34 se_from_35 se_cameBy_36 se_runs_37 se_length_38 se_within_39 sg_votes_40 sg_rows_41 sg_now_42 sg_forced_43 sg_barred_44 sg_mayActs_45 sg_mayEnds_46 sg_mays_47 so_votes_48 so_rows_49 so_now_50 so_forced_51 so_barred_52 so_mayActs_53 so_mayEnds_54 so_mays_55 x4_56 x6_57 x7_58 hm
      rw [wpL_X3_runByBoth_43] at hm
      refine x_iload hC 4 dX3_runByBoth_43 rfl ?_
      refine x_iload hC 3 dX3_runByBoth_45 rfl ?_
      refine x_icmp_ge hC 100 dX3_runByBoth_47 (by decide) (fun c_59 => ?_) (fun c_59 => ?_)
      · replace hm := hm.1 c_59
        refine x_lsub [0, 1, 2, 3, 4] rfl ?_
        exact B_100 K_11 hK_11  se_order_34 se_from_35 se_cameBy_36 se_runs_37 se_length_38 se_within_39 sg_votes_40 sg_rows_41 sg_now_42 sg_forced_43 sg_barred_44 sg_mayActs_45 sg_mayEnds_46 sg_mays_47 so_votes_48 so_rows_49 so_now_50 so_forced_51 so_barred_52 so_mayActs_53 so_mayEnds_54 so_mays_55 x4_56 x6_57 hm
      · replace hm := hm.2 c_59
        refine x_iload hC 5 dX3_runByBoth_50 rfl ?_
        refine x_aload_n hC 0 dX3_runByBoth_52 rfl ?_
        refine x_get hC 1 inX3g 0 rfl rfl 6 (by decide) fl_X3_26 rfl dX3_runByBoth_53 ?_
        refine x_iload hC 4 dX3_runByBoth_56 rfl ?_
        refine x_iald hC 5 rfl hm.1 dX3_runByBoth_58 ?_
        replace hm := hm.2
        refine x_icmp_ge hC 100 dX3_runByBoth_59 (by decide) (fun c_86 => ?_) (fun c_86 => ?_)
        · replace hm := hm.1 c_86
          refine x_lsub [0, 1, 2, 3, 4] rfl ?_
          exact B_100 K_11 hK_11  se_order_34 se_from_35 se_cameBy_36 se_runs_37 se_length_38 se_within_39 sg_votes_40 sg_rows_41 sg_now_42 sg_forced_43 sg_barred_44 sg_mayActs_45 sg_mayEnds_46 sg_mays_47 so_votes_48 so_rows_49 so_now_50 so_forced_51 so_barred_52 so_mayActs_53 so_mayEnds_54 so_mays_55 x4_56 x6_57 hm
        · replace hm := hm.2 c_86
          refine x_iload hC 5 dX3_runByBoth_62 rfl ?_
          refine x_sipush hC (16384 : Int32) dX3_runByBoth_64 (by decide) ?_
          refine x_icmp_ge hC 100 dX3_runByBoth_67 (by decide) (fun c_87 => ?_) (fun c_87 => ?_)
          · replace hm := hm.1 c_87
            refine x_lsub [0, 1, 2, 3, 4] rfl ?_
            exact B_100 K_11 hK_11  se_order_34 se_from_35 se_cameBy_36 se_runs_37 se_length_38 se_within_39 sg_votes_40 sg_rows_41 sg_now_42 sg_forced_43 sg_barred_44 sg_mayActs_45 sg_mayEnds_46 sg_mays_47 so_votes_48 so_rows_49 so_now_50 so_forced_51 so_barred_52 so_mayActs_53 so_mayEnds_54 so_mays_55 x4_56 x6_57 hm
          · replace hm := hm.2 c_87
            refine x_aload_n hC 0 dX3_runByBoth_70 rfl ?_
            refine x_aload_n hC 0 dX3_runByBoth_71 rfl ?_
            refine x_get hC 1 inX3g 0 rfl rfl 0 (by decide) fl_X3_11 rfl dX3_runByBoth_72 ?_
            refine x_iload hC 5 dX3_runByBoth_75 rfl ?_
            refine x_iald hC 1 rfl hm.1 dX3_runByBoth_77 ?_
            replace hm := hm.2
            refine x_aload_n hC 1 dX3_runByBoth_78 rfl ?_
            refine x_callVv hC _ [0, 1, 2, 3, 4, 5, 6, 7, 8, 9, 10, 11, 18, 19, 20, 21, 22, 23] [12, 13, 14, 15, 16, 17] [6, 7, 8, 9, 10, 11, 12, 13, 14, 15, 16, 17, 0, 1, 2, 3, 4, 5, 18, 19, 20, 21, 22, 23] (W_sg cI so (lw 0) so_ownVotes so_votes_48 so_rows_49 so_groups so_bars so_now_50 so_forced_51 so_barred_52 so_mayActs_53 so_mayEnds_54 so_mays_55) (fun u => W_se cI se (u.1) (u.2.1) se_marks (u.2.2.1) se_runs_37 (u.2.2.2.1) se_within_39 ++ W_sg cI sg (lw 0) sg_ownVotes (u.2.2.2.2.1) (u.2.2.2.2.2.1) sg_groups sg_bars (u.2.2.2.2.2.2.1) (u.2.2.2.2.2.2.2.1) (u.2.2.2.2.2.2.2.2.1) (u.2.2.2.2.2.2.2.2.2.1) (u.2.2.2.2.2.2.2.2.2.2.1) (u.2.2.2.2.2.2.2.2.2.2.2) ++ W_sg cI so (lw 0) so_ownVotes so_votes_48 so_rows_49 so_groups so_bars so_now_50 so_forced_51 so_barred_52 so_mayActs_53 so_mayEnds_54 so_mays_55 ++ W_lw cI lw lw_told lw_parts lw_hangMasks lw_hangValues lw_ownSeats) ok_X3_spread ml_X3_37 0 1 (c_X3_spread (gl Γ) (gD Γ) cI cZ se sg lw se_order_34 se_from_35 se_marks se_cameBy_36 se_runs_37 se_length_38 se_within_39 sg_ownVotes sg_votes_40 sg_rows_41 sg_groups sg_bars sg_now_42 sg_forced_43 sg_barred_44 sg_mayActs_45 sg_mayEnds_46 sg_mays_47 lw_told lw_parts lw_hangMasks lw_hangValues lw_ownSeats (se_order_34 x7_58.toNatClampNeg) _ hm) (by decide) (by decide) rfl (Nat.le_of_ble_eq_true rfl) rfl rfl rfl rfl (by decide) rfl (fun _ => rfl) rfl rfl rfl rfl dX3_runByBoth_79 ?_
            rintro ⟨se_order_88, se_from_89, se_cameBy_90, se_length_91, sg_votes_92, sg_rows_93, sg_now_94, sg_forced_95, sg_barred_96, sg_mayActs_97, sg_mayEnds_98, sg_mays_99⟩ hm
            refine x_aload_n hC 0 dX3_runByBoth_82 rfl ?_
            refine x_aload_n hC 0 dX3_runByBoth_83 rfl ?_
            refine x_get hC 1 inX3g 0 rfl rfl 0 (by decide) fl_X3_11 rfl dX3_runByBoth_84 ?_
            refine x_iload hC 5 dX3_runByBoth_87 rfl ?_
            refine x_iald hC 1 rfl hm.1 dX3_runByBoth_89 ?_
            replace hm := hm.2
            refine x_aload_n hC 2 dX3_runByBoth_90 rfl ?_
            refine x_callVv hC _ [0, 1, 2, 3, 4, 5, 12, 13, 14, 15, 16, 17, 18, 19, 20, 21, 22, 23] [6, 7, 8, 9, 10, 11] [6, 7, 8, 9, 10, 11, 0, 1, 2, 3, 4, 5, 12, 13, 14, 15, 16, 17, 18, 19, 20, 21, 22, 23] (W_sg cI sg (lw 0) sg_ownVotes sg_votes_92 sg_rows_93 sg_groups sg_bars sg_now_94 sg_forced_95 sg_barred_96 sg_mayActs_97 sg_mayEnds_98 sg_mays_99) (fun u => W_se cI se (u.1) (u.2.1) se_marks (u.2.2.1) se_runs_37 (u.2.2.2.1) se_within_39 ++ W_sg cI sg (lw 0) sg_ownVotes sg_votes_92 sg_rows_93 sg_groups sg_bars sg_now_94 sg_forced_95 sg_barred_96 sg_mayActs_97 sg_mayEnds_98 sg_mays_99 ++ W_sg cI so (lw 0) so_ownVotes (u.2.2.2.2.1) (u.2.2.2.2.2.1) so_groups so_bars (u.2.2.2.2.2.2.1) (u.2.2.2.2.2.2.2.1) (u.2.2.2.2.2.2.2.2.1) (u.2.2.2.2.2.2.2.2.2.1) (u.2.2.2.2.2.2.2.2.2.2.1) (u.2.2.2.2.2.2.2.2.2.2.2) ++ W_lw cI lw lw_told lw_parts lw_hangMasks lw_hangValues lw_ownSeats) ok_X3_spread ml_X3_37 0 1 (c_X3_spread (gl Γ) (gD Γ) cI cZ se so lw se_order_88 se_from_89 se_marks se_cameBy_90 se_runs_37 se_length_91 se_within_39 so_ownVotes so_votes_48 so_rows_49 so_groups so_bars so_now_50 so_forced_51 so_barred_52 so_mayActs_53 so_mayEnds_54 so_mays_55 lw_told lw_parts lw_hangMasks lw_hangValues lw_ownSeats (se_order_88 x7_58.toNatClampNeg) _ hm) (by decide) (by decide) rfl (Nat.le_of_ble_eq_true rfl) rfl rfl rfl rfl (by decide) rfl (fun _ => rfl) rfl rfl rfl rfl dX3_runByBoth_91 ?_
            rintro ⟨se_order_100, se_from_101, se_cameBy_102, se_length_103, so_votes_104, so_rows_105, so_now_106, so_forced_107, so_barred_108, so_mayActs_109, so_mayEnds_110, so_mays_111⟩ hm
            obtain ⟨x7_112, ex7_112⟩ : ∃ y : Int32, y = x7_58 + (1 : Int32) := ⟨_, rfl⟩
            replace hm := hm x7_112 ex7_112
            refine x_iinc hC 5 x7_112 [(0, .ref (se 0)), (2, .ref (sg 0)), (3, .ref (so 0)), (4, .int x4_56), (6, .int x6_57), (7, .int x7_112)] [1, 2, 3, 4, 5, 0] dX3_runByBoth_94 rfl (by rw [ex7_112]; rfl) (by decide) rfl ?_
            refine x_goto hC 43 dX3_runByBoth_97 (by decide) ?_
            exact ih se_order_100 se_from_101 se_cameBy_102 se_runs_37 se_length_103 se_within_39 sg_votes_92 sg_rows_93 sg_now_94 sg_forced_95 sg_barred_96 sg_mayActs_97 sg_mayEnds_98 sg_mays_99 so_votes_104 so_rows_105 so_now_106 so_forced_107 so_barred_108 so_mayActs_109 so_mayEnds_110 so_mays_111 x4_56 x6_57 x7_112 hm
  have B_11 : ∀ (n : Nat) (se_order_6 : Nat → Int32) (se_from_7 : Nat → Int32) (se_cameBy_8 : Nat → Int32) (se_runs_9 : Int32) (se_length_10 : Int32) (se_within_11 : Nat → Int32) (sg_votes_12 : Nat → Int32) (sg_rows_13 : Nat → Int32) (sg_now_14 : Int32) (sg_forced_15 : Int32) (sg_barred_16 : Int32) (sg_mayActs_17 : Nat → Int32) (sg_mayEnds_18 : Nat → Int32) (sg_mays_19 : Int32) (so_votes_20 : Nat → Int32) (so_rows_21 : Nat → Int32) (so_now_22 : Int32) (so_forced_23 : Int32) (so_barred_24 : Int32) (so_mayActs_25 : Nat → Int32) (so_mayEnds_26 : Nat → Int32) (so_mays_27 : Int32) (x4_28 : Int32) (x5_29 : Int32) (x6_30 : Int32), wpL_X3_runByBoth_11 sg_ownVotes sg_groups sg_bars so_ownVotes so_groups so_bars lw_told lw_parts lw_hangMasks lw_hangValues  post n se_order_6 se_from_7 se_cameBy_8 se_runs_9 se_length_10 se_within_11 sg_votes_12 sg_rows_13 sg_now_14 sg_forced_15 sg_barred_16 sg_mayActs_17 sg_mayEnds_18 sg_mays_19 so_votes_20 so_rows_21 so_now_22 so_forced_23 so_barred_24 so_mayActs_25 so_mayEnds_26 so_mays_27 x4_28 x5_29 x6_30 → VV Γ (W_se cI se se_order_6 se_from_7 se_marks se_cameBy_8 se_runs_9 se_length_10 se_within_11 ++ W_sg cI sg (lw 0) sg_ownVotes sg_votes_12 sg_rows_13 sg_groups sg_bars sg_now_14 sg_forced_15 sg_barred_16 sg_mayActs_17 sg_mayEnds_18 sg_mays_19 ++ W_sg cI so (lw 0) so_ownVotes so_votes_20 so_rows_21 so_groups so_bars so_now_22 so_forced_23 so_barred_24 so_mayActs_25 so_mayEnds_26 so_mays_27 ++ W_lw cI lw lw_told lw_parts lw_hangMasks lw_hangValues lw_ownSeats) [(0, .ref (se 0)), (2, .ref (sg 0)), (3, .ref (so 0)), (4, .int x4_28), (5, .int x5_29), (6, .int x6_30)] 11 [] := by
    intro  n
    induction n with
    | zero => intro se_order_6 se_from_7 se_cameBy_8 se_runs_9 se_length_10 se_within_11 sg_votes_12 sg_rows_13 sg_now_14 sg_forced_15 sg_barred_16 sg_mayActs_17 sg_mayEnds_18 sg_mays_19 so_votes_20 so_rows_21 so_now_22 so_forced_23 so_barred_24 so_mayActs_25 so_mayEnds_26 so_mays_27 x4_28 x5_29 x6_30 hm; rw [wpL_X3_runByBoth_11] at hm; exact hm.elim
    | succ n ih =>
      intro se_order_6 se_from_7 se_cameBy_8 se_runs_9 se_length_10 se_within_11 sg_votes_12 sg_rows_13 sg_now_14 sg_forced_15 sg_barred_16 sg_mayActs_17 sg_mayEnds_18 sg_mays_19 so_votes_20 so_rows_21 so_now_22 so_forced_23 so_barred_24 so_mayActs_25 so_mayEnds_26 so_mays_27 x4_28 x5_29 x6_30 hm
      rw [wpL_X3_runByBoth_11] at hm
      refine x_iload hC 5 dX3_runByBoth_11 rfl ?_
      refine x_iload hC 3 dX3_runByBoth_13 rfl ?_
      refine x_icmp_gt hC 115 dX3_runByBoth_15 (by decide) (fun c_31 => ?_) (fun c_31 => ?_)
      · replace hm := hm.1 c_31
        exact hR (se_order_6, se_from_7, se_cameBy_8, se_runs_9, se_length_10, se_within_11, sg_votes_12, sg_rows_13, sg_now_14, sg_forced_15, sg_barred_16, sg_mayActs_17, sg_mayEnds_18, sg_mays_19, so_votes_20, so_rows_21, so_now_22, so_forced_23, so_barred_24, so_mayActs_25, so_mayEnds_26, so_mays_27) [(0, .ref (se 0)), (2, .ref (sg 0)), (3, .ref (so 0)), (4, .int x4_28), (5, .int x5_29), (6, .int x6_30)] 115 hm dX3_runByBoth_115
      · replace hm := hm.2 c_31
        refine x_iload hC 5 dX3_runByBoth_18 rfl ?_
        refine x_aload_n hC 0 dX3_runByBoth_20 rfl ?_
        refine x_get hC 1 inX3g 0 rfl rfl 6 (by decide) fl_X3_26 rfl dX3_runByBoth_21 ?_
        refine x_alen hC 5 rfl rfl dX3_runByBoth_24 ?_
        refine x_icmp_ge hC 115 dX3_runByBoth_25 (by decide) (fun c_32 => ?_) (fun c_32 => ?_)
        · replace hm := hm.1 c_32
          exact hR (se_order_6, se_from_7, se_cameBy_8, se_runs_9, se_length_10, se_within_11, sg_votes_12, sg_rows_13, sg_now_14, sg_forced_15, sg_barred_16, sg_mayActs_17, sg_mayEnds_18, sg_mays_19, so_votes_20, so_rows_21, so_now_22, so_forced_23, so_barred_24, so_mayActs_25, so_mayEnds_26, so_mays_27) [(0, .ref (se 0)), (2, .ref (sg 0)), (3, .ref (so 0)), (4, .int x4_28), (5, .int x5_29), (6, .int x6_30)] 115 hm dX3_runByBoth_115
        · replace hm := hm.2 c_32
          refine x_aload_n hC 0 dX3_runByBoth_28 rfl ?_
          refine x_get hC 1 inX3g 0 rfl rfl 6 (by decide) fl_X3_26 rfl dX3_runByBoth_29 ?_
          refine x_iload hC 5 dX3_runByBoth_32 rfl ?_
          refine x_aload_n hC 0 dX3_runByBoth_34 rfl ?_
          refine x_get hC 1 inX3g 0 rfl rfl 5 (by decide) fl_X3_29 rfl dX3_runByBoth_35 ?_
          refine x_iastN hC 5 rfl hm.1 (fun se_within_33 => W_se cI se se_order_6 se_from_7 se_marks se_cameBy_8 se_runs_9 se_length_10 se_within_33 ++ W_sg cI sg (lw 0) sg_ownVotes sg_votes_12 sg_rows_13 sg_groups sg_bars sg_now_14 sg_forced_15 sg_barred_16 sg_mayActs_17 sg_mayEnds_18 sg_mays_19 ++ W_sg cI so (lw 0) so_ownVotes so_votes_20 so_rows_21 so_groups so_bars so_now_22 so_forced_23 so_barred_24 so_mayActs_25 so_mayEnds_26 so_mays_27 ++ W_lw cI lw lw_told lw_parts lw_hangMasks lw_hangValues lw_ownSeats) (fun _ => rfl) dX3_runByBoth_38 (fun se_within_33 ese_within_33 => ?_)
          replace hm := hm.2 se_within_33 ese_within_33
          refine x_iload hC 4 dX3_runByBoth_39 rfl ?_
          refine x_istore hC [(0, .ref (se 0)), (2, .ref (sg 0)), (3, .ref (so 0)), (4, .int x4_28), (5, .int x5_29), (6, .int x6_30), (7, .int x5_29)] [1, 2, 3, 4, 5, 6, 0] dX3_runByBoth_41 (by decide) rfl ?_
          obtain ⟨n_113, hm⟩ := hm
          refine x_lsub [0, 1, 2, 3, 5, 6] rfl ?_
          exact B_43 (fun y0 y1 y2 y3 y4 y5 y6 y7 y8 y9 y10 y11 y12 y13 y14 y15 y16 y17 y18 y19 y20 y21 y22 y23 y24 => wpL_X3_runByBoth_11 sg_ownVotes sg_groups sg_bars so_ownVotes so_groups so_bars lw_told lw_parts lw_hangMasks lw_hangValues  post n y0 y1 y2 y3 y4 y5 y6 y7 y8 y9 y10 y11 y12 y13 y14 y15 y16 y17 y18 y19 y20 y21 y22 y23 y24) ih n_113 se_order_6 se_from_7 se_cameBy_8 se_runs_9 se_length_10 se_within_33 sg_votes_12 sg_rows_13 sg_now_14 sg_forced_15 sg_barred_16 sg_mayActs_17 sg_mayEnds_18 sg_mays_19 so_votes_20 so_rows_21 so_now_22 so_forced_23 so_barred_24 so_mayActs_25 so_mayEnds_26 so_mays_27 x4_28 x6_30 x5_29 hm
  unfold wp_X3_runByBoth at hm
  refine x_aload_n hC 0 dX3_runByBoth_0 rfl ?_
  refine x_iload_n hC 1 dX3_runByBoth_1 rfl ?_
  refine x_callVv hC _ [0, 1, 2, 3, 4, 5] [6, 7, 8, 9, 10, 11, 12, 13, 14, 15, 16, 17, 18, 19, 20, 21, 22, 23] [18, 19, 20, 21, 22, 23, 0, 1, 2, 3, 4, 5, 6, 7, 8, 9, 10, 11, 12, 13, 14, 15, 16, 17] (W_sg cI sg (lw 0) sg_ownVotes sg_votes sg_rows sg_groups sg_bars sg_now sg_forced sg_barred sg_mayActs sg_mayEnds sg_mays ++ W_sg cI so (lw 0) so_ownVotes so_votes so_rows so_groups so_bars so_now so_forced so_barred so_mayActs so_mayEnds so_mays ++ W_lw cI lw lw_told lw_parts lw_hangMasks lw_hangValues lw_ownSeats) (fun u => W_se cI se (u.1) (u.2.1) se_marks (u.2.2.1) (u.2.2.2.1) (u.2.2.2.2) se_within ++ W_sg cI sg (lw 0) sg_ownVotes sg_votes sg_rows sg_groups sg_bars sg_now sg_forced sg_barred sg_mayActs sg_mayEnds sg_mays ++ W_sg cI so (lw 0) so_ownVotes so_votes so_rows so_groups so_bars so_now so_forced so_barred so_mayActs so_mayEnds so_mays ++ W_lw cI lw lw_told lw_parts lw_hangMasks lw_hangValues lw_ownSeats) ok_X3_startAt ml_X3_33 0 1 (c_X3_startAt (gl Γ) (gD Γ) cI cZ se se_order se_from se_marks se_cameBy se_runs se_length se_within p0 _ hm) (by decide) (by decide) rfl (Nat.le_of_ble_eq_true rfl) rfl rfl rfl rfl (by decide) rfl (fun _ => rfl) rfl rfl rfl rfl dX3_runByBoth_2 ?_
  rintro ⟨se_order_1, se_from_2, se_cameBy_3, se_runs_4, se_length_5⟩ hm
  refine x_iconst hC (0 : Int32) dX3_runByBoth_5 (by decide) ?_
  refine x_istore hC [(0, .ref (se 0)), (1, .int p0), (2, .ref (sg 0)), (3, .ref (so 0)), (4, .int p3), (5, .int ((0 : Int32)))] [1, 2, 3, 4, 5, 0] dX3_runByBoth_6 (by decide) rfl ?_
  refine x_iconst hC (0 : Int32) dX3_runByBoth_8 (by decide) ?_
  refine x_istore hC [(0, .ref (se 0)), (1, .int p0), (2, .ref (sg 0)), (3, .ref (so 0)), (4, .int p3), (5, .int ((0 : Int32))), (6, .int ((0 : Int32)))] [1, 2, 3, 4, 5, 6, 0] dX3_runByBoth_9 (by decide) rfl ?_
  obtain ⟨n_114, hm⟩ := hm
  refine x_lsub [0, 2, 3, 4, 5, 6] rfl ?_
  exact B_11  n_114 se_order_1 se_from_2 se_cameBy_3 se_runs_4 se_length_5 se_within sg_votes sg_rows sg_now sg_forced sg_barred sg_mayActs sg_mayEnds sg_mays so_votes so_rows so_now so_forced so_barred so_mayActs so_mayEnds so_mays p3 ((0 : Int32)) ((0 : Int32)) hm

def wp_X3_size (se_length : Int32)  (post : Int32 → Prop) : Prop := post se_length 
set_option maxHeartbeats 4000000 in
set_option maxRecDepth 100000 in
theorem c_X3_size (l : Launch) (D : va_G) (cI cZ : ClassId) (se : Nat → Nat) (se_order : Nat → Int32) (se_from : Nat → Int32) (se_marks : Nat → Int32) (se_cameBy : Nat → Int32) (se_runs : Int32) (se_length : Int32) (se_within : Nat → Int32)  (post : Int32 → Prop) (hm : wp_X3_size se_length  post) : Mi l D cI cZ yX3_size cX3_size 1 .int 0 0 [.ref (se 0)] (W_se cI se se_order se_from se_marks se_cameBy se_runs se_length se_within) (S := Unit) (fun _ => W_se cI se se_order se_from se_marks se_cameBy se_runs se_length se_within) (fun r _ => post r ) := by
  refine mk_Mi (by decide +kernel) (Nat.le_of_ble_eq_true rfl) ?_
  intro Γ hl0 hD0 hC hR
  subst hl0
  subst hD0
  have hC : CX Γ cI cZ cX3_size RX3 1 0 0 := hC
  show VV Γ (W_se cI se se_order se_from se_marks se_cameBy se_runs se_length se_within) [(0, .ref (se 0))] 0 []
  unfold wp_X3_size at hm
  refine x_aload_n hC 0 dX3_size_0 rfl ?_
  refine x_get hC 1 inX3g 0 rfl rfl 5 (by decide) fl_X3_29 rfl dX3_size_1 ?_
  exact hR se_length () [(0, .ref (se 0))] 4 hm rfl dX3_size_4

def wpL_X3_stepsTo_4 (se_from : Nat → Int32)  (post : Int32 → Prop) : Nat → Int32 → Int32 → Prop
  | 0, _, _ => False
  | n + 1, x2_1, x3_2 => (((16384 : Int32)) ≤ x3_2 → post ((-9 : Int32)) ) ∧ (¬ ((16384 : Int32)) ≤ x3_2 → wp_X5_exists  x2_1 (fun (r_4 : Int32) => (r_4 = 0 → post ((-9 : Int32)) ) ∧ (¬ r_4 = 0 → vp_in x2_1 16384 ∧ ((0 ≤ (se_from x2_1.toNatClampNeg) → vp_in x2_1 16384 ∧ (∀ x2_7 : Int32, x2_7 = (se_from x2_1.toNatClampNeg) >>> (((9 : Int32)) &&& 31) → ∀ x3_8 : Int32, x3_8 = x3_2 + (1 : Int32) → (wpL_X3_stepsTo_4 se_from  post n) x2_7 x3_8)) ∧ (¬ 0 ≤ (se_from x2_1.toNatClampNeg) → post x3_2 )))))
def wp_X3_stepsTo (se_from : Nat → Int32) (p0 : Int32) (post : Int32 → Prop) : Prop := ∃ k4, wpL_X3_stepsTo_4 se_from  post k4 p0 ((0 : Int32))
set_option maxHeartbeats 4000000 in
set_option maxRecDepth 100000 in
theorem c_X3_stepsTo (l : Launch) (D : va_G) (cI cZ : ClassId) (se : Nat → Nat) (se_order : Nat → Int32) (se_from : Nat → Int32) (se_marks : Nat → Int32) (se_cameBy : Nat → Int32) (se_runs : Int32) (se_length : Int32) (se_within : Nat → Int32) (p0 : Int32) (post : Int32 → Prop) (hm : wp_X3_stepsTo se_from p0 post) : Mi l D cI cZ yX3_stepsTo cX3_stepsTo 4 .int 1 20 [.ref (se 0), .int p0] (W_se cI se se_order se_from se_marks se_cameBy se_runs se_length se_within) (S := Unit) (fun _ => W_se cI se se_order se_from se_marks se_cameBy se_runs se_length se_within) (fun r _ => post r ) := by
  refine mk_Mi (by decide +kernel) (Nat.le_of_ble_eq_true rfl) ?_
  intro Γ hl0 hD0 hC hR
  subst hl0
  subst hD0
  have hC : CX Γ cI cZ cX3_stepsTo RX3 4 1 20 := hC
  show VV Γ (W_se cI se se_order se_from se_marks se_cameBy se_runs se_length se_within) [(0, .ref (se 0)), (1, .int p0)] 0 []
  have B_4 : ∀ (n : Nat) (x2_1 : Int32) (x3_2 : Int32), wpL_X3_stepsTo_4 se_from  post n x2_1 x3_2 → VV Γ (W_se cI se se_order se_from se_marks se_cameBy se_runs se_length se_within) [(0, .ref (se 0)), (2, .int x2_1), (3, .int x3_2)] 4 [] := by
    intro  n
    induction n with
    | zero => intro x2_1 x3_2 hm; rw [wpL_X3_stepsTo_4] at hm; exact hm.elim
    | succ n ih =>
      intro x2_1 x3_2 hm
      rw [wpL_X3_stepsTo_4] at hm
      refine x_iload_n hC 2 dX3_stepsTo_4 rfl ?_
      refine x_sipush hC (16384 : Int32) dX3_stepsTo_5 (by decide) ?_
      refine x_icmp_ge hC 45 dX3_stepsTo_8 (by decide) (fun c_3 => ?_) (fun c_3 => ?_)
      · replace hm := hm.1 c_3
        refine x_bipush hC (-9 : Int32) dX3_stepsTo_45 (by decide) ?_
        exact hR ((-9 : Int32)) () [(0, .ref (se 0)), (2, .int x2_1), (3, .int x3_2)] 47 hm rfl dX3_stepsTo_47
      · replace hm := hm.2 c_3
        refine x_iload_n hC 1 dX3_stepsTo_11 rfl ?_
        refine x_callSi hC _ [] [0, 1, 2, 3, 4, 5] [0, 1, 2, 3, 4, 5] (W_se cI se se_order se_from se_marks se_cameBy se_runs se_length se_within) (fun _ => W_se cI se se_order se_from se_marks se_cameBy se_runs se_length se_within) ok_X5_exists ml_X3_72 (c_X5_exists (gl Γ) (gD Γ) cI cZ   x2_1 _ hm) (by decide) (by decide) rfl (Nat.le_of_ble_eq_true rfl) rfl rfl rfl rfl (by decide) rfl (fun _ => rfl) rfl dX3_stepsTo_12 ?_
        rintro r_4 _ hm
        refine x_if_eq hC 45 dX3_stepsTo_15 (by decide) (fun c_5 => ?_) (fun c_5 => ?_)
        · replace hm := hm.1 c_5
          refine x_bipush hC (-9 : Int32) dX3_stepsTo_45 (by decide) ?_
          exact hR ((-9 : Int32)) () [(0, .ref (se 0)), (2, .int x2_1), (3, .int x3_2)] 47 hm rfl dX3_stepsTo_47
        · replace hm := hm.2 c_5
          refine x_aload_n hC 0 dX3_stepsTo_18 rfl ?_
          refine x_get hC 1 inX3g 0 rfl rfl 1 (by decide) fl_X3_17 rfl dX3_stepsTo_19 ?_
          refine x_iload_n hC 1 dX3_stepsTo_22 rfl ?_
          refine x_iald hC 2 rfl hm.1 dX3_stepsTo_23 ?_
          replace hm := hm.2
          refine x_if_ge hC 29 dX3_stepsTo_24 (by decide) (fun c_6 => ?_) (fun c_6 => ?_)
          · replace hm := hm.1 c_6
            refine x_aload_n hC 0 dX3_stepsTo_29 rfl ?_
            refine x_get hC 1 inX3g 0 rfl rfl 1 (by decide) fl_X3_17 rfl dX3_stepsTo_30 ?_
            refine x_iload_n hC 1 dX3_stepsTo_33 rfl ?_
            refine x_iald hC 2 rfl hm.1 dX3_stepsTo_34 ?_
            replace hm := hm.2
            refine x_bipush hC (9 : Int32) dX3_stepsTo_35 (by decide) ?_
            refine x_ishr hC dX3_stepsTo_37 ?_
            refine x_top (fun x2_7 ex2_7 => ?_)
            replace hm := hm x2_7 ex2_7
            refine x_istore_n hC [(0, .ref (se 0)), (2, .int x2_7), (3, .int x3_2)] [1, 0, 2] dX3_stepsTo_38 (by decide) rfl ?_
            obtain ⟨x3_8, ex3_8⟩ : ∃ y : Int32, y = x3_2 + (1 : Int32) := ⟨_, rfl⟩
            replace hm := hm x3_8 ex3_8
            refine x_iinc hC 2 x3_8 [(0, .ref (se 0)), (2, .int x2_7), (3, .int x3_8)] [1, 2, 0] dX3_stepsTo_39 rfl (by rw [ex3_8]; rfl) (by decide) rfl ?_
            refine x_goto hC 4 dX3_stepsTo_42 (by decide) ?_
            exact ih x2_7 x3_8 hm
          · replace hm := hm.2 c_6
            refine x_iload_n hC 2 dX3_stepsTo_27 rfl ?_
            exact hR x3_2 () [(0, .ref (se 0)), (2, .int x2_1), (3, .int x3_2)] 28 hm rfl dX3_stepsTo_28
  unfold wp_X3_stepsTo at hm
  refine x_iload_n hC 1 dX3_stepsTo_0 rfl ?_
  refine x_istore_n hC [(0, .ref (se 0)), (1, .int p0), (2, .int p0)] [1, 2, 0] dX3_stepsTo_1 (by decide) rfl ?_
  refine x_iconst hC (0 : Int32) dX3_stepsTo_2 (by decide) ?_
  refine x_istore_n hC [(0, .ref (se 0)), (1, .int p0), (2, .int p0), (3, .int ((0 : Int32)))] [1, 2, 3, 0] dX3_stepsTo_3 (by decide) rfl ?_
  obtain ⟨n_9, hm⟩ := hm
  refine x_lsub [0, 2, 3] rfl ?_
  exact B_4  n_9 p0 ((0 : Int32)) hm

def wpJ_X3_stepOnWayTo_58 (se_from : Nat → Int32)  (post : Int32 → Prop) (x4_9 : Int32) : Prop := wp_X5_exists  x4_9 (fun (r_10 : Int32) => (r_10 = 0 → post ((-9 : Int32)) ) ∧ (¬ r_10 = 0 → vp_in x4_9 16384 ∧ (post ((se_from x4_9.toNatClampNeg) &&& ((511 : Int32))) )))
def wpL_X3_stepOnWayTo_26 (se_from : Nat → Int32)  (post : Int32 → Prop) : Nat → Int32 → Int32 → Int32 → Prop
  | 0, _, _, _ => False
  | n + 1, x2_5, x4_6, x5_7 => (x5_7 ≤ x2_5 → wpJ_X3_stepOnWayTo_58 se_from  post x4_6) ∧ (¬ x5_7 ≤ x2_5 → wp_X5_exists  x4_6 (fun (r_12 : Int32) => (r_12 = 0 → wpJ_X3_stepOnWayTo_58 se_from  post x4_6) ∧ (¬ r_12 = 0 → vp_in x4_6 16384 ∧ (∀ x4_14 : Int32, x4_14 = (se_from x4_6.toNatClampNeg) >>> (((9 : Int32)) &&& 31) → ∀ x5_15 : Int32, x5_15 = x5_7 + (-1 : Int32) → (wpL_X3_stepOnWayTo_26 se_from  post n) x2_5 x4_14 x5_15))))
def wp_X3_stepOnWayTo (se_from : Nat → Int32) (p0 : Int32) (p1 : Int32) (post : Int32 → Prop) : Prop := wp_X3_stepsTo se_from p0 (fun (r_1 : Int32) => (p1 < 0 → post ((-9 : Int32)) ) ∧ (¬ p1 < 0 → (p1 < r_1 → ∀ x5_4 : Int32, x5_4 = r_1 - ((1 : Int32)) → ∃ k26, wpL_X3_stepOnWayTo_26 se_from  post k26 p1 p0 x5_4) ∧ (¬ p1 < r_1 → post ((-9 : Int32)) )))
set_option maxHeartbeats 4000000 in
set_option maxRecDepth 100000 in
theorem c_X3_stepOnWayTo (l : Launch) (D : va_G) (cI cZ : ClassId) (se : Nat → Nat) (se_order : Nat → Int32) (se_from : Nat → Int32) (se_marks : Nat → Int32) (se_cameBy : Nat → Int32) (se_runs : Int32) (se_length : Int32) (se_within : Nat → Int32) (p0 : Int32) (p1 : Int32) (post : Int32 → Prop) (hm : wp_X3_stepOnWayTo se_from p0 p1 post) : Mi l D cI cZ yX3_stepOnWayTo cX3_stepOnWayTo 6 .int 2 43 [.ref (se 0), .int p0, .int p1] (W_se cI se se_order se_from se_marks se_cameBy se_runs se_length se_within) (S := Unit) (fun _ => W_se cI se se_order se_from se_marks se_cameBy se_runs se_length se_within) (fun r _ => post r ) := by
  refine mk_Mi (by decide +kernel) (Nat.le_of_ble_eq_true rfl) ?_
  intro Γ hl0 hD0 hC hR
  subst hl0
  subst hD0
  have hC : CX Γ cI cZ cX3_stepOnWayTo RX3 6 2 43 := hC
  show VV Γ (W_se cI se se_order se_from se_marks se_cameBy se_runs se_length se_within) [(0, .ref (se 0)), (1, .int p0), (2, .int p1)] 0 []
  have B_58 : ∀ (x4_9 : Int32), wpJ_X3_stepOnWayTo_58 se_from  post x4_9 → VV Γ (W_se cI se se_order se_from se_marks se_cameBy se_runs se_length se_within) [(0, .ref (se 0)), (4, .int x4_9)] 58 [] := by
    intro  x4_9 hm
    unfold wpJ_X3_stepOnWayTo_58 at hm
    refine x_iload hC 1 dX3_stepOnWayTo_58 rfl ?_
    refine x_callSi hC _ [] [0, 1, 2, 3, 4, 5] [0, 1, 2, 3, 4, 5] (W_se cI se se_order se_from se_marks se_cameBy se_runs se_length se_within) (fun _ => W_se cI se se_order se_from se_marks se_cameBy se_runs se_length se_within) ok_X5_exists ml_X3_72 (c_X5_exists (gl Γ) (gD Γ) cI cZ   x4_9 _ hm) (by decide) (by decide) rfl (Nat.le_of_ble_eq_true rfl) rfl rfl rfl rfl (by decide) rfl (fun _ => rfl) rfl dX3_stepOnWayTo_60 ?_
    rintro r_10 _ hm
    refine x_if_eq hC 80 dX3_stepOnWayTo_63 (by decide) (fun c_11 => ?_) (fun c_11 => ?_)
    · replace hm := hm.1 c_11
      refine x_bipush hC (-9 : Int32) dX3_stepOnWayTo_80 (by decide) ?_
      exact hR ((-9 : Int32)) () [(0, .ref (se 0)), (4, .int x4_9)] 82 hm rfl dX3_stepOnWayTo_82
    · replace hm := hm.2 c_11
      refine x_aload_n hC 0 dX3_stepOnWayTo_66 rfl ?_
      refine x_get hC 1 inX3g 0 rfl rfl 1 (by decide) fl_X3_17 rfl dX3_stepOnWayTo_67 ?_
      refine x_iload hC 1 dX3_stepOnWayTo_70 rfl ?_
      refine x_iald hC 2 rfl hm.1 dX3_stepOnWayTo_72 ?_
      replace hm := hm.2
      refine x_sipush hC (511 : Int32) dX3_stepOnWayTo_73 (by decide) ?_
      refine x_iand hC dX3_stepOnWayTo_76 ?_
      refine x_goto hC 82 dX3_stepOnWayTo_77 (by decide) ?_
      exact hR ((se_from x4_9.toNatClampNeg) &&& ((511 : Int32))) () [(0, .ref (se 0)), (4, .int x4_9)] 82 hm rfl dX3_stepOnWayTo_82
  have B_26 : ∀ (n : Nat) (x2_5 : Int32) (x4_6 : Int32) (x5_7 : Int32), wpL_X3_stepOnWayTo_26 se_from  post n x2_5 x4_6 x5_7 → VV Γ (W_se cI se se_order se_from se_marks se_cameBy se_runs se_length se_within) [(0, .ref (se 0)), (2, .int x2_5), (4, .int x4_6), (5, .int x5_7)] 26 [] := by
    intro  n
    induction n with
    | zero => intro x2_5 x4_6 x5_7 hm; rw [wpL_X3_stepOnWayTo_26] at hm; exact hm.elim
    | succ n ih =>
      intro x2_5 x4_6 x5_7 hm
      rw [wpL_X3_stepOnWayTo_26] at hm
      refine x_iload hC 3 dX3_stepOnWayTo_26 rfl ?_
      refine x_iload_n hC 1 dX3_stepOnWayTo_28 rfl ?_
      refine x_icmp_le hC 58 dX3_stepOnWayTo_29 (by decide) (fun c_8 => ?_) (fun c_8 => ?_)
      · replace hm := hm.1 c_8
        refine x_lsub [0, 2] rfl ?_
        exact B_58   x4_6 hm
      · replace hm := hm.2 c_8
        refine x_iload hC 2 dX3_stepOnWayTo_32 rfl ?_
        refine x_callSi hC _ [] [0, 1, 2, 3, 4, 5] [0, 1, 2, 3, 4, 5] (W_se cI se se_order se_from se_marks se_cameBy se_runs se_length se_within) (fun _ => W_se cI se se_order se_from se_marks se_cameBy se_runs se_length se_within) ok_X5_exists ml_X3_72 (c_X5_exists (gl Γ) (gD Γ) cI cZ   x4_6 _ hm) (by decide) (by decide) rfl (Nat.le_of_ble_eq_true rfl) rfl rfl rfl rfl (by decide) rfl (fun _ => rfl) rfl dX3_stepOnWayTo_34 ?_
        rintro r_12 _ hm
        refine x_if_eq hC 58 dX3_stepOnWayTo_37 (by decide) (fun c_13 => ?_) (fun c_13 => ?_)
        · replace hm := hm.1 c_13
          refine x_lsub [0, 2] rfl ?_
          exact B_58   x4_6 hm
        · replace hm := hm.2 c_13
          refine x_aload_n hC 0 dX3_stepOnWayTo_40 rfl ?_
          refine x_get hC 1 inX3g 0 rfl rfl 1 (by decide) fl_X3_17 rfl dX3_stepOnWayTo_41 ?_
          refine x_iload hC 2 dX3_stepOnWayTo_44 rfl ?_
          refine x_iald hC 2 rfl hm.1 dX3_stepOnWayTo_46 ?_
          replace hm := hm.2
          refine x_bipush hC (9 : Int32) dX3_stepOnWayTo_47 (by decide) ?_
          refine x_ishr hC dX3_stepOnWayTo_49 ?_
          refine x_top (fun x4_14 ex4_14 => ?_)
          replace hm := hm x4_14 ex4_14
          refine x_istore hC [(0, .ref (se 0)), (2, .int x2_5), (4, .int x4_14), (5, .int x5_7)] [1, 2, 0, 3] dX3_stepOnWayTo_50 (by decide) rfl ?_
          obtain ⟨x5_15, ex5_15⟩ : ∃ y : Int32, y = x5_7 + (-1 : Int32) := ⟨_, rfl⟩
          replace hm := hm x5_15 ex5_15
          refine x_iinc hC 3 x5_15 [(0, .ref (se 0)), (2, .int x2_5), (4, .int x4_14), (5, .int x5_15)] [1, 2, 3, 0] dX3_stepOnWayTo_52 rfl (by rw [ex5_15]; rfl) (by decide) rfl ?_
          refine x_goto hC 26 dX3_stepOnWayTo_55 (by decide) ?_
          exact ih x2_5 x4_14 x5_15 hm
  unfold wp_X3_stepOnWayTo at hm
  refine x_aload_n hC 0 dX3_stepOnWayTo_0 rfl ?_
  refine x_iload_n hC 1 dX3_stepOnWayTo_1 rfl ?_
  refine x_callVi hC _ [0, 1, 2, 3, 4, 5] [] [0, 1, 2, 3, 4, 5] (([] : va_W)) (fun _ => W_se cI se se_order se_from se_marks se_cameBy se_runs se_length se_within) ok_X3_stepsTo ml_X3_79 0 1 (c_X3_stepsTo (gl Γ) (gD Γ) cI cZ se se_order se_from se_marks se_cameBy se_runs se_length se_within p0 _ hm) (by decide) (by decide) rfl (Nat.le_of_ble_eq_true rfl) rfl rfl rfl rfl (by decide) rfl (fun _ => rfl) rfl rfl rfl rfl dX3_stepOnWayTo_2 ?_
  rintro r_1 _ hm
  refine x_istore_n hC [(0, .ref (se 0)), (1, .int p0), (2, .int p1), (3, .int r_1)] [1, 2, 3, 0] dX3_stepOnWayTo_5 (by decide) rfl ?_
  refine x_iload_n hC 2 dX3_stepOnWayTo_6 rfl ?_
  refine x_if_lt hC 15 dX3_stepOnWayTo_7 (by decide) (fun c_2 => ?_) (fun c_2 => ?_)
  · replace hm := hm.1 c_2
    refine x_bipush hC (-9 : Int32) dX3_stepOnWayTo_15 (by decide) ?_
    exact hR ((-9 : Int32)) () [(0, .ref (se 0)), (1, .int p0), (2, .int p1), (3, .int r_1)] 17 hm rfl dX3_stepOnWayTo_17
  · replace hm := hm.2 c_2
    refine x_iload_n hC 2 dX3_stepOnWayTo_10 rfl ?_
    refine x_iload_n hC 3 dX3_stepOnWayTo_11 rfl ?_
    refine x_icmp_lt hC 18 dX3_stepOnWayTo_12 (by decide) (fun c_3 => ?_) (fun c_3 => ?_)
    · replace hm := hm.1 c_3
      refine x_iload_n hC 1 dX3_stepOnWayTo_18 rfl ?_
      refine x_istore hC [(0, .ref (se 0)), (1, .int p0), (2, .int p1), (3, .int r_1), (4, .int p0)] [1, 2, 3, 4, 0] dX3_stepOnWayTo_19 (by decide) rfl ?_
      refine x_iload_n hC 3 dX3_stepOnWayTo_21 rfl ?_
      refine x_iconst hC (1 : Int32) dX3_stepOnWayTo_22 (by decide) ?_
      refine x_isub hC dX3_stepOnWayTo_23 ?_
      refine x_top (fun x5_4 ex5_4 => ?_)
      replace hm := hm x5_4 ex5_4
      refine x_istore hC [(0, .ref (se 0)), (1, .int p0), (2, .int p1), (3, .int r_1), (4, .int p0), (5, .int x5_4)] [1, 2, 3, 4, 5, 0] dX3_stepOnWayTo_24 (by decide) rfl ?_
      obtain ⟨n_16, hm⟩ := hm
      refine x_lsub [0, 2, 4, 5] rfl ?_
      exact B_26  n_16 p1 p0 x5_4 hm
    · replace hm := hm.2 c_3
      refine x_bipush hC (-9 : Int32) dX3_stepOnWayTo_15 (by decide) ?_
      exact hR ((-9 : Int32)) () [(0, .ref (se 0)), (1, .int p0), (2, .int p1), (3, .int r_1)] 17 hm rfl dX3_stepOnWayTo_17
