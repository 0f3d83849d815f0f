set_option maxHeartbeats 4000000 in
set_option maxRecDepth 100000 in
theorem law_loop {L : Nat} (hL : L ≤ 2560) (xs : Nat → Int32) {post : Prop} (hp : post) : ∀ (q N : Nat) {sl_rollSets : Nat → Int32} {sl_rollActs : Nat → Int32} {sl_rolled : Int32} {sl_kept : Nat → Int32} {sl_state : Int32} {se_order : Nat → Int32} {se_from : Nat → Int32} {se_marks : Nat → Int32} {se_cameBy : Nat → Int32} {se_runs : Int32} {se_length : Int32} {se_within : Nat → Int32} {sg_ownVotes : Nat → Int32} {sg_votes : Nat → Int32} {sg_rows : Nat → Int32} {sg_groups : Int32} {sg_bars : Int32} {sg_now : Int32} {sg_forced : Int32} {sg_barred : Int32} {sg_mayActs : Nat → Int32} {sg_mayEnds : Nat → Int32} {sg_mays : Int32} {so_ownVotes : Nat → Int32} {so_votes : Nat → Int32} {so_rows : Nat → Int32} {so_groups : Int32} {so_bars : Int32} {so_now : Int32} {so_forced : Int32} {so_barred : Int32} {so_mayActs : Nat → Int32} {so_mayEnds : Nat → Int32} {so_mays : Int32} {lw_told : Nat → Int32} {lw_parts : Nat → Int32} {lw_hangMasks : Nat → Int32} {lw_hangValues : Nat → Int32} {lw_ownSeats : Nat → Int32} {tx_bytes : Nat → Int32} {tx_length : Int32} {tx_parts : Nat → Int32} {tx_place : Int32} {tx_firstFault : Int32} {md_thrown : Int32} {md_text : Nat → Int32} {md_textSize : Int32} {md_place : Int32} {md_letter : Int32} {md_first : Int32} {md_second : Int32} {md_third : Int32} {md_side : Int32} {md_hang : Int32} {md_forms : Nat → Int32} {md_formMany : Nat → Int32} {md_seats : Nat → Int32} {md_now : Int32} {md_barAlways : Int32} {md_noPut : Int32} {md_far : Nat → Int32} {md_queue : Nat → Int32} {md_from : Nat → Int32} {md_by : Nat → Int32} {md_many : Int32} {md_is : Nat → Int32} {md_next : Nat → Int32} {md_rollSet : Nat → Int32} {md_rollAct : Nat → Int32} {md_rolls : Int32} {md_slots : Nat → Int32} {md_isKept : Nat → Int32} {x3 : Int32}, REL N tx_bytes tx_length md_text md_textSize lw_told lw_parts lw_hangMasks lw_hangValues lw_ownSeats md_forms md_formMany md_seats sl_state md_now sl_rolled md_rolls sl_rollSets sl_rollActs md_rollSet md_rollAct sl_kept md_slots md_isKept md_barAlways md_noPut se_cameBy se_runs → x3 = nI (5 * N) → 5 * N ≤ L + 4 → L + 5 < 5 * (q + N) → wpL_L_law_18 L xs post q sl_rollSets sl_rollActs sl_rolled sl_kept sl_state se_order se_from se_marks se_cameBy se_runs se_length se_within sg_ownVotes sg_votes sg_rows sg_groups sg_bars sg_now sg_forced sg_barred sg_mayActs sg_mayEnds sg_mays so_ownVotes so_votes so_rows so_groups so_bars so_now so_forced so_barred so_mayActs so_mayEnds so_mays lw_told lw_parts lw_hangMasks lw_hangValues lw_ownSeats tx_bytes tx_length tx_parts tx_place tx_firstFault md_thrown md_text md_textSize md_place md_letter md_first md_second md_third md_side md_hang md_forms md_formMany md_seats md_now md_barAlways md_noPut md_far md_queue md_from md_by md_many md_is md_next md_rollSet md_rollAct md_rolls md_slots md_isKept x3 := by
  intro q
  induction q with
  | zero => intros; omega
  | succ q ih =>
    intro N sl_rollSets sl_rollActs sl_rolled sl_kept sl_state se_order se_from se_marks se_cameBy se_runs se_length se_within sg_ownVotes sg_votes sg_rows sg_groups sg_bars sg_now sg_forced sg_barred sg_mayActs sg_mayEnds sg_mays so_ownVotes so_votes so_rows so_groups so_bars so_now so_forced so_barred so_mayActs so_mayEnds so_mays lw_told lw_parts lw_hangMasks lw_hangValues lw_ownSeats tx_bytes tx_length tx_parts tx_place tx_firstFault md_thrown md_text md_textSize md_place md_letter md_first md_second md_third md_side md_hang md_forms md_formMany md_seats md_now md_barAlways md_noPut md_far md_queue md_from md_by md_many md_is md_next md_rollSet md_rollAct md_rolls md_slots md_isKept x3 hR hx hb hq
    rw [wpL_L_law_18]
    revert ih
    generalize wpL_L_law_18 L xs post q = KK
    intro ih
    refine ⟨fun _ => hp, fun w => ?_⟩
    have hi : 5 * N + 5 ≤ L := by
      have h1 : ((Int32.ofNat L) - (5 : Int32)).toInt = (L : Int) - (5 : Nat) := pk_sub_toInt (a := L) (b := 5) (by omega) (by decide)
      have h2 : ¬ ((Int32.ofNat L) - (5 : Int32)).toInt < x3.toInt := fun z => w (Int32.lt_iff_toInt_lt.mpr z)
      rw [h1, hx, nI_toInt (by omega)] at h2
      omega
    have hN : N < 600 := by omega
    have v1 : vp_in (x3 + ((1 : Int32))) L := pk_in (5 * N + 1) L (by omega) (by rw [hx]; exact nI_add (5 * N) 1)
    have v2 : vp_in (x3 + ((2 : Int32))) L := pk_in (5 * N + 2) L (by omega) (by rw [hx]; exact nI_add (5 * N) 2)
    have v3 : vp_in (x3 + ((3 : Int32))) L := pk_in (5 * N + 3) L (by omega) (by rw [hx]; exact nI_add (5 * N) 3)
    have v4 : vp_in (x3 + ((4 : Int32))) L := pk_in (5 * N + 4) L (by omega) (by rw [hx]; exact nI_add (5 * N) 4)
    have go : ∀ {sl_rollSets : Nat → Int32} {sl_rollActs : Nat → Int32} {sl_rolled : Int32} {sl_kept : Nat → Int32} {sl_state : Int32} {se_order : Nat → Int32} {se_from : Nat → Int32} {se_marks : Nat → Int32} {se_cameBy : Nat → Int32} {se_runs : Int32} {se_length : Int32} {se_within : Nat → Int32} {sg_ownVotes : Nat → Int32} {sg_votes : Nat → Int32} {sg_rows : Nat → Int32} {sg_groups : Int32} {sg_bars : Int32} {sg_now : Int32} {sg_forced : Int32} {sg_barred : Int32} {sg_mayActs : Nat → Int32} {sg_mayEnds : Nat → Int32} {sg_mays : Int32} {so_ownVotes : Nat → Int32} {so_votes : Nat → Int32} {so_rows : Nat → Int32} {so_groups : Int32} {so_bars : Int32} {so_now : Int32} {so_forced : Int32} {so_barred : Int32} {so_mayActs : Nat → Int32} {so_mayEnds : Nat → Int32} {so_mays : Int32} {lw_told : Nat → Int32} {lw_parts : Nat → Int32} {lw_hangMasks : Nat → Int32} {lw_hangValues : Nat → Int32} {lw_ownSeats : Nat → Int32} {tx_bytes : Nat → Int32} {tx_length : Int32} {tx_parts : Nat → Int32} {tx_place : Int32} {tx_firstFault : Int32} {md_thrown : Int32} {md_text : Nat → Int32} {md_textSize : Int32} {md_place : Int32} {md_letter : Int32} {md_first : Int32} {md_second : Int32} {md_third : Int32} {md_side : Int32} {md_hang : Int32} {md_forms : Nat → Int32} {md_formMany : Nat → Int32} {md_seats : Nat → Int32} {md_now : Int32} {md_barAlways : Int32} {md_noPut : Int32} {md_far : Nat → Int32} {md_queue : Nat → Int32} {md_from : Nat → Int32} {md_by : Nat → Int32} {md_many : Int32} {md_is : Nat → Int32} {md_next : Nat → Int32} {md_rollSet : Nat → Int32} {md_rollAct : Nat → Int32} {md_rolls : Int32} {md_slots : Nat → Int32} {md_isKept : Nat → Int32}, REL (N + 1) tx_bytes tx_length md_text md_textSize lw_told lw_parts lw_hangMasks lw_hangValues lw_ownSeats md_forms md_formMany md_seats sl_state md_now sl_rolled md_rolls sl_rollSets sl_rollActs md_rollSet md_rollAct sl_kept md_slots md_isKept md_barAlways md_noPut se_cameBy se_runs → ∀ y : Int32, y = x3 + (5 : Int32) → KK sl_rollSets sl_rollActs sl_rolled sl_kept sl_state se_order se_from se_marks se_cameBy se_runs se_length se_within sg_ownVotes sg_votes sg_rows sg_groups sg_bars sg_now sg_forced sg_barred sg_mayActs sg_mayEnds sg_mays so_ownVotes so_votes so_rows so_groups so_bars so_now so_forced so_barred so_mayActs so_mayEnds so_mays lw_told lw_parts lw_hangMasks lw_hangValues lw_ownSeats tx_bytes tx_length tx_parts tx_place tx_firstFault md_thrown md_text md_textSize md_place md_letter md_first md_second md_third md_side md_hang md_forms md_formMany md_seats md_now md_barAlways md_noPut md_far md_queue md_from md_by md_many md_is md_next md_rollSet md_rollAct md_rolls md_slots md_isKept y := by
      intro sl_rollSets sl_rollActs sl_rolled sl_kept sl_state se_order se_from se_marks se_cameBy se_runs se_length se_within sg_ownVotes sg_votes sg_rows sg_groups sg_bars sg_now sg_forced sg_barred sg_mayActs sg_mayEnds sg_mays so_ownVotes so_votes so_rows so_groups so_bars so_now so_forced so_barred so_mayActs so_mayEnds so_mays lw_told lw_parts lw_hangMasks lw_hangValues lw_ownSeats tx_bytes tx_length tx_parts tx_place tx_firstFault md_thrown md_text md_textSize md_place md_letter md_first md_second md_third md_side md_hang md_forms md_formMany md_seats md_now md_barAlways md_noPut md_far md_queue md_from md_by md_many md_is md_next md_rollSet md_rollAct md_rolls md_slots md_isKept hR y hy
      refine ih (N + 1) hR ?_ (by omega) (by omega)
      rw [hy, hx, show 5 * (N + 1) = 5 * N + 5 by omega]
      exact nI_add (5 * N) 5
    clear ih
    refine ⟨pk_in (5 * N) L (by omega) hx, ?_⟩
    generalize ((xs x3.toNatClampNeg) &&& ((63 : Int32))) = op
    refine ⟨fun _ => ?_, fun _ => ?_⟩
    · simp only [v1, v2, v3, true_and]
      exact sim_write hN hR _ _ (fun _ _ _ _ _ _ hR1 => ⟨fun _ => go hR1, fun z => absurd rfl z⟩)
    refine ⟨fun _ => ?_, fun _ => ?_⟩
    · exact sim_wipe hN hR  (fun _ _ _ _ hR1 => ⟨fun _ => go hR1, fun z => absurd rfl z⟩)
    refine ⟨fun _ => ?_, fun _ => ?_⟩
    · exact sim_fault hN hR  (fun _ _ _ _ _ _ _ _ _ _ _ _ hR1 => ⟨fun _ => go hR1, fun z => absurd rfl z⟩)
    refine ⟨fun _ => ?_, fun _ => ?_⟩
    · simp only [v1, true_and]
      exact sim_form hN hR _ (fun _ _ _ _ _ _ _ _ _ _ _ _ _ _ _ _ _ _ hR1 => ⟨fun _ => go hR1, fun z => absurd rfl z⟩)
    refine ⟨fun _ => ?_, fun _ => ?_⟩
    · simp only [v1, true_and]
      exact sim_unform hN hR _ (fun _ _ _ _ _ _ hR1 => ⟨fun _ => go hR1, fun z => absurd rfl z⟩)
    refine ⟨fun _ => ?_, fun _ => ?_⟩
    · simp only [v1, v2, v3, true_and]
      exact sim_about hN hR _ _ _ (fun _ _ hR1 => ⟨fun _ => go hR1, fun z => absurd rfl z⟩)
    refine ⟨fun _ => ?_, fun _ => ?_⟩
    · simp only [v1, v2, v3, true_and]
      exact sim_seats hN hR _ _ _ (fun _ _ _ _ hR1 => ⟨fun _ => go hR1, fun z => absurd rfl z⟩)
    refine ⟨fun _ => ?_, fun _ => ?_⟩
    · simp only [v1, v2, true_and]
      exact sim_stand hN hR _ _ (fun _ _ _ _ hR1 => ⟨fun _ => go hR1, fun z => absurd rfl z⟩)
    refine ⟨fun _ => ?_, fun _ => ?_⟩
    · simp only [v1, v2, true_and]
      unfold wpJ_L_law_465
      by_cases z : xs (x3 + ((2 : Int32))).toNatClampNeg = 0
      · have z1 : (xs (x3 + ((2 : Int32))).toNatClampNeg = 0) = True := eq_true z
        simp only [z1, v1, v2, true_and, true_implies, not_true_eq_false, false_implies, and_true]
        exact sim_thing hN hR _ _ (fun _ _ _ _ hR1 => ⟨fun _ => go hR1, fun z => absurd rfl z⟩)
      · have z1 : (xs (x3 + ((2 : Int32))).toNatClampNeg = 0) = False := eq_false z
        simp only [z1, v1, v2, true_and, true_implies, not_false_eq_true, false_implies, and_true]
        exact sim_thing hN hR _ _ (fun _ _ _ _ hR1 => ⟨fun _ => go hR1, fun z => absurd rfl z⟩)
    refine ⟨fun _ => ?_, fun _ => ?_⟩
    · simp only [v1, true_and]
      exact sim_at hN hR _ (fun _ _ hR1 => ⟨fun _ => go hR1, fun z => absurd rfl z⟩)
    refine ⟨fun _ => ?_, fun _ => ?_⟩
    · simp only [v1, true_and]
      exact sim_force hN hR _ (fun _ _ hR1 => ⟨fun _ => go hR1, fun z => absurd rfl z⟩)
    refine ⟨fun _ => ?_, fun _ => ?_⟩
    · simp only [v1, v2, true_and]
      exact sim_votes hN hR _ _ (fun _ _ _ _ _ _ _ _ _ _ hR1 => ⟨fun _ => go hR1, fun z => absurd rfl z⟩)
    refine ⟨fun _ => ?_, fun _ => ?_⟩
    · simp only [v1, true_and]
      exact sim_is hN hR _ (fun _ _ hR1 => ⟨fun _ => go hR1, fun z => absurd rfl z⟩)
    refine ⟨fun _ => ?_, fun _ => ?_⟩
    · simp only [v1, true_and]
      exact sim_acts hN hR _ (fun _ _ _ _ _ _ _ _ _ _ _ _ _ hR1 => ⟨fun _ => go hR1, fun z => absurd rfl z⟩)
    refine ⟨fun _ => ?_, fun _ => ?_⟩
    · simp only [v1, v2, true_and]
      exact sim_which hN hR _ _ (fun _ _ _ _ _ _ _ _ _ _ _ _ _ hR1 => ⟨fun _ => go hR1, fun z => absurd rfl z⟩)
    refine ⟨fun _ => ?_, fun _ => ?_⟩
    · simp only [v1, v2, true_and]
      exact sim_why hN hR _ _ (fun _ _ _ _ _ _ _ _ _ _ hR1 => ⟨fun _ => go hR1, fun z => absurd rfl z⟩)
    refine ⟨fun _ => ?_, fun _ => ?_⟩
    · simp only [v1, v2, true_and]
      exact sim_act hN hR _ _ (fun _ _ _ _ _ _ _ _ _ _ _ _ hR1 => ⟨fun _ => go hR1, fun z => absurd rfl z⟩)
    refine ⟨fun _ => ?_, fun _ => ?_⟩
    · simp only [v1, true_and]
      exact sim_reach hN hR _ (fun _ _ _ _ _ _ _ _ _ _ _ _ _ _ _ _ _ _ _ _ _ _ _ hR1 => ⟨fun _ => go hR1, fun z => absurd rfl z⟩)
    refine ⟨fun _ => ?_, fun _ => ?_⟩
    · simp only [v1, v2, true_and]
      exact sim_among hN hR _ _ (fun _ _ _ _ _ _ _ _ _ _ _ _ _ _ _ _ _ _ _ _ _ _ _ hR1 => ⟨fun _ => go hR1, fun z => absurd rfl z⟩)
    refine ⟨fun _ => ?_, fun _ => ?_⟩
    · simp only [v1, v2, true_and]
      exact sim_shortest hN hR _ _ (fun _ _ _ _ _ _ _ _ _ _ _ _ _ _ _ _ _ _ _ _ _ _ _ hR1 => ⟨fun _ => go hR1, fun z => absurd rfl z⟩)
    refine ⟨fun _ => ?_, fun _ => ?_⟩
    · simp only [v1, v2, v3, true_and]
      exact sim_step hN hR _ _ _ (fun _ _ _ _ _ _ _ _ _ _ _ _ _ _ _ _ _ _ _ _ _ _ _ hR1 => ⟨fun _ => go hR1, fun z => absurd rfl z⟩)
    refine ⟨fun _ => ?_, fun _ => ?_⟩
    · simp only [v1, true_and]
      exact sim_who hN hR _ (fun _ _ _ _ _ _ _ _ _ _ _ _ _ _ _ _ _ _ _ _ _ _ _ hR1 => ⟨fun _ => go hR1, fun z => absurd rfl z⟩)
    refine ⟨fun _ => ?_, fun _ => ?_⟩
    · simp only [v1, true_and]
      exact sim_forGood hN hR _ (fun _ _ _ _ _ _ _ _ _ _ _ _ _ _ _ _ _ _ _ _ _ _ _ _ hR1 => ⟨fun _ => go hR1, fun z => absurd rfl z⟩)
    refine ⟨fun _ => ?_, fun _ => ?_⟩
    · simp only [v1, v2, true_and]
      exact sim_trap hN hR _ _ (fun _ _ _ _ _ _ _ _ _ _ _ _ _ _ _ _ _ _ _ _ _ _ _ _ _ hR1 => ⟨fun _ => go hR1, fun z => absurd rfl z⟩)
    refine ⟨fun _ => ?_, fun _ => ?_⟩
    · simp only [v1, v2, true_and]
      exact sim_hold hN hR _ _ (fun _ _ _ _ _ _ _ _ _ _ _ _ _ _ _ _ _ _ _ _ _ _ _ hR1 => ⟨fun _ => go hR1, fun z => absurd rfl z⟩)
    refine ⟨fun _ => ?_, fun _ => ?_⟩
    · simp only [v1, v2, true_and]
      exact sim_hangs hN hR _ _ (fun _ _ _ _ _ _ _ _ _ _ _ _ _ _ _ _ _ _ _ _ _ _ _ hR1 => ⟨fun _ => go hR1, fun z => absurd rfl z⟩)
    refine ⟨fun _ => ?_, fun _ => ?_⟩
    · simp only [v1, v2, true_and]
      exact sim_remedy hN hR _ _ (fun _ _ _ _ _ _ _ _ _ _ _ _ _ _ _ _ _ _ _ _ _ _ _ _ hR1 => ⟨fun _ => go hR1, fun z => absurd rfl z⟩)
    refine ⟨fun _ => ?_, fun _ => ?_⟩
    · simp only [v1, v2, v3, v4, true_and]
      exact sim_sure hN hR _ _ _ _ (fun _ _ _ _ _ _ _ _ _ _ _ _ _ _ _ _ _ _ _ _ _ _ _ _ _ _ _ _ _ _ _ _ _ _ _ _ _ _ hR1 => ⟨fun _ => go hR1, fun z => absurd rfl z⟩)
    refine ⟨fun _ => ?_, fun _ => ?_⟩
    · simp only [v1, v2, v3, v4, true_and]
      exact sim_begin hN hR _ _ _ _ (fun _ _ _ _ _ _ _ _ _ _ _ _ _ _ _ _ _ _ _ _ _ _ _ _ _ _ _ _ _ _ _ _ _ _ _ _ _ _ hR1 => ⟨fun _ => go hR1, fun z => absurd rfl z⟩)
    refine ⟨fun _ => ?_, fun _ => ?_⟩
    · simp only [v1, v2, true_and]
      exact sim_idle hN hR _ _ (fun _ _ _ _ _ _ _ _ _ _ _ _ _ _ _ _ _ _ _ _ _ _ _ _ hR1 => ⟨fun _ => go hR1, fun z => absurd rfl z⟩)
    refine ⟨fun _ => ?_, fun _ => ?_⟩
    · simp only [v1, v2, true_and]
      exact sim_roll hN hR _ _ (fun _ _ _ _ _ _ _ _ hR1 => ⟨fun _ => go hR1, fun z => absurd rfl z⟩)
    refine ⟨fun _ => ?_, fun _ => ?_⟩
    · exact sim_unroll hN hR  (fun _ _ _ _ hR1 => ⟨fun _ => go hR1, fun z => absurd rfl z⟩)
    refine ⟨fun _ => ?_, fun _ => ?_⟩
    · simp only [v1, true_and]
      unfold wpJ_L_law_1228
      by_cases z : xs (x3 + ((1 : Int32))).toNatClampNeg = 0
      · have z1 : (xs (x3 + ((1 : Int32))).toNatClampNeg = 0) = True := eq_true z
        simp only [z1, v1, true_and, true_implies, not_true_eq_false, false_implies, and_true]
        exact sim_judge hN hR _ (fun _ _ _ _ _ _ _ _ _ _ hR1 => ⟨fun _ => go hR1, fun z => absurd rfl z⟩)
      · have z1 : (xs (x3 + ((1 : Int32))).toNatClampNeg = 0) = False := eq_false z
        simp only [z1, v1, true_and, true_implies, not_false_eq_true, false_implies, and_true]
        exact sim_judge hN hR _ (fun _ _ _ _ _ _ _ _ _ _ hR1 => ⟨fun _ => go hR1, fun z => absurd rfl z⟩)
    refine ⟨fun _ => ?_, fun _ => ?_⟩
    · simp only [v1, true_and]
      exact sim_keep hN hR _ (fun _ _ _ _ _ hR1 => ⟨fun _ => go hR1, fun z => absurd rfl z⟩)
    refine ⟨fun _ => ?_, fun _ => ?_⟩
    · simp only [v1, true_and]
      exact sim_again hN hR _ (fun _ _ _ _ hR1 => ⟨fun _ => go hR1, fun z => absurd rfl z⟩)
    refine ⟨fun _ => ?_, fun _ => ?_⟩
    · simp only [v1, true_and]
      exact sim_count hN hR _ (fun _ _ hR1 => ⟨fun _ => go hR1, fun z => absurd rfl z⟩)
    exact go hR.succ
