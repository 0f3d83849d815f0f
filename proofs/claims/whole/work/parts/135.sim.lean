theorem sim_reach {N : Nat} (hN : N < 600) {tx_bytes : Nat → Int32} {tx_length : Int32} {md_text : Nat → Int32} {md_textSize : Int32} {lw_told : Nat → Int32} {lw_parts : Nat → Int32} {lw_hangMasks : Nat → Int32} {lw_hangValues : Nat → Int32} {lw_ownSeats : Nat → Int32} {md_forms : Nat → Int32} {md_formMany : Nat → Int32} {md_seats : Nat → Int32} {sl_state : Int32} {md_now : Int32} {sl_rolled : Int32} {md_rolls : Int32} {sl_rollSets : Nat → Int32} {sl_rollActs : Nat → Int32} {md_rollSet : Nat → Int32} {md_rollAct : Nat → Int32} {sl_kept : Nat → Int32} {md_slots : Nat → Int32} {md_isKept : Nat → Int32} {md_barAlways : Int32} {md_noPut : Int32} {se_cameBy : Nat → Int32} {se_runs : Int32} {se_order : Nat → Int32} {se_from : Nat → Int32} {se_length : Int32} {sg_ownVotes : Nat → Int32} {sg_votes : Nat → Int32} {sg_rows : Nat → Int32} {sg_groups : Int32} {sg_bars : Int32} {sg_now : Int32} {sg_forced : Int32} {sg_barred : Int32} {sg_mayActs : Nat → Int32} {sg_mayEnds : Nat → Int32} {sg_mays : Int32} {md_thrown : Int32} {md_far : Nat → Int32} {md_queue : Nat → Int32} {md_from : Nat → Int32} {md_by : Nat → Int32} {md_many : Int32} (hR : REL N tx_bytes tx_length md_text md_textSize lw_told lw_parts lw_hangMasks lw_hangValues lw_ownSeats md_forms md_formMany md_seats sl_state md_now sl_rolled md_rolls sl_rollSets sl_rollActs md_rollSet md_rollAct sl_kept md_slots md_isKept md_barAlways md_noPut se_cameBy se_runs) (p0 : Int32) {K : Int32 → Int32 → (Nat → Int32) → (Nat → Int32) → (Nat → Int32) → Int32 → Int32 → (Nat → Int32) → (Nat → Int32) → (Nat → Int32) → Int32 → Int32 → Int32 → Int32 → Int32 → (Nat → Int32) → (Nat → Int32) → Int32 → Int32 → (Nat → Int32) → (Nat → Int32) → (Nat → Int32) → (Nat → Int32) → Int32 → Prop} (h : ∀ (r : Int32) (se_order1 : Nat → Int32) (se_from1 : Nat → Int32) (se_cameBy1 : Nat → Int32) (se_runs1 : Int32) (se_length1 : Int32) (sg_ownVotes1 : Nat → Int32) (sg_votes1 : Nat → Int32) (sg_rows1 : Nat → Int32) (sg_groups1 : Int32) (sg_bars1 : Int32) (sg_now1 : Int32) (sg_forced1 : Int32) (sg_barred1 : Int32) (sg_mayActs1 : Nat → Int32) (sg_mayEnds1 : Nat → Int32) (sg_mays1 : Int32) (md_thrown1 : Int32) (md_far1 : Nat → Int32) (md_queue1 : Nat → Int32) (md_from1 : Nat → Int32) (md_by1 : Nat → Int32) (md_many1 : Int32), REL (N + 1) tx_bytes tx_length md_text md_textSize lw_told lw_parts lw_hangMasks lw_hangValues lw_ownSeats md_forms md_formMany md_seats sl_state md_now sl_rolled md_rolls sl_rollSets sl_rollActs md_rollSet md_rollAct sl_kept md_slots md_isKept md_barAlways md_noPut se_cameBy1 se_runs1 → K r r se_order1 se_from1 se_cameBy1 se_runs1 se_length1 sg_ownVotes1 sg_votes1 sg_rows1 sg_groups1 sg_bars1 sg_now1 sg_forced1 sg_barred1 sg_mayActs1 sg_mayEnds1 sg_mays1 md_thrown1 md_far1 md_queue1 md_from1 md_by1 md_many1) : wp_X7_reach sl_state se_order se_from se_cameBy se_runs se_length sg_ownVotes sg_votes sg_rows sg_groups sg_bars sg_now sg_forced sg_barred sg_mayActs sg_mayEnds sg_mays lw_told lw_parts lw_hangMasks lw_hangValues lw_ownSeats p0 (fun (r1 : Int32) (se_order1 : Nat → Int32) (se_from1 : Nat → Int32) (se_cameBy1 : Nat → Int32) (se_runs1 : Int32) (se_length1 : Int32) (sg_ownVotes1 : Nat → Int32) (sg_votes1 : Nat → Int32) (sg_rows1 : Nat → Int32) (sg_groups1 : Int32) (sg_bars1 : Int32) (sg_now1 : Int32) (sg_forced1 : Int32) (sg_barred1 : Int32) (sg_mayActs1 : Nat → Int32) (sg_mayEnds1 : Nat → Int32) (sg_mays1 : Int32) => wp_X8_reach md_thrown md_forms md_formMany md_seats md_now md_barAlways md_noPut md_far md_queue md_from md_by md_many p0 (fun (r2 : Int32) (md_thrown1 : Int32) (md_far1 : Nat → Int32) (md_queue1 : Nat → Int32) (md_from1 : Nat → Int32) (md_by1 : Nat → Int32) (md_many1 : Int32) => K r1 r2 se_order1 se_from1 se_cameBy1 se_runs1 se_length1 sg_ownVotes1 sg_votes1 sg_rows1 sg_groups1 sg_bars1 sg_now1 sg_forced1 sg_barred1 sg_mayActs1 sg_mayEnds1 sg_mays1 md_thrown1 md_far1 md_queue1 md_from1 md_by1 md_many1)) := by
  unfold wp_X7_reach
  obtain ⟨hRT, ⟨t, G, hLa, s, hs, es, en⟩, hRo, hKe, hBa, R, hRN, hCB⟩ := id hR
  obtain ⟨hLW, hSD, hML⟩ := id hLa
  rcases range_cases p0 16 (by decide) with ⟨set, hset, hp⟩ | hb
  · refine sp_isSet hp hset (y1 ?_)
    refine sp_searchAs hLW hSD hCB (by omega) hs es hset hp ?_
    intro o f c r l ov v rr gr ba n fo b a e m hC hSC
    unfold wp_X3_size
    rw [hC.2.1]
    unfold wp_X8_reach
    refine sp8_noSet hp hset (y0' ?_)
    refine sp8_wave hML (ba0 hBa.1) (np5 hBa.2) hset hset hs en hp hp (fun fa q fr b2 m2 hM => ?_)
    rw [umv_same] at hM
    rw [hM.1]
    exact h _ _ _ _ _ _ _ _ _ _ _ _ _ _ _ _ _ _ _ _ _ _ _ ⟨hRT, ⟨t, G, hLa, s, hs, es, en⟩, hRo, hKe, hBa, R + 1, by omega, hC.cb (by omega)⟩
  · refine sp_isSet_bad hb (y0 ?_)
    unfold wp_X8_reach
    exact sp8_noSet_bad hb (y1' (h _ _ _ _ _ _ _ _ _ _ _ _ _ _ _ _ _ _ _ _ _ _ _ hR.succ))
theorem sim_among {N : Nat} (hN : N < 600) {tx_bytes : Nat → Int32} {tx_length : Int32} {md_text : Nat → Int32} {md_textSize : Int32} {lw_told : Nat → Int32} {lw_parts : Nat → Int32} {lw_hangMasks : Nat → Int32} {lw_hangValues : Nat → Int32} {lw_ownSeats : Nat → Int32} {md_forms : Nat → Int32} {md_formMany : Nat → Int32} {md_seats : Nat → Int32} {sl_state : Int32} {md_now : Int32} {sl_rolled : Int32} {md_rolls : Int32} {sl_rollSets : Nat → Int32} {sl_rollActs : Nat → Int32} {md_rollSet : Nat → Int32} {md_rollAct : Nat → Int32} {sl_kept : Nat → Int32} {md_slots : Nat → Int32} {md_isKept : Nat → Int32} {md_barAlways : Int32} {md_noPut : Int32} {se_cameBy : Nat → Int32} {se_runs : Int32} {se_order : Nat → Int32} {se_from : Nat → Int32} {se_length : Int32} {sg_ownVotes : Nat → Int32} {sg_votes : Nat → Int32} {sg_rows : Nat → Int32} {sg_groups : Int32} {sg_bars : Int32} {sg_now : Int32} {sg_forced : Int32} {sg_barred : Int32} {sg_mayActs : Nat → Int32} {sg_mayEnds : Nat → Int32} {sg_mays : Int32} {md_thrown : Int32} {md_far : Nat → Int32} {md_queue : Nat → Int32} {md_from : Nat → Int32} {md_by : Nat → Int32} {md_many : Int32} (hR : REL N tx_bytes tx_length md_text md_textSize lw_told lw_parts lw_hangMasks lw_hangValues lw_ownSeats md_forms md_formMany md_seats sl_state md_now sl_rolled md_rolls sl_rollSets sl_rollActs md_rollSet md_rollAct sl_kept md_slots md_isKept md_barAlways md_noPut se_cameBy se_runs) (p0 : Int32) (p1 : Int32) {K : Int32 → Int32 → (Nat → Int32) → (Nat → Int32) → (Nat → Int32) → Int32 → Int32 → (Nat → Int32) → (Nat → Int32) → (Nat → Int32) → Int32 → Int32 → Int32 → Int32 → Int32 → (Nat → Int32) → (Nat → Int32) → Int32 → Int32 → (Nat → Int32) → (Nat → Int32) → (Nat → Int32) → (Nat → Int32) → Int32 → Prop} (h : ∀ (r : Int32) (se_order1 : Nat → Int32) (se_from1 : Nat → Int32) (se_cameBy1 : Nat → Int32) (se_runs1 : Int32) (se_length1 : Int32) (sg_ownVotes1 : Nat → Int32) (sg_votes1 : Nat → Int32) (sg_rows1 : Nat → Int32) (sg_groups1 : Int32) (sg_bars1 : Int32) (sg_now1 : Int32) (sg_forced1 : Int32) (sg_barred1 : Int32) (sg_mayActs1 : Nat → Int32) (sg_mayEnds1 : Nat → Int32) (sg_mays1 : Int32) (md_thrown1 : Int32) (md_far1 : Nat → Int32) (md_queue1 : Nat → Int32) (md_from1 : Nat → Int32) (md_by1 : Nat → Int32) (md_many1 : Int32), REL (N + 1) tx_bytes tx_length md_text md_textSize lw_told lw_parts lw_hangMasks lw_hangValues lw_ownSeats md_forms md_formMany md_seats sl_state md_now sl_rolled md_rolls sl_rollSets sl_rollActs md_rollSet md_rollAct sl_kept md_slots md_isKept md_barAlways md_noPut se_cameBy1 se_runs1 → K r r se_order1 se_from1 se_cameBy1 se_runs1 se_length1 sg_ownVotes1 sg_votes1 sg_rows1 sg_groups1 sg_bars1 sg_now1 sg_forced1 sg_barred1 sg_mayActs1 sg_mayEnds1 sg_mays1 md_thrown1 md_far1 md_queue1 md_from1 md_by1 md_many1) : wp_X7_among sl_state se_order se_from se_cameBy se_runs se_length sg_ownVotes sg_votes sg_rows sg_groups sg_bars sg_now sg_forced sg_barred sg_mayActs sg_mayEnds sg_mays lw_told lw_parts lw_hangMasks lw_hangValues lw_ownSeats p0 p1 (fun (r1 : Int32) (se_order1 : Nat → Int32) (se_from1 : Nat → Int32) (se_cameBy1 : Nat → Int32) (se_runs1 : Int32) (se_length1 : Int32) (sg_ownVotes1 : Nat → Int32) (sg_votes1 : Nat → Int32) (sg_rows1 : Nat → Int32) (sg_groups1 : Int32) (sg_bars1 : Int32) (sg_now1 : Int32) (sg_forced1 : Int32) (sg_barred1 : Int32) (sg_mayActs1 : Nat → Int32) (sg_mayEnds1 : Nat → Int32) (sg_mays1 : Int32) => wp_X8_among md_thrown md_forms md_formMany md_seats md_now md_barAlways md_noPut md_far md_queue md_from md_by md_many p0 p1 (fun (r2 : Int32) (md_thrown1 : Int32) (md_far1 : Nat → Int32) (md_queue1 : Nat → Int32) (md_from1 : Nat → Int32) (md_by1 : Nat → Int32) (md_many1 : Int32) => K r1 r2 se_order1 se_from1 se_cameBy1 se_runs1 se_length1 sg_ownVotes1 sg_votes1 sg_rows1 sg_groups1 sg_bars1 sg_now1 sg_forced1 sg_barred1 sg_mayActs1 sg_mayEnds1 sg_mays1 md_thrown1 md_far1 md_queue1 md_from1 md_by1 md_many1)) := by
  unfold wp_X7_among
  obtain ⟨hRT, ⟨t, G, hLa, s, hs, es, en⟩, hRo, hKe, hBa, R, hRN, hCB⟩ := id hR
  obtain ⟨hLW, hSD, hML⟩ := id hLa
  rcases range_cases p0 16 (by decide) with ⟨set, hset, hp⟩ | hb
  · refine sp_isSet hp hset (y1' ?_)
    rcases goal_cases p1 with ⟨g, hg, hp1⟩ | hb1
    · refine sp_goalExists hp1 hg (y1 ?_)
      refine sp_searchAs hLW hSD hCB (by omega) hs es hset hp ?_
      intro o f c r l ov v rr gr ba n fo b a e m hC hSC
      have hGL := bfs_GL (cmv_ok hLW.1 (G := G) (set := set) (bars := 0) (np := 5)) hs
      refine sp_howManyWith hC hGL hg hp1 ?_
      unfold wp_X8_among
      refine sp8_noSet hp hset (y0 ?_)
      refine sp8_noGoal hp1 hg (y0' ?_)
      refine sp8_wave hML (ba0 hBa.1) (np5 hBa.2) hset hset hs en hp hp (fun fa q fr b2 m2 hM => ?_)
      rw [umv_same] at hM
      refine sp8_soMany hM hGL hg hp1 ?_
      exact h _ _ _ _ _ _ _ _ _ _ _ _ _ _ _ _ _ _ _ _ _ _ _ ⟨hRT, ⟨t, G, hLa, s, hs, es, en⟩, hRo, hKe, hBa, R + 1, by omega, hC.cb (by omega)⟩
    · refine sp_goalExists_bad hb1 (y0 ?_)
      unfold wp_X8_among
      refine sp8_noSet hp hset (y0 ?_)
      exact sp8_noGoal_bad hb1 (y1' (h _ _ _ _ _ _ _ _ _ _ _ _ _ _ _ _ _ _ _ _ _ _ _ hR.succ))
  · refine sp_isSet_bad hb (y0' ?_)
    unfold wp_X8_among
    exact sp8_noSet_bad hb (y1 (h _ _ _ _ _ _ _ _ _ _ _ _ _ _ _ _ _ _ _ _ _ _ _ hR.succ))
theorem sim_hold {N : Nat} (hN : N < 600) {tx_bytes : Nat → Int32} {tx_length : Int32} {md_text : Nat → Int32} {md_textSize : Int32} {lw_told : Nat → Int32} {lw_parts : Nat → Int32} {lw_hangMasks : Nat → Int32} {lw_hangValues : Nat → Int32} {lw_ownSeats : Nat → Int32} {md_forms : Nat → Int32} {md_formMany : Nat → Int32} {md_seats : Nat → Int32} {sl_state : Int32} {md_now : Int32} {sl_rolled : Int32} {md_rolls : Int32} {sl_rollSets : Nat → Int32} {sl_rollActs : Nat → Int32} {md_rollSet : Nat → Int32} {md_rollAct : Nat → Int32} {sl_kept : Nat → Int32} {md_slots : Nat → Int32} {md_isKept : Nat → Int32} {md_barAlways : Int32} {md_noPut : Int32} {se_cameBy : Nat → Int32} {se_runs : Int32} {se_order : Nat → Int32} {se_from : Nat → Int32} {se_length : Int32} {sg_ownVotes : Nat → Int32} {sg_votes : Nat → Int32} {sg_rows : Nat → Int32} {sg_groups : Int32} {sg_bars : Int32} {sg_now : Int32} {sg_forced : Int32} {sg_barred : Int32} {sg_mayActs : Nat → Int32} {sg_mayEnds : Nat → Int32} {sg_mays : Int32} {md_thrown : Int32} {md_far : Nat → Int32} {md_queue : Nat → Int32} {md_from : Nat → Int32} {md_by : Nat → Int32} {md_many : Int32} (hR : REL N tx_bytes tx_length md_text md_textSize lw_told lw_parts lw_hangMasks lw_hangValues lw_ownSeats md_forms md_formMany md_seats sl_state md_now sl_rolled md_rolls sl_rollSets sl_rollActs md_rollSet md_rollAct sl_kept md_slots md_isKept md_barAlways md_noPut se_cameBy se_runs) (p0 : Int32) (p1 : Int32) {K : Int32 → Int32 → (Nat → Int32) → (Nat → Int32) → (Nat → Int32) → Int32 → Int32 → (Nat → Int32) → (Nat → Int32) → (Nat → Int32) → Int32 → Int32 → Int32 → Int32 → Int32 → (Nat → Int32) → (Nat → Int32) → Int32 → Int32 → (Nat → Int32) → (Nat → Int32) → (Nat → Int32) → (Nat → Int32) → Int32 → Prop} (h : ∀ (r : Int32) (se_order1 : Nat → Int32) (se_from1 : Nat → Int32) (se_cameBy1 : Nat → Int32) (se_runs1 : Int32) (se_length1 : Int32) (sg_ownVotes1 : Nat → Int32) (sg_votes1 : Nat → Int32) (sg_rows1 : Nat → Int32) (sg_groups1 : Int32) (sg_bars1 : Int32) (sg_now1 : Int32) (sg_forced1 : Int32) (sg_barred1 : Int32) (sg_mayActs1 : Nat → Int32) (sg_mayEnds1 : Nat → Int32) (sg_mays1 : Int32) (md_thrown1 : Int32) (md_far1 : Nat → Int32) (md_queue1 : Nat → Int32) (md_from1 : Nat → Int32) (md_by1 : Nat → Int32) (md_many1 : Int32), REL (N + 1) tx_bytes tx_length md_text md_textSize lw_told lw_parts lw_hangMasks lw_hangValues lw_ownSeats md_forms md_formMany md_seats sl_state md_now sl_rolled md_rolls sl_rollSets sl_rollActs md_rollSet md_rollAct sl_kept md_slots md_isKept md_barAlways md_noPut se_cameBy1 se_runs1 → K r r se_order1 se_from1 se_cameBy1 se_runs1 se_length1 sg_ownVotes1 sg_votes1 sg_rows1 sg_groups1 sg_bars1 sg_now1 sg_forced1 sg_barred1 sg_mayActs1 sg_mayEnds1 sg_mays1 md_thrown1 md_far1 md_queue1 md_from1 md_by1 md_many1) : wp_X7_hold sl_state se_order se_from se_cameBy se_runs se_length sg_ownVotes sg_votes sg_rows sg_groups sg_bars sg_now sg_forced sg_barred sg_mayActs sg_mayEnds sg_mays lw_told lw_parts lw_hangMasks lw_hangValues lw_ownSeats p0 p1 (fun (r1 : Int32) (se_order1 : Nat → Int32) (se_from1 : Nat → Int32) (se_cameBy1 : Nat → Int32) (se_runs1 : Int32) (se_length1 : Int32) (sg_ownVotes1 : Nat → Int32) (sg_votes1 : Nat → Int32) (sg_rows1 : Nat → Int32) (sg_groups1 : Int32) (sg_bars1 : Int32) (sg_now1 : Int32) (sg_forced1 : Int32) (sg_barred1 : Int32) (sg_mayActs1 : Nat → Int32) (sg_mayEnds1 : Nat → Int32) (sg_mays1 : Int32) => wp_X8_hold md_thrown md_forms md_formMany md_seats md_now md_barAlways md_noPut md_far md_queue md_from md_by md_many p0 p1 (fun (r2 : Int32) (md_thrown1 : Int32) (md_far1 : Nat → Int32) (md_queue1 : Nat → Int32) (md_from1 : Nat → Int32) (md_by1 : Nat → Int32) (md_many1 : Int32) => K r1 r2 se_order1 se_from1 se_cameBy1 se_runs1 se_length1 sg_ownVotes1 sg_votes1 sg_rows1 sg_groups1 sg_bars1 sg_now1 sg_forced1 sg_barred1 sg_mayActs1 sg_mayEnds1 sg_mays1 md_thrown1 md_far1 md_queue1 md_from1 md_by1 md_many1)) := by
  unfold wp_X7_hold
  obtain ⟨hRT, ⟨t, G, hLa, s, hs, es, en⟩, hRo, hKe, hBa, R, hRN, hCB⟩ := id hR
  obtain ⟨hLW, hSD, hML⟩ := id hLa
  rcases range_cases p0 16 (by decide) with ⟨set, hset, hp⟩ | hb
  · refine sp_isSet hp hset (y1' ?_)
    rcases goal_cases p1 with ⟨g, hg, hp1⟩ | hb1
    · refine sp_goalExists hp1 hg (y1 ?_)
      refine sp_holdsFrom hLW hSD hCB (by omega) hs es hset hp hg hp1 (bars := 0) (by decide) rfl ?_
      intro o f c r l ov v rr gr ba n fo b a e m hC
      have m8 : ∀ bb : Bool, holdB t lw_parts G set 0 5 s g = bb → wp_X8_hold md_thrown md_forms md_formMany md_seats md_now md_barAlways md_noPut md_far md_queue md_from md_by md_many p0 p1 (fun (r2 : Int32) (md_thrown1 : Int32) (md_far1 : Nat → Int32) (md_queue1 : Nat → Int32) (md_from1 : Nat → Int32) (md_by1 : Nat → Int32) (md_many1 : Int32) => K (nI bb.toNat) r2 o f c r l ov v rr gr ba n fo b a e m md_thrown1 md_far1 md_queue1 md_from1 md_by1 md_many1) := by
        intro bb hbb
        unfold wp_X8_hold
        refine sp8_noSet hp hset (y0 ?_)
        refine sp8_noGoal hp1 hg (y0' ?_)
        refine sp8_holds hML (ba0 hBa.1) (np5 hBa.2) hs en hset hp hg hp1 ?_
        intro fa q fr b2 m2
        have hR2 : REL (N + 1) tx_bytes tx_length md_text md_textSize lw_told lw_parts lw_hangMasks lw_hangValues lw_ownSeats md_forms md_formMany md_seats sl_state md_now sl_rolled md_rolls sl_rollSets sl_rollActs md_rollSet md_rollAct sl_kept md_slots md_isKept md_barAlways md_noPut c r := ⟨hRT, ⟨t, G, hLa, s, hs, es, en⟩, hRo, hKe, hBa, R + 1, by omega, hC⟩
        rw [hbb]
        cases bb
        · exact y0' (h _ _ _ _ _ _ _ _ _ _ _ _ _ _ _ _ _ _ _ _ _ _ _ hR2)
        · exact y1' (h _ _ _ _ _ _ _ _ _ _ _ _ _ _ _ _ _ _ _ _ _ _ _ hR2)
      exact nbool rfl (fun hb => m8 false hb) (fun hb => m8 true hb)
    · refine sp_goalExists_bad hb1 (y0 ?_)
      unfold wp_X8_hold
      refine sp8_noSet hp hset (y0 ?_)
      exact sp8_noGoal_bad hb1 (y1' (h _ _ _ _ _ _ _ _ _ _ _ _ _ _ _ _ _ _ _ _ _ _ _ hR.succ))
  · refine sp_isSet_bad hb (y0' ?_)
    unfold wp_X8_hold
    exact sp8_noSet_bad hb (y1 (h _ _ _ _ _ _ _ _ _ _ _ _ _ _ _ _ _ _ _ _ _ _ _ hR.succ))
theorem sim_shortest {N : Nat} (hN : N < 600) {tx_bytes : Nat → Int32} {tx_length : Int32} {md_text : Nat → Int32} {md_textSize : Int32} {lw_told : Nat → Int32} {lw_parts : Nat → Int32} {lw_hangMasks : Nat → Int32} {lw_hangValues : Nat → Int32} {lw_ownSeats : Nat → Int32} {md_forms : Nat → Int32} {md_formMany : Nat → Int32} {md_seats : Nat → Int32} {sl_state : Int32} {md_now : Int32} {sl_rolled : Int32} {md_rolls : Int32} {sl_rollSets : Nat → Int32} {sl_rollActs : Nat → Int32} {md_rollSet : Nat → Int32} {md_rollAct : Nat → Int32} {sl_kept : Nat → Int32} {md_slots : Nat → Int32} {md_isKept : Nat → Int32} {md_barAlways : Int32} {md_noPut : Int32} {se_cameBy : Nat → Int32} {se_runs : Int32} {se_order : Nat → Int32} {se_from : Nat → Int32} {se_length : Int32} {sg_ownVotes : Nat → Int32} {sg_votes : Nat → Int32} {sg_rows : Nat → Int32} {sg_groups : Int32} {sg_bars : Int32} {sg_now : Int32} {sg_forced : Int32} {sg_barred : Int32} {sg_mayActs : Nat → Int32} {sg_mayEnds : Nat → Int32} {sg_mays : Int32} {md_thrown : Int32} {md_far : Nat → Int32} {md_queue : Nat → Int32} {md_from : Nat → Int32} {md_by : Nat → Int32} {md_many : Int32} (hR : REL N tx_bytes tx_length md_text md_textSize lw_told lw_parts lw_hangMasks lw_hangValues lw_ownSeats md_forms md_formMany md_seats sl_state md_now sl_rolled md_rolls sl_rollSets sl_rollActs md_rollSet md_rollAct sl_kept md_slots md_isKept md_barAlways md_noPut se_cameBy se_runs) (p0 : Int32) (p1 : Int32) {K : Int32 → Int32 → (Nat → Int32) → (Nat → Int32) → (Nat → Int32) → Int32 → Int32 → (Nat → Int32) → (Nat → Int32) → (Nat → Int32) → Int32 → Int32 → Int32 → Int32 → Int32 → (Nat → Int32) → (Nat → Int32) → Int32 → Int32 → (Nat → Int32) → (Nat → Int32) → (Nat → Int32) → (Nat → Int32) → Int32 → Prop} (h : ∀ (r : Int32) (se_order1 : Nat → Int32) (se_from1 : Nat → Int32) (se_cameBy1 : Nat → Int32) (se_runs1 : Int32) (se_length1 : Int32) (sg_ownVotes1 : Nat → Int32) (sg_votes1 : Nat → Int32) (sg_rows1 : Nat → Int32) (sg_groups1 : Int32) (sg_bars1 : Int32) (sg_now1 : Int32) (sg_forced1 : Int32) (sg_barred1 : Int32) (sg_mayActs1 : Nat → Int32) (sg_mayEnds1 : Nat → Int32) (sg_mays1 : Int32) (md_thrown1 : Int32) (md_far1 : Nat → Int32) (md_queue1 : Nat → Int32) (md_from1 : Nat → Int32) (md_by1 : Nat → Int32) (md_many1 : Int32), REL (N + 1) tx_bytes tx_length md_text md_textSize lw_told lw_parts lw_hangMasks lw_hangValues lw_ownSeats md_forms md_formMany md_seats sl_state md_now sl_rolled md_rolls sl_rollSets sl_rollActs md_rollSet md_rollAct sl_kept md_slots md_isKept md_barAlways md_noPut se_cameBy1 se_runs1 → K r r se_order1 se_from1 se_cameBy1 se_runs1 se_length1 sg_ownVotes1 sg_votes1 sg_rows1 sg_groups1 sg_bars1 sg_now1 sg_forced1 sg_barred1 sg_mayActs1 sg_mayEnds1 sg_mays1 md_thrown1 md_far1 md_queue1 md_from1 md_by1 md_many1) : wp_X7_shortest sl_state se_order se_from se_cameBy se_runs se_length sg_ownVotes sg_votes sg_rows sg_groups sg_bars sg_now sg_forced sg_barred sg_mayActs sg_mayEnds sg_mays lw_told lw_parts lw_hangMasks lw_hangValues lw_ownSeats p0 p1 (fun (r1 : Int32) (se_order1 : Nat → Int32) (se_from1 : Nat → Int32) (se_cameBy1 : Nat → Int32) (se_runs1 : Int32) (se_length1 : Int32) (sg_ownVotes1 : Nat → Int32) (sg_votes1 : Nat → Int32) (sg_rows1 : Nat → Int32) (sg_groups1 : Int32) (sg_bars1 : Int32) (sg_now1 : Int32) (sg_forced1 : Int32) (sg_barred1 : Int32) (sg_mayActs1 : Nat → Int32) (sg_mayEnds1 : Nat → Int32) (sg_mays1 : Int32) => wp_X8_shortest md_thrown md_forms md_formMany md_seats md_now md_barAlways md_noPut md_far md_queue md_from md_by md_many p0 p1 (fun (r2 : Int32) (md_thrown1 : Int32) (md_far1 : Nat → Int32) (md_queue1 : Nat → Int32) (md_from1 : Nat → Int32) (md_by1 : Nat → Int32) (md_many1 : Int32) => K r1 r2 se_order1 se_from1 se_cameBy1 se_runs1 se_length1 sg_ownVotes1 sg_votes1 sg_rows1 sg_groups1 sg_bars1 sg_now1 sg_forced1 sg_barred1 sg_mayActs1 sg_mayEnds1 sg_mays1 md_thrown1 md_far1 md_queue1 md_from1 md_by1 md_many1)) := by
  unfold wp_X7_shortest
  obtain ⟨hRT, ⟨t, G, hLa, s, hs, es, en⟩, hRo, hKe, hBa, R, hRN, hCB⟩ := id hR
  obtain ⟨hLW, hSD, hML⟩ := id hLa
  rcases range_cases p0 16 (by decide) with ⟨set, hset, hp⟩ | hb
  · refine sp_isSet hp hset (y1' ?_)
    rcases goal_cases p1 with ⟨g, hg, hp1⟩ | hb1
    · refine sp_goalExists hp1 hg (y1 ?_)
      refine sp_findAs hLW hSD hCB (by omega) hs es hset hp hg hp1 ?_
      intro L ans o f c r l ov v rr gr ba n fo b a e m hF hC
      have hR2 : REL (N + 1) tx_bytes tx_length md_text md_textSize lw_told lw_parts lw_hangMasks lw_hangValues lw_ownSeats md_forms md_formMany md_seats sl_state md_now sl_rolled md_rolls sl_rollSets sl_rollActs md_rollSet md_rollAct sl_kept md_slots md_isKept md_barAlways md_noPut c r := ⟨hRT, ⟨t, G, hLa, s, hs, es, en⟩, hRo, hKe, hBa, R + 1, by omega, hC.cb (by omega)⟩
      have hGL := bfs_GL (cmv_ok hLW.1 (G := G) (set := set) (bars := 0) (np := 5)) hs
      obtain ⟨hGL2, hpre, hcase⟩ := hF
      have hmv : ∀ x k, k ∈ mvs t lw_parts G set 0 5 x → k < 20 := fun x k hk => (mvT_mem.mp hk).1
      rcases hcase with ⟨ha, hL, hall⟩ | ⟨i, e2, he, ha, hso, hnot⟩
      · rw [ha]
        refine sp_stepsTo9 ?_
        unfold wp_X8_shortest
        refine sp8_noSet hp hset (y0 ?_)
        refine sp8_noGoal hp1 hg (y0' ?_)
        refine sp8_wave hML (ba0 hBa.1) (np5 hBa.2) hset hset hs en hp hp (fun fa q fr b2 m2 hM => ?_)
        rw [umv_same] at hM
        refine sp8_firstSo hM hGL hg hp1 (fun _ => ⟨fun z => absurd rfl z, fun _ => h _ _ _ _ _ _ _ _ _ _ _ _ _ _ _ _ _ _ _ _ _ _ _ hR2⟩) (fun i e3 he3 hs3 _ => ?_)
        have := hall e3 (hL ▸ List.mem_of_getElem? he3)
        exact absurd hs3 this
      · refine sp_stepsTo hC hGL2 hmv (List.mem_of_getElem? he) ha ?_
        unfold wp_X8_shortest
        refine sp8_noSet hp hset (y0 ?_)
        refine sp8_noGoal hp1 hg (y0' ?_)
        refine sp8_wave hML (ba0 hBa.1) (np5 hBa.2) hset hset hs en hp hp (fun fa q fr b2 m2 hM => ?_)
        rw [umv_same] at hM
        have heB := pre_get hpre he
        refine sp8_firstSo hM hGL hg hp1 (fun hno => ?_) (fun j e3 he3 hs3 hn3 => ?_)
        · have := hno e2 (List.mem_of_getElem? heB)
          rw [hso] at this
          exact absurd this (by decide)
        · have heq : e3 = e2 := by
            refine first_uniq he3 heB hs3 hso hn3 (fun k x hk hx => ?_)
            have hkl : k < L.length := by
              have := (List.getElem?_eq_some_iff.mp he).1
              omega
            have h6 := pre_get hpre (getD_some hkl)
            rw [hx] at h6
            have h7 := hnot k _ hk (getD_some hkl)
            rw [← Option.some.inj h6] at h7
            simpa using h7
          subst heq
          have hv := (hGL.2.1 _ (List.mem_of_getElem? he3)).1
          have hpv := ph_lt hv
          refine ⟨fun _ => ⟨pk_in _ 16384 hpv, ?_⟩, fun z => absurd z (neg9 (by omega))⟩
          rw [nI_clamp (by omega), (hM.2.1 j _ he3).2.1]
          exact h _ _ _ _ _ _ _ _ _ _ _ _ _ _ _ _ _ _ _ _ _ _ _ hR2
    · refine sp_goalExists_bad hb1 (y0 ?_)
      unfold wp_X8_shortest
      refine sp8_noSet hp hset (y0 ?_)
      exact sp8_noGoal_bad hb1 (y1' (h _ _ _ _ _ _ _ _ _ _ _ _ _ _ _ _ _ _ _ _ _ _ _ hR.succ))
  · refine sp_isSet_bad hb (y0' ?_)
    unfold wp_X8_shortest
    exact sp8_noSet_bad hb (y1 (h _ _ _ _ _ _ _ _ _ _ _ _ _ _ _ _ _ _ _ _ _ _ _ hR.succ))
/-- a prefix has the same ways -/
theorem ent_pre {L M : List En} (h : L <+: M) (hn : (sts M).Nodup) {x : Nat} (hx : x ∈ sts L) : ent M x = ent L x := by
  obtain ⟨tl, rfl⟩ := h
  have hnL : (sts L).Nodup := by
    unfold sts at hn ⊢
    rw [List.map_append, List.nodup_append] at hn
    exact hn.1
  obtain ⟨h1, h2⟩ := ent_of hx hnL
  have h3 := ent_mem hn (List.mem_append_left tl h1)
  rw [h2] at h3
  exact h3
theorem anc_pre {V : Nat → Prop} {mv : Nat → List Nat} {af : Nat → Nat → Nat} {s0 : Nat} {L M : List En} (hL : GL V mv af s0 L) (h : L <+: M) (hn : (sts M).Nodup) {e : En} (he : e ∈ L) : ∀ m, m ≤ e.2.2.2 → anc M e.1 m = anc L e.1 m := by
  intro m
  induction m with
  | zero => intro _; rfl
  | succ m ih =>
    intro hm
    show (ent M (anc M e.1 m)).2.1 = (ent L (anc L e.1 m)).2.1
    rw [ih (by omega), ent_pre h hn (hL.anc he m (by omega)).1]
theorem step_pre {V : Nat → Prop} {mv : Nat → List Nat} {af : Nat → Nat → Nat} {s0 : Nat} {L M : List En} (hL : GL V mv af s0 L) (h : L <+: M) (hn : (sts M).Nodup) {e : En} (he : e ∈ L) {i : Nat} : stepN M e i = stepN L e i := by
  unfold stepN
  rw [anc_pre hL h hn he _ (by omega), ent_pre h hn (hL.anc he _ (by omega)).1]
theorem MS.at {t : Nat → Nat} {mv : Nat → List Nat} {P : Nat → Int32} {s0 : Nat} {L : List En} {far queue frm by_ : Nat → Int32} {many : Int32} (hM : MS L far queue frm by_ many) (hL : GL (SV t) mv (aft P) s0 L) {x : Nat} (hx : x ∈ sts L) : far (ph x) = nI (ent L x).2.2.2 ∧ ((ent L x).2.2.2 ≠ 0 → frm (ph x) = nI (ph (ent L x).2.1) ∧ by_ (ph x) = nI (actN (ent L x).2.2.1)) := by
  obtain ⟨h1, h2⟩ := ent_of hx hL.1
  obtain ⟨j, hj⟩ := List.getElem?_of_mem h1
  have h3 := hM.2.1 j _ hj
  rw [h2] at h3
  refine ⟨h3.2.1, fun hd => h3.2.2 (fun z => ?_)⟩
  subst z
  rw [hL.2.2.1] at hj
  have := Option.some.inj hj
  rw [← this] at hd
  exact hd rfl
theorem sim_step {N : Nat} (hN : N < 600) {tx_bytes : Nat → Int32} {tx_length : Int32} {md_text : Nat → Int32} {md_textSize : Int32} {lw_told : Nat → Int32} {lw_parts : Nat → Int32} {lw_hangMasks : Nat → Int32} {lw_hangValues : Nat → Int32} {lw_ownSeats : Nat → Int32} {md_forms : Nat → Int32} {md_formMany : Nat → Int32} {md_seats : Nat → Int32} {sl_state : Int32} {md_now : Int32} {sl_rolled : Int32} {md_rolls : Int32} {sl_rollSets : Nat → Int32} {sl_rollActs : Nat → Int32} {md_rollSet : Nat → Int32} {md_rollAct : Nat → Int32} {sl_kept : Nat → Int32} {md_slots : Nat → Int32} {md_isKept : Nat → Int32} {md_barAlways : Int32} {md_noPut : Int32} {se_cameBy : Nat → Int32} {se_runs : Int32} {se_order : Nat → Int32} {se_from : Nat → Int32} {se_length : Int32} {sg_ownVotes : Nat → Int32} {sg_votes : Nat → Int32} {sg_rows : Nat → Int32} {sg_groups : Int32} {sg_bars : Int32} {sg_now : Int32} {sg_forced : Int32} {sg_barred : Int32} {sg_mayActs : Nat → Int32} {sg_mayEnds : Nat → Int32} {sg_mays : Int32} {md_thrown : Int32} {md_far : Nat → Int32} {md_queue : Nat → Int32} {md_from : Nat → Int32} {md_by : Nat → Int32} {md_many : Int32} (hR : REL N tx_bytes tx_length md_text md_textSize lw_told lw_parts lw_hangMasks lw_hangValues lw_ownSeats md_forms md_formMany md_seats sl_state md_now sl_rolled md_rolls sl_rollSets sl_rollActs md_rollSet md_rollAct sl_kept md_slots md_isKept md_barAlways md_noPut se_cameBy se_runs) (p0 : Int32) (p1 : Int32) (p2 : Int32) {K : Int32 → Int32 → (Nat → Int32) → (Nat → Int32) → (Nat → Int32) → Int32 → Int32 → (Nat → Int32) → (Nat → Int32) → (Nat → Int32) → Int32 → Int32 → Int32 → Int32 → Int32 → (Nat → Int32) → (Nat → Int32) → Int32 → Int32 → (Nat → Int32) → (Nat → Int32) → (Nat → Int32) → (Nat → Int32) → Int32 → Prop} (h : ∀ (r : Int32) (se_order1 : Nat → Int32) (se_from1 : Nat → Int32) (se_cameBy1 : Nat → Int32) (se_runs1 : Int32) (se_length1 : Int32) (sg_ownVotes1 : Nat → Int32) (sg_votes1 : Nat → Int32) (sg_rows1 : Nat → Int32) (sg_groups1 : Int32) (sg_bars1 : Int32) (sg_now1 : Int32) (sg_forced1 : Int32) (sg_barred1 : Int32) (sg_mayActs1 : Nat → Int32) (sg_mayEnds1 : Nat → Int32) (sg_mays1 : Int32) (md_thrown1 : Int32) (md_far1 : Nat → Int32) (md_queue1 : Nat → Int32) (md_from1 : Nat → Int32) (md_by1 : Nat → Int32) (md_many1 : Int32), REL (N + 1) tx_bytes tx_length md_text md_textSize lw_told lw_parts lw_hangMasks lw_hangValues lw_ownSeats md_forms md_formMany md_seats sl_state md_now sl_rolled md_rolls sl_rollSets sl_rollActs md_rollSet md_rollAct sl_kept md_slots md_isKept md_barAlways md_noPut se_cameBy1 se_runs1 → K r r se_order1 se_from1 se_cameBy1 se_runs1 se_length1 sg_ownVotes1 sg_votes1 sg_rows1 sg_groups1 sg_bars1 sg_now1 sg_forced1 sg_barred1 sg_mayActs1 sg_mayEnds1 sg_mays1 md_thrown1 md_far1 md_queue1 md_from1 md_by1 md_many1) : wp_X7_step sl_state se_order se_from se_cameBy se_runs se_length sg_ownVotes sg_votes sg_rows sg_groups sg_bars sg_now sg_forced sg_barred sg_mayActs sg_mayEnds sg_mays lw_told lw_parts lw_hangMasks lw_hangValues lw_ownSeats p0 p1 p2 (fun (r1 : Int32) (se_order1 : Nat → Int32) (se_from1 : Nat → Int32) (se_cameBy1 : Nat → Int32) (se_runs1 : Int32) (se_length1 : Int32) (sg_ownVotes1 : Nat → Int32) (sg_votes1 : Nat → Int32) (sg_rows1 : Nat → Int32) (sg_groups1 : Int32) (sg_bars1 : Int32) (sg_now1 : Int32) (sg_forced1 : Int32) (sg_barred1 : Int32) (sg_mayActs1 : Nat → Int32) (sg_mayEnds1 : Nat → Int32) (sg_mays1 : Int32) => wp_X8_step md_thrown md_forms md_formMany md_seats md_now md_barAlways md_noPut md_far md_queue md_from md_by md_many p0 p1 p2 (fun (r2 : Int32) (md_thrown1 : Int32) (md_far1 : Nat → Int32) (md_queue1 : Nat → Int32) (md_from1 : Nat → Int32) (md_by1 : Nat → Int32) (md_many1 : Int32) => K r1 r2 se_order1 se_from1 se_cameBy1 se_runs1 se_length1 sg_ownVotes1 sg_votes1 sg_rows1 sg_groups1 sg_bars1 sg_now1 sg_forced1 sg_barred1 sg_mayActs1 sg_mayEnds1 sg_mays1 md_thrown1 md_far1 md_queue1 md_from1 md_by1 md_many1)) := by
  unfold wp_X7_step
  obtain ⟨hRT, ⟨t, G, hLa, s, hs, es, en⟩, hRo, hKe, hBa, R, hRN, hCB⟩ := id hR
  obtain ⟨hLW, hSD, hML⟩ := id hLa
  rcases range_cases p0 16 (by decide) with ⟨set, hset, hp⟩ | hb
  · refine sp_isSet hp hset (y1' ?_)
    rcases goal_cases p1 with ⟨g, hg, hp1⟩ | hb1
    · refine sp_goalExists hp1 hg (y1 ?_)
      refine sp_findAs hLW hSD hCB (by omega) hs es hset hp hg hp1 ?_
      intro L ans o f c r l ov v rr gr ba n fo b a e m hF hC
      have hR2 : REL (N + 1) tx_bytes tx_length md_text md_textSize lw_told lw_parts lw_hangMasks lw_hangValues lw_ownSeats md_forms md_formMany md_seats sl_state md_now sl_rolled md_rolls sl_rollSets sl_rollActs md_rollSet md_rollAct sl_kept md_slots md_isKept md_barAlways md_noPut c r := ⟨hRT, ⟨t, G, hLa, s, hs, es, en⟩, hRo, hKe, hBa, R + 1, by omega, hC.cb (by omega)⟩
      have hGL := bfs_GL (cmv_ok hLW.1 (G := G) (set := set) (bars := 0) (np := 5)) hs
      obtain ⟨hGL2, hpre, hcase⟩ := hF
      have hmv : ∀ x k, k ∈ mvs t lw_parts G set 0 5 x → k < 20 := fun x k hk => (mvT_mem.mp hk).1
      rcases hcase with ⟨ha, hL, hall⟩ | ⟨i, e2, he, ha, hso, hnot⟩
      · rw [ha]
        refine sp_stepOnWayTo9 ?_
        unfold wp_X8_step
        refine sp8_noSet hp hset (y0 ?_)
        refine sp8_noGoal hp1 hg (y0' ?_)
        refine sp8_wave hML (ba0 hBa.1) (np5 hBa.2) hset hset hs en hp hp (fun fa qu fr b2 m2 hM => ?_)
        rw [umv_same] at hM
        refine sp8_firstSo hM hGL hg hp1 (fun _ => ⟨fun _ => h _ _ _ _ _ _ _ _ _ _ _ _ _ _ _ _ _ _ _ _ _ _ _ hR2, fun z => absurd rfl z⟩) (fun i e3 he3 hs3 _ => ?_)
        have := hall e3 (hL ▸ List.mem_of_getElem? he3)
        exact absurd hs3 this
      · have heL := List.mem_of_getElem? he
        have heB := pre_get hpre he
        have heBm := List.mem_of_getElem? heB
        have hdl := hGL.dlt heBm
        have m8 : ∀ ans : Int32, (p2 < 0 → ans = -9) → (∀ i, p2 = nI i → e2.2.2.2 ≤ i → i < 2 ^ 31 → ans = -9) → (∀ i, p2 = nI i → i < e2.2.2.2 → ans = nI (stepN L e2 i)) → wp_X8_step md_thrown md_forms md_formMany md_seats md_now md_barAlways md_noPut md_far md_queue md_from md_by md_many p0 p1 p2 (fun (r2 : Int32) (md_thrown1 : Int32) (md_far1 : Nat → Int32) (md_queue1 : Nat → Int32) (md_from1 : Nat → Int32) (md_by1 : Nat → Int32) (md_many1 : Int32) => K ans r2 o f c r l ov v rr gr ba n fo b a e m md_thrown1 md_far1 md_queue1 md_from1 md_by1 md_many1) := by
          intro ans a1 a2 a3
          unfold wp_X8_step
          refine sp8_noSet hp hset (y0 ?_)
          refine sp8_noGoal hp1 hg (y0' ?_)
          refine sp8_wave hML (ba0 hBa.1) (np5 hBa.2) hset hset hs en hp hp (fun fa qu fr b2 m2 hM => ?_)
          rw [umv_same] at hM
          refine sp8_firstSo hM hGL hg hp1 (fun hno => ?_) (fun j e3 he3 hs3 hn3 => ?_)
          · have := hno e2 heBm
            rw [hso] at this
            exact absurd this (by decide)
          · have heq : e3 = e2 := by
              refine first_uniq he3 heB hs3 hso hn3 (fun k x hk hx => ?_)
              have hkl : k < L.length := by
                have := (List.getElem?_eq_some_iff.mp he).1
                omega
              have h6 := pre_get hpre (getD_some hkl)
              rw [hx] at h6
              have h7 := hnot k _ hk (getD_some hkl)
              rw [← Option.some.inj h6] at h7
              simpa using h7
            subst heq
            have hv := (hGL.2.1 _ heBm).1
            have hpv := ph_lt hv
            refine ⟨fun z => absurd z (neg9 (by omega)), fun _ => ⟨pk_in _ 16384 hpv, ?_⟩⟩
            rw [nI_clamp (by omega), (hM.2.1 j _ he3).2.1]
            have hhi : ((nI e3.2.2.2 - (1 : Int32)).toInt64).toInt = (e3.2.2.2 : Int) - 1 := by
              rw [i64]
              exact pk_sub_toInt (a := e3.2.2.2) (b := 1) (by omega) (by decide)
            refine sp8_in (fun z1 z2 => y1 ?_) (fun z => y0 ?_)
            · rw [i64] at z1 z2
              have e1 : ((0 : Int64)).toInt = 0 := by decide
              rw [e1] at z1
              rw [hhi] at z2
              obtain ⟨i, hi, rfl⟩ := nI_ofInt (x := p2) (n := e3.2.2.2) (by omega) (by omega)
              rw [nI_toInt (by omega)] at z2
              have hid : i < e3.2.2.2 := by omega
              have a3 := a3 i rfl hid
              rw [← step_pre hGL2 hpre hGL.1 heL] at a3
              have main : ∀ q m3, m3 ≤ e3.2.2.2 - 1 - i → e3.2.2.2 - 1 - i < q + m3 → wpL_X8_step_72 md_forms md_formMany md_seats md_now md_barAlways md_noPut (fun (r2 : Int32) (md_thrown1 : Int32) (md_far1 : Nat → Int32) (md_queue1 : Nat → Int32) (md_from1 : Nat → Int32) (md_by1 : Nat → Int32) (md_many1 : Int32) => K ans r2 o f c r l ov v rr gr ba n fo b a e m md_thrown1 md_far1 md_queue1 md_from1 md_by1 md_many1) q 0 fa qu fr b2 m2 (nI i) (nI (ph (anc (bfs (mvs t lw_parts G set 0 5) (aft lw_parts) s) e3.1 m3))) := by
                intro q
                induction q with
                | zero => intro m3 h1 h2; omega
                | succ q ih =>
                  intro m3 h1 h2
                  obtain ⟨b1, b3⟩ := hGL.anc heBm m3 (by omega)
                  obtain ⟨b4, b5⟩ := ent_of b1 hGL.1
                  have bv := (hGL.2.1 _ b4).1
                  rw [b5] at bv
                  have bp := ph_lt bv
                  obtain ⟨c1, c2⟩ := hM.at hGL b1
                  rw [wpL_X8_step_72]
                  refine ⟨pk_in _ 16384 bp, ?_⟩
                  rw [nI_clamp (by omega), c1, b3]
                  have e4 : nI i + (1 : Int32) = nI (i + 1) := nI_1 i
                  rw [e4]
                  have c3 := c2 (by omega)
                  refine pk_le (e3.2.2.2 - m3) (i + 1) (fun hle => ⟨pk_in _ 16384 bp, ?_⟩) (fun hgt => ⟨pk_in _ 16384 bp, ?_⟩)
                  · rw [c3.2]
                    have hm3 : m3 = e3.2.2.2 - 1 - i := by omega
                    have : ans = nI (actN (ent (bfs (mvs t lw_parts G set 0 5) (aft lw_parts) s) (anc (bfs (mvs t lw_parts G set 0 5) (aft lw_parts) s) e3.1 m3)).2.2.1) := by
                      rw [a3, hm3]
                      rfl
                    rw [← this]
                    exact h _ _ _ _ _ _ _ _ _ _ _ _ _ _ _ _ _ _ _ _ _ _ _ hR2
                  · exact nm_r c3.1 (ih (m3 + 1) (by omega) (by omega))
              exact ⟨e3.2.2.2 + 1, main _ 0 (by omega) (by omega)⟩
            · rw [i64] at z
              have e1 : ((0 : Int64)).toInt = 0 := by decide
              rw [e1, hhi] at z
              have : ans = -9 := by
                rcases z with z | z
                · exact a1 (Int32.lt_iff_toInt_lt.mpr (by rw [Int32.toInt_zero]; exact z))
                · have hq : ¬ p2 < 0 := fun w => by
                    have := Int32.lt_iff_toInt_lt.mp w
                    rw [Int32.toInt_zero] at this
                    omega
                  obtain ⟨i, hi, rfl⟩ := nI_of hq
                  rw [nI_toInt hi] at z
                  exact a2 i rfl (by omega) hi
              rw [this]
              exact h _ _ _ _ _ _ _ _ _ _ _ _ _ _ _ _ _ _ _ _ _ _ _ hR2
        refine sp_stepOnWayTo hC hGL2 hmv heL ha (fun z => m8 _ (fun _ => rfl) (fun _ _ _ _ => rfl) (fun i hi _ => ?_)) (fun i hi hge hlt => m8 _ (fun _ => rfl) (fun _ _ _ _ => rfl) (fun j hj hlt2 => ?_)) (fun i hi hlt => m8 _ (fun z => ?_) (fun j hj hge hjl => ?_) (fun j hj hlt2 => ?_))
        · rw [hi] at z
          exact absurd z (nI_pos (by omega))
        · rw [hi, nI_eq hlt (by omega)] at hj
          omega
        · rw [hi] at z
          exact absurd z (nI_pos (by omega))
        · rw [hi, nI_eq (by omega) hjl] at hj
          omega
        · rw [hi, nI_eq (by omega) (by omega)] at hj
          rw [hj]
    · refine sp_goalExists_bad hb1 (y0 ?_)
      unfold wp_X8_step
      refine sp8_noSet hp hset (y0 ?_)
      exact sp8_noGoal_bad hb1 (y1' (h _ _ _ _ _ _ _ _ _ _ _ _ _ _ _ _ _ _ _ _ _ _ _ hR.succ))
  · refine sp_isSet_bad hb (y0' ?_)
    unfold wp_X8_step
    exact sp8_noSet_bad hb (y1 (h _ _ _ _ _ _ _ _ _ _ _ _ _ _ _ _ _ _ _ _ _ _ _ hR.succ))
