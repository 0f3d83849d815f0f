theorem sim_seats {N : Nat} (hN : N < 600) {tx_bytes : Nat → Int32} {tx_length : Int32} {md_text : Nat → Int32} {md_textSize : Int32} {lw_told : Nat → Int32} {lw_parts : Nat → Int32} {lw_hangMasks : Nat → Int32} {lw_hangValues : Nat → Int32} {lw_ownSeats : Nat → Int32} {md_forms : Nat → Int32} {md_formMany : Nat → Int32} {md_seats : Nat → Int32} {sl_state : Int32} {md_now : Int32} {sl_rolled : Int32} {md_rolls : Int32} {sl_rollSets : Nat → Int32} {sl_rollActs : Nat → Int32} {md_rollSet : Nat → Int32} {md_rollAct : Nat → Int32} {sl_kept : Nat → Int32} {md_slots : Nat → Int32} {md_isKept : Nat → Int32} {md_barAlways : Int32} {md_noPut : Int32} {se_cameBy : Nat → Int32} {se_runs : Int32} {md_thrown : Int32} (hR : REL N tx_bytes tx_length md_text md_textSize lw_told lw_parts lw_hangMasks lw_hangValues lw_ownSeats md_forms md_formMany md_seats sl_state md_now sl_rolled md_rolls sl_rollSets sl_rollActs md_rollSet md_rollAct sl_kept md_slots md_isKept md_barAlways md_noPut se_cameBy se_runs) (p0 : Int32) (p1 : Int32) (p2 : Int32) {K : Int32 → Int32 → (Nat → Int32) → Int32 → (Nat → Int32) → Prop} (h : ∀ (r : Int32) (lw_ownSeats1 : Nat → Int32) (md_thrown1 : Int32) (md_seats1 : Nat → Int32), REL (N + 1) tx_bytes tx_length md_text md_textSize lw_told lw_parts lw_hangMasks lw_hangValues lw_ownSeats1 md_forms md_formMany md_seats1 sl_state md_now sl_rolled md_rolls sl_rollSets sl_rollActs md_rollSet md_rollAct sl_kept md_slots md_isKept md_barAlways md_noPut se_cameBy se_runs → K r r lw_ownSeats1 md_thrown1 md_seats1) : wp_X7_seats lw_ownSeats p0 p1 p2 (fun (r1 : Int32) (lw_ownSeats1 : Nat → Int32) => wp_X8_seats md_thrown md_seats p0 p1 p2 (fun (r2 : Int32) (md_thrown1 : Int32) (md_seats1 : Nat → Int32) => K r1 r2 lw_ownSeats1 md_thrown1 md_seats1)) := by
  unfold wp_X7_seats
  obtain ⟨hRT, ⟨t, G, ⟨⟨hP, hH, hT, hG⟩, hSD, hM, hP2, hT2, hD2, hG2⟩, hS⟩, hRo, hKe, hBa, hCb⟩ := id hR
  have bad : ∀ r : Int32, wp_X8_seats md_thrown md_seats p0 p1 p2 (fun (r2 : Int32) (md_thrown1 : Int32) (md_seats1 : Nat → Int32) => r2 = r ∧ md_seats1 = md_seats) → wp_X8_seats md_thrown md_seats p0 p1 p2 (fun (r2 : Int32) (md_thrown1 : Int32) (md_seats1 : Nat → Int32) => K r r2 lw_ownSeats md_thrown1 md_seats1) := by
    intro r hr
    unfold wp_X8_seats wp_X8_in at hr ⊢
    refine ⟨fun a => y0' (by obtain ⟨rfl, -⟩ := (hr.1 a).1 rfl; exact h _ _ _ _ hR.succ), fun a => ⟨fun b => y0' (by obtain ⟨rfl, -⟩ := ((hr.2 a).1 b).1 rfl; exact h _ _ _ _ hR.succ), fun b => y1' ?_⟩⟩
    have hr := ((hr.2 a).2 b).2 (by decide)
    refine ⟨fun a => y0 (by obtain ⟨rfl, -⟩ := (hr.1 a).2 rfl; exact h _ _ _ _ hR.succ), fun a => ⟨fun b => y0 (by obtain ⟨rfl, -⟩ := ((hr.2 a).1 b).2 rfl; exact h _ _ _ _ hR.succ), fun b => y1 ?_⟩⟩
    have hr := ((hr.2 a).2 b).1 (by decide)
    refine ⟨fun a => y0 (by obtain ⟨rfl, -⟩ := (hr.1 a).2 rfl; exact h _ _ _ _ hR.succ), fun a => ⟨fun b => y0 (by obtain ⟨rfl, -⟩ := ((hr.2 a).1 b).2 rfl; exact h _ _ _ _ hR.succ), fun b => y1 ?_⟩⟩
    have hr := ((hr.2 a).2 b).1 (by decide)
    refine ⟨hr.1, nm_e ⟨hr.1, nm_e ?_⟩⟩
    obtain ⟨rfl, e2⟩ := (hr.2 _ rfl).2 _ rfl
    rw [e2]
    exact h _ _ _ _ hR.succ
  rcases range_cases p0 3 (by decide) with ⟨b, hb, hp⟩ | hb
  · refine pk_lt b 0 (fun z => by omega) (fun _ => pk_le 3 b (fun z => by omega) (fun _ => ?_) rfl hp) hp
    rcases range_cases p1 4 (by decide) with ⟨g, hg, hp1⟩ | hb1
    · refine pk_lt g 0 (fun z => by omega) (fun _ => pk_lt g 4 (fun _ => ?_) (fun z => by omega) hp1) hp1
      have e1 : nI b * (4 : Int32) = nI (b * 4) := pk_mul b 4
      have e1' : (4 : Int32) * nI b = nI (b * 4) := by rw [Nat.mul_comm]; exact pk_mul 4 b
      rcases range_cases p2 100 (by decide) with ⟨n, hn, hp2⟩ | hb2
      · refine pk_lt n 0 (fun z => by omega) (fun _ => pk_le n 99 (fun _ => ?_) (fun z => by omega) hp2) hp2
        unfold wp_X2_giveSeats
        rw [hp, hp1, e1]
        refine nm_r (nI_add _ _) ?_
        refine pk_lt (b * 4 + g) 0 (fun z => by omega) (fun _ => pk_lt (b * 4 + g) 12 (fun _ => ?_) (fun z => by omega))
        refine ⟨pk_in (b * 4 + g) 12 (by omega), ?_⟩
        rw [nI_clamp (by omega), hSD _ (by omega)]
        refine nm_e ⟨pk_in (b * 4 + g) 12 (by omega), nm_e ?_⟩
        unfold wp_X8_seats
        refine in_yes rfl (by omega) 0 2 (by decide) (by decide) (by omega) (by omega) (y1' ?_)
        refine in_yes rfl (by omega) 0 3 (by decide) (by decide) (by omega) (by omega) (y1 ?_)
        refine in_yes hp2 (by omega) 0 99 (by decide) (by decide) (by omega) (by omega) (y1 ?_)
        rw [e1', nI_add]
        refine ⟨pk_in (b * 4 + g) 12 (by omega), ?_⟩
        rw [nI_clamp (by omega), hD2 _ (by omega), hp2]
        refine nm_e ⟨pk_in (b * 4 + g) 12 (by omega), nm_e ?_⟩
        have hSD' : ∀ seats, SD G seats → SD (fun i => if i = b * 4 + g then n else G i) (upd seats (b * 4 + g) (nI n)) := by
          intro seats hs i hi
          by_cases q : i = b * 4 + g
          · subst q; rw [pk_us]; simp
          · rw [pk_un q]; simp [q]; exact hs i hi
        have hG' : LG (fun i => if i = b * 4 + g then n else G i) := by
          intro i hi
          by_cases q : i = b * 4 + g
          · simp [q]; omega
          · simp [q]; exact hG i hi
        exact h _ _ _ _ ⟨hRT, ⟨t, _, ⟨⟨hP, hH, hT, hG'⟩, hSD' _ hSD, hM, hP2, hT2, hSD' _ hD2, hG'⟩, hS⟩, hRo, hKe, hBa, hCb.succ⟩
      · have m8 := bad (-2) (by
          unfold wp_X8_seats
          refine in_yes hp (by omega) 0 2 (by decide) (by decide) (by omega) (by omega) (y1' ?_)
          refine in_yes hp1 (by omega) 0 3 (by decide) (by decide) (by omega) (by omega) (y1 ?_)
          exact in_no 100 (by decide) hb2 0 (by decide) (by decide) (y0 ⟨rfl, rfl⟩))
        refine ⟨fun _ => m8, fun q => ⟨fun w => ?_, fun _ => m8⟩⟩
        rcases hb2 with z | z
        · exact absurd z q
        · have h1 := Int32.le_iff_toInt_le.mp w
          have h2 := Int32.le_iff_toInt_le.mp z
          rw [nI_toInt (by decide)] at h2
          have h3 : ((99 : Int32)).toInt = 99 := by decide
          rw [h3] at h1
          omega
    · have m8 := bad (-1) (by
          unfold wp_X8_seats
          refine in_yes hp (by omega) 0 2 (by decide) (by decide) (by omega) (by omega) (y1' ?_)
          exact in_no 4 (by decide) hb1 0 (by decide) (by decide) (y0 ⟨rfl, rfl⟩))
      exact ntest hb1 m8 m8
  · have m8 := bad (-1) (by
          unfold wp_X8_seats
          exact in_no 3 (by decide) hb 0 (by decide) (by decide) (y0' ⟨rfl, rfl⟩))
    exact ntest' hb m8 m8
theorem sim_stand {N : Nat} (hN : N < 600) {tx_bytes : Nat → Int32} {tx_length : Int32} {md_text : Nat → Int32} {md_textSize : Int32} {lw_told : Nat → Int32} {lw_parts : Nat → Int32} {lw_hangMasks : Nat → Int32} {lw_hangValues : Nat → Int32} {lw_ownSeats : Nat → Int32} {md_forms : Nat → Int32} {md_formMany : Nat → Int32} {md_seats : Nat → Int32} {sl_state : Int32} {md_now : Int32} {sl_rolled : Int32} {md_rolls : Int32} {sl_rollSets : Nat → Int32} {sl_rollActs : Nat → Int32} {md_rollSet : Nat → Int32} {md_rollAct : Nat → Int32} {sl_kept : Nat → Int32} {md_slots : Nat → Int32} {md_isKept : Nat → Int32} {md_barAlways : Int32} {md_noPut : Int32} {se_cameBy : Nat → Int32} {se_runs : Int32} {md_thrown : Int32} (hR : REL N tx_bytes tx_length md_text md_textSize lw_told lw_parts lw_hangMasks lw_hangValues lw_ownSeats md_forms md_formMany md_seats sl_state md_now sl_rolled md_rolls sl_rollSets sl_rollActs md_rollSet md_rollAct sl_kept md_slots md_isKept md_barAlways md_noPut se_cameBy se_runs) (p0 : Int32) (p1 : Int32) {K : Int32 → Int32 → Int32 → Int32 → Int32 → Prop} (h : ∀ (r : Int32) (sl_state1 : Int32) (md_thrown1 : Int32) (md_now1 : Int32), REL (N + 1) tx_bytes tx_length md_text md_textSize lw_told lw_parts lw_hangMasks lw_hangValues lw_ownSeats md_forms md_formMany md_seats sl_state1 md_now1 sl_rolled md_rolls sl_rollSets sl_rollActs md_rollSet md_rollAct sl_kept md_slots md_isKept md_barAlways md_noPut se_cameBy se_runs → K r r sl_state1 md_thrown1 md_now1) : wp_X7_stand sl_state lw_told p0 p1 (fun (r1 : Int32) (sl_state1 : Int32) => wp_X8_stand md_thrown md_formMany md_now p0 p1 (fun (r2 : Int32) (md_thrown1 : Int32) (md_now1 : Int32) => K r1 r2 sl_state1 md_thrown1 md_now1)) := by
  unfold wp_X7_stand
  obtain ⟨hRT, ⟨t, G, hLa, s, hs, es, en⟩, hRo, hKe, hBa, hCb⟩ := id hR
  obtain ⟨⟨hP, hH, hT, hG⟩, hSD, hM, hP2, hT2, hD2, hG2⟩ := id hLa
  have hs1 := hs.1
  rcases range_cases p0 5 (by decide) with ⟨c, hc, hp⟩ | hb
  · refine sp_isClause hp hc (y1 ?_)
    have htc := hP.1 c hc
    have hcl : p0.toNatClampNeg = c := by rw [hp]; exact nI_clamp (by omega)
    have hh : (nI (t c)).toInt64.toInt = (t c : Int) := by rw [i64, nI_toInt (by omega)]
    rcases range_cases p1 (t c + 1) (by omega) with ⟨f, hf, hp1⟩ | hb1
    · refine pk_lt f 0 (fun z => by omega) (fun _ => ?_) hp1
      refine sp_formsOf hT hp hc ?_
      refine pk_le f (t c) (fun _ => ?_) (fun z => by omega) hp1
      refine sp_X5_formOf es hp (by omega) hc ?_
      refine sp_X5_put es hp hp1 hs1 hc (by omega) ?_
      unfold wp_X8_stand
      refine sp8_noClause hp hc (y0' ⟨pk_in c 5 hc hp, ?_⟩)
      rw [hcl, hT2 c hc]
      refine in_yes hp1 (by omega) 0 (t c) (by decide) hh (by omega) (by omega) (y1 ?_)
      refine sp8_formOf en hp hs1 hc ?_
      unfold wp_X8_put
      rw [en, hp, hp1, w8_put hs1 hc (by omega)]
      refine h _ _ _ _ ⟨hRT, ⟨t, G, hLa, _, ⟨pu_lt hs1 hc (by omega), fun x hx => ?_⟩, rfl, rfl⟩, hRo, hKe, hBa, hCb.succ⟩
      rw [fo_pu hs1 hc (by omega) hx]
      split
      · rename_i q; subst q; omega
      · exact hs.2 x hx
    · have m8 : wp_X8_stand md_thrown md_formMany md_now p0 p1 (fun (r2 : Int32) (md_thrown1 : Int32) (md_now1 : Int32) => K (-2) r2 sl_state md_thrown1 md_now1) := by
        unfold wp_X8_stand
        refine sp8_noClause hp hc (y0' ⟨pk_in c 5 hc hp, ?_⟩)
        rw [hcl, hT2 c hc]
        exact in_no (t c + 1) (by omega) hb1 0 (by decide) (by rw [hh]; omega) (y0 (h _ _ _ _ hR.succ))
      refine ⟨fun _ => m8, fun q => ?_⟩
      refine sp_formsOf hT hp hc ⟨fun w => ?_, fun _ => m8⟩
      rcases hb1 with z | z
      · exact absurd z q
      · have h1 := Int32.le_iff_toInt_le.mp w
        have h2 := Int32.le_iff_toInt_le.mp z
        rw [nI_toInt (by omega)] at h1 h2
        omega
  · refine sp_isClause_bad hb (y0 ?_)
    unfold wp_X8_stand
    exact sp8_noClause_bad hb (y1' (h _ _ _ _ hR.succ))
theorem sim_votes {N : Nat} (hN : N < 600) {tx_bytes : Nat → Int32} {tx_length : Int32} {md_text : Nat → Int32} {md_textSize : Int32} {lw_told : Nat → Int32} {lw_parts : Nat → Int32} {lw_hangMasks : Nat → Int32} {lw_hangValues : Nat → Int32} {lw_ownSeats : Nat → Int32} {md_forms : Nat → Int32} {md_formMany : Nat → Int32} {md_seats : Nat → Int32} {sl_state : Int32} {md_now : Int32} {sl_rolled : Int32} {md_rolls : Int32} {sl_rollSets : Nat → Int32} {sl_rollActs : Nat → Int32} {md_rollSet : Nat → Int32} {md_rollAct : Nat → Int32} {sl_kept : Nat → Int32} {md_slots : Nat → Int32} {md_isKept : Nat → Int32} {md_barAlways : Int32} {md_noPut : Int32} {se_cameBy : Nat → Int32} {se_runs : Int32} {sg_ownVotes : Nat → Int32} {sg_votes : Nat → Int32} {sg_rows : Nat → Int32} {sg_groups : Int32} {sg_bars : Int32} {sg_now : Int32} {sg_forced : Int32} {sg_barred : Int32} {md_thrown : Int32} (hR : REL N tx_bytes tx_length md_text md_textSize lw_told lw_parts lw_hangMasks lw_hangValues lw_ownSeats md_forms md_formMany md_seats sl_state md_now sl_rolled md_rolls sl_rollSets sl_rollActs md_rollSet md_rollAct sl_kept md_slots md_isKept md_barAlways md_noPut se_cameBy se_runs) (p0 : Int32) (p1 : Int32) {K : Int32 → Int32 → (Nat → Int32) → (Nat → Int32) → (Nat → Int32) → Int32 → Int32 → Int32 → Int32 → Int32 → Int32 → Prop} (h : ∀ (r : Int32) (sg_ownVotes1 : Nat → Int32) (sg_votes1 : Nat → Int32) (sg_rows1 : Nat → Int32) (sg_groups1 : Int32) (sg_bars1 : Int32) (sg_now1 : Int32) (sg_forced1 : Int32) (sg_barred1 : Int32) (md_thrown1 : Int32), REL (N + 1) tx_bytes tx_length md_text md_textSize lw_told lw_parts lw_hangMasks lw_hangValues lw_ownSeats md_forms md_formMany md_seats sl_state md_now sl_rolled md_rolls sl_rollSets sl_rollActs md_rollSet md_rollAct sl_kept md_slots md_isKept md_barAlways md_noPut se_cameBy se_runs → K r r sg_ownVotes1 sg_votes1 sg_rows1 sg_groups1 sg_bars1 sg_now1 sg_forced1 sg_barred1 md_thrown1) : wp_X7_votes sl_state sg_ownVotes sg_votes sg_rows sg_groups sg_bars sg_now sg_forced sg_barred lw_parts lw_hangMasks lw_hangValues lw_ownSeats p0 p1 (fun (r1 : Int32) (sg_ownVotes1 : Nat → Int32) (sg_votes1 : Nat → Int32) (sg_rows1 : Nat → Int32) (sg_groups1 : Int32) (sg_bars1 : Int32) (sg_now1 : Int32) (sg_forced1 : Int32) (sg_barred1 : Int32) => wp_X8_votes md_thrown md_forms md_seats md_now p0 p1 (fun (r2 : Int32) (md_thrown1 : Int32) => K r1 r2 sg_ownVotes1 sg_votes1 sg_rows1 sg_groups1 sg_bars1 sg_now1 sg_forced1 sg_barred1 md_thrown1)) := by
  unfold wp_X7_votes
  obtain ⟨hRT, ⟨t, G, hLa, s, hs, es, en⟩, hRo, hKe, hBa, hCb⟩ := id hR
  obtain ⟨⟨hP, hH, hT, hG⟩, hSD, hM, hP2, hT2, hD2, hG2⟩ := id hLa
  rcases range_cases p0 16 (by decide) with ⟨set, hset, hp⟩ | hb
  · refine sp_isSet hp hset (y1 ?_)
    rcases range_cases p1 3 (by decide) with ⟨b, hb, hp1⟩ | hb1
    · refine pk_lt b 0 (fun z => by omega) (fun _ => pk_lt b 3 (fun _ => ?_) (fun z => by omega) hp1) hp1
      unfold wp_X7_lookAs
      refine sp_choose hSD hset (bars := 0) (by decide) hp rfl (fun o g ba hSC => ?_)
      refine sp_look hP hH hs es hSC (fun v r n f br hLK => ?_)
      refine sp_votesIn hp1 hb ?_
      rw [hLK.1.1 b hb]
      unfold wp_X8_votes
      refine sp8_noSet hp hset (y0' ?_)
      refine in_yes hp1 (by omega) 0 2 (by decide) (by decide) (by omega) (by omega) (y1' ?_)
      exact sp8_votesIn hM hP hD2 en hp hp1 hs hset hb (h _ _ _ _ _ _ _ _ _ _ hR.succ)
    · have m8 : ∀ a b c d e f g i, wp_X8_votes md_thrown md_forms md_seats md_now p0 p1 (fun (r2 : Int32) (md_thrown1 : Int32) => K (-1) r2 a b c d e f g i md_thrown1) := by
        intro a b c d e f g i
        unfold wp_X8_votes
        refine sp8_noSet hp hset (y0' ?_)
        exact in_no 3 (by decide) hb1 0 (by decide) (by decide) (y0' (h _ _ _ _ _ _ _ _ _ _ hR.succ))
      exact ntest hb1 (m8 _ _ _ _ _ _ _ _) (m8 _ _ _ _ _ _ _ _)
  · refine sp_isSet_bad hb (y0 ?_)
    unfold wp_X8_votes
    exact sp8_noSet_bad hb (y1' (h _ _ _ _ _ _ _ _ _ _ hR.succ))
theorem sim_about {N : Nat} (hN : N < 600) {tx_bytes : Nat → Int32} {tx_length : Int32} {md_text : Nat → Int32} {md_textSize : Int32} {lw_told : Nat → Int32} {lw_parts : Nat → Int32} {lw_hangMasks : Nat → Int32} {lw_hangValues : Nat → Int32} {lw_ownSeats : Nat → Int32} {md_forms : Nat → Int32} {md_formMany : Nat → Int32} {md_seats : Nat → Int32} {sl_state : Int32} {md_now : Int32} {sl_rolled : Int32} {md_rolls : Int32} {sl_rollSets : Nat → Int32} {sl_rollActs : Nat → Int32} {md_rollSet : Nat → Int32} {md_rollAct : Nat → Int32} {sl_kept : Nat → Int32} {md_slots : Nat → Int32} {md_isKept : Nat → Int32} {md_barAlways : Int32} {md_noPut : Int32} {se_cameBy : Nat → Int32} {se_runs : Int32} {md_thrown : Int32} (hR : REL N tx_bytes tx_length md_text md_textSize lw_told lw_parts lw_hangMasks lw_hangValues lw_ownSeats md_forms md_formMany md_seats sl_state md_now sl_rolled md_rolls sl_rollSets sl_rollActs md_rollSet md_rollAct sl_kept md_slots md_isKept md_barAlways md_noPut se_cameBy se_runs) (p0 : Int32) (p1 : Int32) (p2 : Int32) {K : Int32 → Int32 → Int32 → Prop} (h : ∀ (r : Int32) (md_thrown1 : Int32), REL (N + 1) tx_bytes tx_length md_text md_textSize lw_told lw_parts lw_hangMasks lw_hangValues lw_ownSeats md_forms md_formMany md_seats sl_state md_now sl_rolled md_rolls sl_rollSets sl_rollActs md_rollSet md_rollAct sl_kept md_slots md_isKept md_barAlways md_noPut se_cameBy se_runs → K r r md_thrown1) : wp_X7_about lw_told lw_parts p0 p1 p2 (fun (r1 : Int32)  => wp_X8_about md_thrown md_forms md_formMany p0 p1 p2 (fun (r2 : Int32) (md_thrown1 : Int32) => K r1 r2 md_thrown1)) := by
  unfold wp_X7_about
  obtain ⟨hRT, ⟨t, G, hLa, s, hs, es, en⟩, hRo, hKe, hBa, hCb⟩ := id hR
  obtain ⟨⟨hP, hH, hT, hG⟩, hSD, hM, hP2, hT2, hD2, hG2⟩ := id hLa
  rcases range_cases p0 5 (by decide) with ⟨c, hc, hp⟩ | hb
  · refine sp_isClause hp hc (y1' ?_)
    have htc := hP.1 c hc
    have hcl : p0.toNatClampNeg = c := by rw [hp]; exact nI_clamp (by omega)
    have hh : (nI (t c)).toInt64.toInt = (t c : Int) := by rw [i64, nI_toInt (by omega)]
    by_cases hf : ∃ f, 1 ≤ f ∧ f ≤ t c ∧ p1 = nI f
    · obtain ⟨f, hf1, hf2, hp1⟩ := hf
      refine pk_lt f 1 (fun z => by omega) (fun _ => ?_) hp1
      refine sp_formsOf hT hp hc ?_
      refine pk_le f (t c) (fun _ => ?_) (fun z => by omega) hp1
      rcases range_cases p2 6 (by decide) with ⟨w, hw, hp2⟩ | hb2
      · refine pk_lt w 0 (fun z => by omega) (fun _ => pk_lt w 6 (fun _ => ?_) (fun z => by omega) hp2) hp2
        refine sp_X2_rowOf hp hp1 ?_
        refine sp_part ((c * 4 + f) * 6 + w) (by rw [hp2]; exact nI_add _ _) (by omega) ?_
        unfold wp_X8_about
        refine sp8_noClause hp hc (y0 ⟨pk_in c 5 hc hp, ?_⟩)
        rw [hcl, hT2 c hc]
        refine in_yes hp1 (by omega) 1 (t c) (by decide) hh (by omega) (by omega) (y1 ?_)
        refine in_yes hp2 (by omega) 0 5 (by decide) (by decide) (by omega) (by omega) (y1' ?_)
        have e1 : (18 : Int32) * p0 = nI (18 * c) := by rw [hp]; exact pk_mul 18 c
        have e2 : p1 - (1 : Int32) = nI (f - 1) := by rw [hp1]; exact pk_sub (a := f) (b := 1) (by omega)
        have e3 : (6 : Int32) * nI (f - 1) = nI (6 * (f - 1)) := pk_mul 6 _
        rw [e1, e2, e3, hp2, nI_add, nI_add]
        refine ⟨pk_in (18 * c + 6 * (f - 1) + w) 90 (by omega), ?_⟩
        rw [nI_clamp (by omega), hM c f w hc hf1 hf2 hw]
        exact h _ _ hR.succ
      · have m8 : wp_X8_about md_thrown md_forms md_formMany p0 p1 p2 (fun (r2 : Int32) (md_thrown1 : Int32) => K (-2) r2 md_thrown1) := by
          unfold wp_X8_about
          refine sp8_noClause hp hc (y0 ⟨pk_in c 5 hc hp, ?_⟩)
          rw [hcl, hT2 c hc]
          refine in_yes hp1 (by omega) 1 (t c) (by decide) hh (by omega) (by omega) (y1 ?_)
          exact in_no 6 (by decide) hb2 0 (by decide) (by decide) (y0' (h _ _ hR.succ))
        exact ntest hb2 m8 m8
    · have hcond : p1.toInt < 1 ∨ (t c : Int) < p1.toInt := by
        by_cases q : p1.toInt < 1
        · exact Or.inl q
        · by_cases q2 : (t c : Int) < p1.toInt
          · exact Or.inr q2
          · obtain ⟨f, h1, h2⟩ := nI_ofInt (x := p1) (n := t c) (by omega) (by omega)
            refine absurd ⟨f, ?_, h1, h2⟩ hf
            rw [h2, nI_toInt (by omega)] at q
            omega
      have m8 : wp_X8_about md_thrown md_forms md_formMany p0 p1 p2 (fun (r2 : Int32) (md_thrown1 : Int32) => K (-1) r2 md_thrown1) := by
        unfold wp_X8_about
        refine sp8_noClause hp hc (y0 ⟨pk_in c 5 hc hp, ?_⟩)
        rw [hcl, hT2 c hc]
        refine sp8_in (fun z1 z2 => ?_) (fun _ => y0 (h _ _ hR.succ))
        rw [i64] at z1 z2
        have e1 : ((1 : Int64)).toInt = 1 := by decide
        rw [e1] at z1
        rw [hh] at z2
        omega
      refine ⟨fun _ => m8, fun q => ?_⟩
      refine sp_formsOf hT hp hc ⟨fun w => ?_, fun _ => m8⟩
      have h1 := Int32.le_iff_toInt_le.mp w
      rw [nI_toInt (by omega)] at h1
      have h2 : ¬ p1.toInt < ((1 : Int32)).toInt := fun z => q (Int32.lt_iff_toInt_lt.mpr z)
      have h3 : ((1 : Int32)).toInt = 1 := by decide
      rw [h3] at h2
      omega
  · refine sp_isClause_bad hb (y0' ?_)
    unfold wp_X8_about
    exact sp8_noClause_bad hb (y1 (h _ _ hR.succ))
