theorem game_cases (p0 p1 p2 p3 : Int32) : (∃ set oth g T, set < 16 ∧ oth < 16 ∧ goalN g ∧ T ≤ 7 ∧ p0 = nI set ∧ p1 = nI oth ∧ p2 = nI g ∧ p3 = nI (T + 1) ∧ (∀ post : Int32 → Prop, post 1 → wp_X7_isGame p0 p1 p2 p3 post) ∧ (∀ post : Int32 → Prop, post 0 → wp_X8_noTurns p0 p1 p2 p3 post)) ∨ ((∀ post : Int32 → Prop, post 0 → wp_X7_isGame p0 p1 p2 p3 post) ∧ (∀ post : Int32 → Prop, post 1 → wp_X8_noTurns p0 p1 p2 p3 post)) := by
  unfold wp_X7_isGame wp_X8_noTurns
  rcases range_cases p0 16 (by decide) with ⟨set, hset, hp⟩ | hb
  · rcases range_cases p1 16 (by decide) with ⟨oth, hoth, hp1⟩ | hb1
    · rcases goal_cases p2 with ⟨g, hg, hp2⟩ | hb2
      · rcases range_cases p3 9 (by decide) with ⟨c, hc, hp3⟩ | hb3
        · cases c with
          | zero =>
            refine Or.inr ⟨fun post h => ?_, fun post h => ?_⟩
            · exact sp_isSet hp hset (y1' (sp_isSet hp1 hoth (y1' (sp_goalExists hp2 hg (y1' (pk_lt 0 1 (fun _ => h) (fun z => by omega) hp3))))))
            · refine sp8_noSet hp hset (y0 (sp8_noSet hp1 hoth (y0 (sp8_noGoal hp2 hg (y0 ?_)))))
              refine sp8_in (fun h1 _ => ?_) (fun _ => y0 h)
              rw [i64, hp3, nI_toInt (by decide)] at h1
              exact absurd h1 (by decide)
          | succ T =>
            refine Or.inl ⟨set, oth, g, T, hset, hoth, hg, by omega, hp, hp1, hp2, hp3, fun post h => ?_, fun post h => ?_⟩
            · exact sp_isSet hp hset (y1' (sp_isSet hp1 hoth (y1' (sp_goalExists hp2 hg (y1' (pk_lt (T + 1) 1 (fun z => by omega) (fun _ => pk_lt 8 (T + 1) (fun z => by omega) (fun _ => h) rfl hp3) hp3))))))
            · refine sp8_noSet hp hset (y0 (sp8_noSet hp1 hoth (y0 (sp8_noGoal hp2 hg (y0 ?_)))))
              exact in_yes hp3 (by omega) 1 8 (by decide) (by decide) (by omega) (by omega) (y1 h)
        · have hn := neg_or (B := 9) (by decide) hb3
          refine Or.inr ⟨fun post h => ?_, fun post h => ?_⟩
          · refine sp_isSet hp hset (y1' (sp_isSet hp1 hoth (y1' (sp_goalExists hp2 hg (y1' ⟨fun _ => h, fun q => ⟨fun _ => h, fun q2 => ?_⟩⟩)))))
            have h1 : ¬ p3.toInt < 1 := fun z => q (Int32.lt_iff_toInt_lt.mpr z)
            have h2 : ¬ 8 < p3.toInt := fun z => q2 (Int32.lt_iff_toInt_lt.mpr z)
            omega
          · refine sp8_noSet hp hset (y0 (sp8_noSet hp1 hoth (y0 (sp8_noGoal hp2 hg (y0 ?_)))))
            refine sp8_in (fun h1 h2 => ?_) (fun _ => y0 h)
            rw [i64] at h1 h2
            have e1 : (1 : Int64).toInt = 1 := by decide
            have e8 : (8 : Int64).toInt = 8 := by decide
            rw [e1] at h1
            rw [e8] at h2
            omega
      · exact Or.inr ⟨fun post h => sp_isSet hp hset (y1' (sp_isSet hp1 hoth (y1' (sp_goalExists_bad hb2 (y0' h))))), fun post h => sp8_noSet hp hset (y0 (sp8_noSet hp1 hoth (y0 (sp8_noGoal_bad hb2 (y1 h)))))⟩
    · exact Or.inr ⟨fun post h => sp_isSet hp hset (y1' (sp_isSet_bad hb1 (y0' h))), fun post h => sp8_noSet hp hset (y0 (sp8_noSet_bad hb1 (y1 h)))⟩
  · exact Or.inr ⟨fun post h => sp_isSet_bad hb (y0' h), fun post h => sp8_noSet_bad hb (y1 h)⟩
theorem WI.zero {t : Nat → Nat} {mv : Nat → List Nat} {af : Nat → Nat → Nat} {s : Nat} {L : List En} {W : Nat → Nat} {a : Nat} (hGL : GL (SV t) mv af s L) (h : WI mv af L W a) (ha : 2 ≤ a) : L[0]? = some (s, 0, 0, 0) ∧ 0 < W 0 ∧ 0 < W 1 := by
  have h1 := (h.1 0 (by omega)).1
  have h2 := (h.1 1 (by omega)).1
  exact ⟨hGL.2.2.1, by omega, by omega⟩
theorem sim_sure {N : Nat} (hN : N < 600) {tx_bytes : Nat → Int32} {tx_length : Int32} {md_text : Nat → Int32} {md_textSize : Int32} {lw_told : Nat → Int32} {lw_parts : Nat → Int32} {lw_hangMasks : Nat → Int32} {lw_hangValues : Nat → Int32} {lw_ownSeats : Nat → Int32} {md_forms : Nat → Int32} {md_formMany : Nat → Int32} {md_seats : Nat → Int32} {sl_state : Int32} {md_now : Int32} {sl_rolled : Int32} {md_rolls : Int32} {sl_rollSets : Nat → Int32} {sl_rollActs : Nat → Int32} {md_rollSet : Nat → Int32} {md_rollAct : Nat → Int32} {sl_kept : Nat → Int32} {md_slots : Nat → Int32} {md_isKept : Nat → Int32} {md_barAlways : Int32} {md_noPut : Int32} {se_cameBy : Nat → Int32} {se_runs : Int32} {se_order : Nat → Int32} {se_from : Nat → Int32} {se_marks : Nat → Int32} {se_length : Int32} {se_within : Nat → Int32} {sg_ownVotes : Nat → Int32} {sg_votes : Nat → Int32} {sg_rows : Nat → Int32} {sg_groups : Int32} {sg_bars : Int32} {sg_now : Int32} {sg_forced : Int32} {sg_barred : Int32} {sg_mayActs : Nat → Int32} {sg_mayEnds : Nat → Int32} {sg_mays : Int32} {so_ownVotes : Nat → Int32} {so_votes : Nat → Int32} {so_rows : Nat → Int32} {so_groups : Int32} {so_bars : Int32} {so_now : Int32} {so_forced : Int32} {so_barred : Int32} {so_mayActs : Nat → Int32} {so_mayEnds : Nat → Int32} {so_mays : Int32} {md_thrown : Int32} {md_far : Nat → Int32} {md_queue : Nat → Int32} {md_from : Nat → Int32} {md_by : Nat → Int32} {md_many : Int32} {md_is : Nat → Int32} {md_next : Nat → Int32} (hR : REL N tx_bytes tx_length md_text md_textSize lw_told lw_parts lw_hangMasks lw_hangValues lw_ownSeats md_forms md_formMany md_seats sl_state md_now sl_rolled md_rolls sl_rollSets sl_rollActs md_rollSet md_rollAct sl_kept md_slots md_isKept md_barAlways md_noPut se_cameBy se_runs) (p0 : Int32) (p1 : Int32) (p2 : Int32) (p3 : Int32) {K : Int32 → Int32 → (Nat → Int32) → (Nat → Int32) → (Nat → Int32) → (Nat → Int32) → Int32 → Int32 → (Nat → Int32) → (Nat → Int32) → (Nat → Int32) → (Nat → Int32) → Int32 → Int32 → Int32 → Int32 → Int32 → (Nat → Int32) → (Nat → Int32) → Int32 → (Nat → Int32) → (Nat → Int32) → (Nat → Int32) → Int32 → Int32 → Int32 → Int32 → Int32 → (Nat → Int32) → (Nat → Int32) → Int32 → Int32 → (Nat → Int32) → (Nat → Int32) → (Nat → Int32) → (Nat → Int32) → Int32 → (Nat → Int32) → (Nat → Int32) → Prop} (h : ∀ (r : Int32) (se_order1 : Nat → Int32) (se_from1 : Nat → Int32) (se_marks1 : Nat → Int32) (se_cameBy1 : Nat → Int32) (se_runs1 : Int32) (se_length1 : Int32) (se_within1 : Nat → Int32) (sg_ownVotes1 : Nat → Int32) (sg_votes1 : Nat → Int32) (sg_rows1 : Nat → Int32) (sg_groups1 : Int32) (sg_bars1 : Int32) (sg_now1 : Int32) (sg_forced1 : Int32) (sg_barred1 : Int32) (sg_mayActs1 : Nat → Int32) (sg_mayEnds1 : Nat → Int32) (sg_mays1 : Int32) (so_ownVotes1 : Nat → Int32) (so_votes1 : Nat → Int32) (so_rows1 : Nat → Int32) (so_groups1 : Int32) (so_bars1 : Int32) (so_now1 : Int32) (so_forced1 : Int32) (so_barred1 : Int32) (so_mayActs1 : Nat → Int32) (so_mayEnds1 : Nat → Int32) (so_mays1 : Int32) (md_thrown1 : Int32) (md_far1 : Nat → Int32) (md_queue1 : Nat → Int32) (md_from1 : Nat → Int32) (md_by1 : Nat → Int32) (md_many1 : Int32) (md_is1 : Nat → Int32) (md_next1 : Nat → Int32), REL (N + 1) tx_bytes tx_length md_text md_textSize lw_told lw_parts lw_hangMasks lw_hangValues lw_ownSeats md_forms md_formMany md_seats sl_state md_now sl_rolled md_rolls sl_rollSets sl_rollActs md_rollSet md_rollAct sl_kept md_slots md_isKept md_barAlways md_noPut se_cameBy1 se_runs1 → K r r se_order1 se_from1 se_marks1 se_cameBy1 se_runs1 se_length1 se_within1 sg_ownVotes1 sg_votes1 sg_rows1 sg_groups1 sg_bars1 sg_now1 sg_forced1 sg_barred1 sg_mayActs1 sg_mayEnds1 sg_mays1 so_ownVotes1 so_votes1 so_rows1 so_groups1 so_bars1 so_now1 so_forced1 so_barred1 so_mayActs1 so_mayEnds1 so_mays1 md_thrown1 md_far1 md_queue1 md_from1 md_by1 md_many1 md_is1 md_next1) : wp_X7_sure sl_state se_order se_from se_marks se_cameBy se_runs se_length se_within sg_ownVotes sg_votes sg_rows sg_groups sg_bars sg_now sg_forced sg_barred sg_mayActs sg_mayEnds sg_mays so_ownVotes so_votes so_rows so_groups so_bars so_now so_forced so_barred so_mayActs so_mayEnds so_mays lw_told lw_parts lw_hangMasks lw_hangValues lw_ownSeats p0 p1 p2 p3 (fun (r1 : Int32) (se_order1 : Nat → Int32) (se_from1 : Nat → Int32) (se_marks1 : Nat → Int32) (se_cameBy1 : Nat → Int32) (se_runs1 : Int32) (se_length1 : Int32) (se_within1 : Nat → Int32) (sg_ownVotes1 : Nat → Int32) (sg_votes1 : Nat → Int32) (sg_rows1 : Nat → Int32) (sg_groups1 : Int32) (sg_bars1 : Int32) (sg_now1 : Int32) (sg_forced1 : Int32) (sg_barred1 : Int32) (sg_mayActs1 : Nat → Int32) (sg_mayEnds1 : Nat → Int32) (sg_mays1 : Int32) (so_ownVotes1 : Nat → Int32) (so_votes1 : Nat → Int32) (so_rows1 : Nat → Int32) (so_groups1 : Int32) (so_bars1 : Int32) (so_now1 : Int32) (so_forced1 : Int32) (so_barred1 : Int32) (so_mayActs1 : Nat → Int32) (so_mayEnds1 : Nat → Int32) (so_mays1 : Int32) => wp_X8_sure md_thrown md_forms md_formMany md_seats md_now md_barAlways md_noPut md_far md_queue md_from md_by md_many md_is md_next p0 p1 p2 p3 (fun (r2 : Int32) (md_thrown1 : Int32) (md_far1 : Nat → Int32) (md_queue1 : Nat → Int32) (md_from1 : Nat → Int32) (md_by1 : Nat → Int32) (md_many1 : Int32) (md_is1 : Nat → Int32) (md_next1 : Nat → Int32) => K r1 r2 se_order1 se_from1 se_marks1 se_cameBy1 se_runs1 se_length1 se_within1 sg_ownVotes1 sg_votes1 sg_rows1 sg_groups1 sg_bars1 sg_now1 sg_forced1 sg_barred1 sg_mayActs1 sg_mayEnds1 sg_mays1 so_ownVotes1 so_votes1 so_rows1 so_groups1 so_bars1 so_now1 so_forced1 so_barred1 so_mayActs1 so_mayEnds1 so_mays1 md_thrown1 md_far1 md_queue1 md_from1 md_by1 md_many1 md_is1 md_next1)) := by
  unfold wp_X7_sure
  obtain ⟨hRT, ⟨t, G, hLa, s, hs, es, en⟩, hRo, hKe, hBa, R, hRN, hCB⟩ := id hR
  obtain ⟨hLW, hSD, hML⟩ := id hLa
  rcases game_cases p0 p1 p2 p3 with ⟨set, oth, g, T, hset, hoth, hg, hT, hp, hp1, hp2, hp3, hyes, hno⟩ | ⟨hno, hbad⟩
  · refine hyes _ (y1 ?_)
    unfold wp_X7_play
    have e2 : (2 : Int32) * p3 = nI (2 * (T + 1)) := by rw [hp3]; exact pk_mul 2 (T + 1)
    rw [e2]
    refine sp_choose hSD hset (bars := 0) (by decide) hp rfl (fun o1 g1 ba1 hS1 => sp_choose hSD hoth (bars := 0) (by decide) hp1 rfl (fun o2 g2 ba2 hS2 => ?_))
    refine sp_runByBoth hLW hS1 hS2 hCB (by omega) hs es (T := 2 * (T + 1)) (by omega) rfl (fun L W o f c r l w v1 r1 n1 f1 b1 a1 d1 m1 v2 r2 n2 f2 b2 a2 d2 m2 hGL hWI hWT hw hC => ?_)
    refine sp_markSure hLW hS1 hS2 rfl (by omega) hC hGL hWI hWT hw hg hp2 hp3 (fun mk2 m v1 r1 n1 f1 b1 a1 d1 m1 v2 r2 n2 f2 b2 a2 d2 m2 hMK hsr => ?_)
    have hR2 : REL (N + 1) tx_bytes tx_length md_text md_textSize lw_told lw_parts lw_hangMasks lw_hangValues lw_ownSeats md_forms md_formMany md_seats sl_state md_now sl_rolled md_rolls sl_rollSets sl_rollActs md_rollSet md_rollAct sl_kept md_slots md_isKept md_barAlways md_noPut c r := ⟨hRT, ⟨t, G, hLa, s, hs, es, en⟩, hRo, hKe, hBa, R + 1, by omega, hC.cb (by omega)⟩
    obtain ⟨z0, z1, z2⟩ := WI.zero hGL hWI (by omega)
    refine sp_isMarked hMK (mem_sts.mpr ⟨_, List.mem_of_getElem? z0, rfl⟩) hs.1 (n := 2 * (T + 1)) (by omega) es rfl ?_
    have hd := hsr (2 * (T + 1)) (Nat.le_refl _) 0 _ (by rw [Nat.sub_self]; exact z1) z0
    rw [show ((s, 0, 0, 0) : En).1 = s from rfl] at hd
    rw [hd]
    have m8 : ∀ ans : Int32, ans = nI (srN (mvs t lw_parts G set 0 5) (mvs t lw_parts G oth 0 5) (aft lw_parts) g (2 * (T + 1)) s).toNat → wp_X8_sure md_thrown md_forms md_formMany md_seats md_now md_barAlways md_noPut md_far md_queue md_from md_by md_many md_is md_next p0 p1 p2 p3 (fun (r2x : Int32) (md_thrown1 : Int32) (md_far1 : Nat → Int32) (md_queue1 : Nat → Int32) (md_from1 : Nat → Int32) (md_by1 : Nat → Int32) (md_many1 : Int32) (md_is1 : Nat → Int32) (md_next1 : Nat → Int32) => K ans r2x o f mk2 c r l w o1 v1 r1 g1 ba1 n1 f1 b1 a1 d1 m1 o2 v2 r2 g2 ba2 n2 f2 b2 a2 d2 m2 md_thrown1 md_far1 md_queue1 md_from1 md_by1 md_many1 md_is1 md_next1) := by
      intro ans hans
      unfold wp_X8_sure
      refine hno _ (y0' ?_)
      refine sp8_layTurns hML (ba0 hBa.1) (np5 hBa.2) hset hoth hs en hg hT hp hp1 hp2 hp3 (fun fa q fr b m is2 nx hI => ?_)
      have hP := hLW.1
      have hL8 := bfs_GL (umv_ok hP (G := G) (set := set) (oth := oth) (bars := 0) (np := 5)) hs
      have ev : 2 * T % 2 = 0 := by omega
      have e3 : 2 * (T + 1) = 2 * T + 2 := by omega
      rw [e3, sr_even ev] at hans
      refine sp8_begins hML (ba0 hBa.1) (np5 hBa.2) hset hoth (L := bfs (umv t lw_parts G set oth 0 5) (aft lw_parts) s) (fun x hx => ?_) (fun x hx k hk => bfs_CL (fun _ q => q.1) (umv_ok hP) hs hx (umv_left k hk)) (fun x hx k hk => bfs_CL (fun _ q => q.1) (umv_ok hP) hs hx (umv_right k hk)) (al := srN (mvs t lw_parts G set 0 5) (mvs t lw_parts G oth 0 5) (aft lw_parts) g (2 * T + 1)) hI (fun y _ => sr_odd ev) hL8.mem0 en hp hp1 (fun w => ?_) (fun w k hk hk2 _ => ?_) (fun w hno => ?_)
      · obtain ⟨e, he, rfl⟩ := mem_sts.mp hx
        exact hL8.2.1 e he
      · refine ⟨fun z => absurd z (by decide), fun _ => ?_⟩
        rw [w, Bool.true_or] at hans
        rw [hans]
        exact h _ _ _ _ _ _ _ _ _ _ _ _ _ _ _ _ _ _ _ _ _ _ _ _ _ _ _ _ _ _ _ _ _ _ _ _ _ _ hR2
      · refine ⟨fun z => absurd z (neg2 ?_), fun _ => ?_⟩
        · have := actN_lt (mvT_mem.mp hk).1
          omega
        · rw [w, Bool.false_or, List.any_eq_true.mpr ⟨k, hk, hk2⟩] at hans
          rw [hans]
          exact h _ _ _ _ _ _ _ _ _ _ _ _ _ _ _ _ _ _ _ _ _ _ _ _ _ _ _ _ _ _ _ _ _ _ _ _ _ _ hR2
      · refine ⟨fun _ => ?_, fun z => absurd rfl z⟩
        rw [w, Bool.false_or, List.any_eq_false.mpr (fun k hk => by rw [hno k hk]; decide)] at hans
        rw [hans]
        exact h _ _ _ _ _ _ _ _ _ _ _ _ _ _ _ _ _ _ _ _ _ _ _ _ _ _ _ _ _ _ _ _ _ _ _ _ _ _ hR2
    refine nbool rfl (fun w => m8 _ ?_) (fun w => m8 _ ?_)
    · rw [w]; rfl
    · rw [w]; rfl
  · refine hno _ (y0 ?_)
    unfold wp_X8_sure
    exact hbad _ (y1' (h _ _ _ _ _ _ _ _ _ _ _ _ _ _ _ _ _ _ _ _ _ _ _ _ _ _ _ _ _ _ _ _ _ _ _ _ _ _ hR.succ))
theorem sim_begin {N : Nat} (hN : N < 600) {tx_bytes : Nat → Int32} {tx_length : Int32} {md_text : Nat → Int32} {md_textSize : Int32} {lw_told : Nat → Int32} {lw_parts : Nat → Int32} {lw_hangMasks : Nat → Int32} {lw_hangValues : Nat → Int32} {lw_ownSeats : Nat → Int32} {md_forms : Nat → Int32} {md_formMany : Nat → Int32} {md_seats : Nat → Int32} {sl_state : Int32} {md_now : Int32} {sl_rolled : Int32} {md_rolls : Int32} {sl_rollSets : Nat → Int32} {sl_rollActs : Nat → Int32} {md_rollSet : Nat → Int32} {md_rollAct : Nat → Int32} {sl_kept : Nat → Int32} {md_slots : Nat → Int32} {md_isKept : Nat → Int32} {md_barAlways : Int32} {md_noPut : Int32} {se_cameBy : Nat → Int32} {se_runs : Int32} {se_order : Nat → Int32} {se_from : Nat → Int32} {se_marks : Nat → Int32} {se_length : Int32} {se_within : Nat → Int32} {sg_ownVotes : Nat → Int32} {sg_votes : Nat → Int32} {sg_rows : Nat → Int32} {sg_groups : Int32} {sg_bars : Int32} {sg_now : Int32} {sg_forced : Int32} {sg_barred : Int32} {sg_mayActs : Nat → Int32} {sg_mayEnds : Nat → Int32} {sg_mays : Int32} {so_ownVotes : Nat → Int32} {so_votes : Nat → Int32} {so_rows : Nat → Int32} {so_groups : Int32} {so_bars : Int32} {so_now : Int32} {so_forced : Int32} {so_barred : Int32} {so_mayActs : Nat → Int32} {so_mayEnds : Nat → Int32} {so_mays : Int32} {md_thrown : Int32} {md_far : Nat → Int32} {md_queue : Nat → Int32} {md_from : Nat → Int32} {md_by : Nat → Int32} {md_many : Int32} {md_is : Nat → Int32} {md_next : Nat → Int32} (hR : REL N tx_bytes tx_length md_text md_textSize lw_told lw_parts lw_hangMasks lw_hangValues lw_ownSeats md_forms md_formMany md_seats sl_state md_now sl_rolled md_rolls sl_rollSets sl_rollActs md_rollSet md_rollAct sl_kept md_slots md_isKept md_barAlways md_noPut se_cameBy se_runs) (p0 : Int32) (p1 : Int32) (p2 : Int32) (p3 : Int32) {K : Int32 → Int32 → (Nat → Int32) → (Nat → Int32) → (Nat → Int32) → (Nat → Int32) → Int32 → Int32 → (Nat → Int32) → (Nat → Int32) → (Nat → Int32) → (Nat → Int32) → Int32 → Int32 → Int32 → Int32 → Int32 → (Nat → Int32) → (Nat → Int32) → Int32 → (Nat → Int32) → (Nat → Int32) → (Nat → Int32) → Int32 → Int32 → Int32 → Int32 → Int32 → (Nat → Int32) → (Nat → Int32) → Int32 → Int32 → (Nat → Int32) → (Nat → Int32) → (Nat → Int32) → (Nat → Int32) → Int32 → (Nat → Int32) → (Nat → Int32) → Prop} (h : ∀ (r : Int32) (se_order1 : Nat → Int32) (se_from1 : Nat → Int32) (se_marks1 : Nat → Int32) (se_cameBy1 : Nat → Int32) (se_runs1 : Int32) (se_length1 : Int32) (se_within1 : Nat → Int32) (sg_ownVotes1 : Nat → Int32) (sg_votes1 : Nat → Int32) (sg_rows1 : Nat → Int32) (sg_groups1 : Int32) (sg_bars1 : Int32) (sg_now1 : Int32) (sg_forced1 : Int32) (sg_barred1 : Int32) (sg_mayActs1 : Nat → Int32) (sg_mayEnds1 : Nat → Int32) (sg_mays1 : Int32) (so_ownVotes1 : Nat → Int32) (so_votes1 : Nat → Int32) (so_rows1 : Nat → Int32) (so_groups1 : Int32) (so_bars1 : Int32) (so_now1 : Int32) (so_forced1 : Int32) (so_barred1 : Int32) (so_mayActs1 : Nat → Int32) (so_mayEnds1 : Nat → Int32) (so_mays1 : Int32) (md_thrown1 : Int32) (md_far1 : Nat → Int32) (md_queue1 : Nat → Int32) (md_from1 : Nat → Int32) (md_by1 : Nat → Int32) (md_many1 : Int32) (md_is1 : Nat → Int32) (md_next1 : Nat → Int32), REL (N + 1) tx_bytes tx_length md_text md_textSize lw_told lw_parts lw_hangMasks lw_hangValues lw_ownSeats md_forms md_formMany md_seats sl_state md_now sl_rolled md_rolls sl_rollSets sl_rollActs md_rollSet md_rollAct sl_kept md_slots md_isKept md_barAlways md_noPut se_cameBy1 se_runs1 → K r r se_order1 se_from1 se_marks1 se_cameBy1 se_runs1 se_length1 se_within1 sg_ownVotes1 sg_votes1 sg_rows1 sg_groups1 sg_bars1 sg_now1 sg_forced1 sg_barred1 sg_mayActs1 sg_mayEnds1 sg_mays1 so_ownVotes1 so_votes1 so_rows1 so_groups1 so_bars1 so_now1 so_forced1 so_barred1 so_mayActs1 so_mayEnds1 so_mays1 md_thrown1 md_far1 md_queue1 md_from1 md_by1 md_many1 md_is1 md_next1) : wp_X7_begin sl_state se_order se_from se_marks se_cameBy se_runs se_length se_within sg_ownVotes sg_votes sg_rows sg_groups sg_bars sg_now sg_forced sg_barred sg_mayActs sg_mayEnds sg_mays so_ownVotes so_votes so_rows so_groups so_bars so_now so_forced so_barred so_mayActs so_mayEnds so_mays lw_told lw_parts lw_hangMasks lw_hangValues lw_ownSeats p0 p1 p2 p3 (fun (r1 : Int32) (se_order1 : Nat → Int32) (se_from1 : Nat → Int32) (se_marks1 : Nat → Int32) (se_cameBy1 : Nat → Int32) (se_runs1 : Int32) (se_length1 : Int32) (se_within1 : Nat → Int32) (sg_ownVotes1 : Nat → Int32) (sg_votes1 : Nat → Int32) (sg_rows1 : Nat → Int32) (sg_groups1 : Int32) (sg_bars1 : Int32) (sg_now1 : Int32) (sg_forced1 : Int32) (sg_barred1 : Int32) (sg_mayActs1 : Nat → Int32) (sg_mayEnds1 : Nat → Int32) (sg_mays1 : Int32) (so_ownVotes1 : Nat → Int32) (so_votes1 : Nat → Int32) (so_rows1 : Nat → Int32) (so_groups1 : Int32) (so_bars1 : Int32) (so_now1 : Int32) (so_forced1 : Int32) (so_barred1 : Int32) (so_mayActs1 : Nat → Int32) (so_mayEnds1 : Nat → Int32) (so_mays1 : Int32) => wp_X8_begin md_thrown md_forms md_formMany md_seats md_now md_barAlways md_noPut md_far md_queue md_from md_by md_many md_is md_next p0 p1 p2 p3 (fun (r2 : Int32) (md_thrown1 : Int32) (md_far1 : Nat → Int32) (md_queue1 : Nat → Int32) (md_from1 : Nat → Int32) (md_by1 : Nat → Int32) (md_many1 : Int32) (md_is1 : Nat → Int32) (md_next1 : Nat → Int32) => K r1 r2 se_order1 se_from1 se_marks1 se_cameBy1 se_runs1 se_length1 se_within1 sg_ownVotes1 sg_votes1 sg_rows1 sg_groups1 sg_bars1 sg_now1 sg_forced1 sg_barred1 sg_mayActs1 sg_mayEnds1 sg_mays1 so_ownVotes1 so_votes1 so_rows1 so_groups1 so_bars1 so_now1 so_forced1 so_barred1 so_mayActs1 so_mayEnds1 so_mays1 md_thrown1 md_far1 md_queue1 md_from1 md_by1 md_many1 md_is1 md_next1)) := by
  unfold wp_X7_begin
  obtain ⟨hRT, ⟨t, G, hLa, s, hs, es, en⟩, hRo, hKe, hBa, R, hRN, hCB⟩ := id hR
  obtain ⟨hLW, hSD, hML⟩ := id hLa
  rcases game_cases p0 p1 p2 p3 with ⟨set, oth, g, T, hset, hoth, hg, hT, hp, hp1, hp2, hp3, hyes, hno⟩ | ⟨hno, hbad⟩
  · refine hyes _ (y1 ?_)
    unfold wp_X7_play
    have e2 : (2 : Int32) * p3 = nI (2 * (T + 1)) := by rw [hp3]; exact pk_mul 2 (T + 1)
    have e21 : nI (2 * (T + 1)) - (1 : Int32) = nI (2 * T + 1) := nI_prd (i := 2 * T + 1) (by omega)
    have ev : 2 * T % 2 = 0 := by omega
    have e3 : 2 * (T + 1) = 2 * T + 2 := by omega
    rw [e2, e21]
    refine sp_choose hSD hset (bars := 0) (by decide) hp rfl (fun o1 g1 ba1 hS1 => sp_choose hSD hoth (bars := 0) (by decide) hp1 rfl (fun o2 g2 ba2 hS2 => ?_))
    refine sp_runByBoth hLW hS1 hS2 hCB (by omega) hs es (T := 2 * (T + 1)) (by omega) rfl (fun L W o f c r l w v1 r1 n1 f1 b1 a1 d1 m1 v2 r2 n2 f2 b2 a2 d2 m2 hGL hWI hWT hw hC => ?_)
    refine sp_markSure hLW hS1 hS2 rfl (by omega) hC hGL hWI hWT hw hg hp2 hp3 (fun mk2 m v1 r1 n1 f1 b1 a1 d1 m1 v2 r2 n2 f2 b2 a2 d2 m2 hMK hsr => ?_)
    have hR2 : REL (N + 1) tx_bytes tx_length md_text md_textSize lw_told lw_parts lw_hangMasks lw_hangValues lw_ownSeats md_forms md_formMany md_seats sl_state md_now sl_rolled md_rolls sl_rollSets sl_rollActs md_rollSet md_rollAct sl_kept md_slots md_isKept md_barAlways md_noPut c r := ⟨hRT, ⟨t, G, hLa, s, hs, es, en⟩, hRo, hKe, hBa, R + 1, by omega, hC.cb (by omega)⟩
    obtain ⟨z0, z1, z2⟩ := WI.zero hGL hWI (by omega)
    have hsm : s ∈ sts L := mem_sts.mpr ⟨_, List.mem_of_getElem? z0, rfl⟩
    have hd := hsr (2 * (T + 1)) (Nat.le_refl _) 0 _ (by rw [Nat.sub_self]; exact z1) z0
    rw [show ((s, 0, 0, 0) : En).1 = s from rfl] at hd
    have eW : 2 * (T + 1) - (2 * T + 1) = 1 := by omega
    have hd1 := hsr (2 * T + 1) (by omega) 0 _ (by rw [eW]; exact z2) z0
    rw [show ((s, 0, 0, 0) : En).1 = s from rfl] at hd1
    have hlt : ∀ x ∈ sts L, x < 16384 := fun x hx => by
      obtain ⟨e, he, rfl⟩ := mem_sts.mp hx
      exact (hGL.2.1 e he).1
    have hsx : ∀ k ∈ mvs t lw_parts G set 0 5 s, aft lw_parts s k ∈ sts L ∧ bt (m (aft lw_parts s k)) (2 * T + 1) = srN (mvs t lw_parts G set 0 5) (mvs t lw_parts G oth 0 5) (aft lw_parts) g (2 * T + 1) (aft lw_parts s k) := by
      intro k hk
      obtain ⟨i2, ex2, h6, h7, h8⟩ := (hWI.2 0 (by omega)).2 0 _ z1 z0 k (List.mem_append_left _ hk)
      rw [show aft lw_parts s k = ex2.1 from h8.symm]
      exact ⟨mem_sts.mpr ⟨ex2, List.mem_of_getElem? h7, rfl⟩, hsr (2 * T + 1) (by omega) i2 ex2 (by rw [eW]; exact h6) h7⟩
    have m8 : ∀ ans : Int32, (srN (mvs t lw_parts G set 0 5) (mvs t lw_parts G oth 0 5) (aft lw_parts) g (2 * T + 1) s = true → ans = -9) → (srN (mvs t lw_parts G set 0 5) (mvs t lw_parts G oth 0 5) (aft lw_parts) g (2 * T + 1) s = false → ∀ k ∈ mvs t lw_parts G set 0 5 s, srN (mvs t lw_parts G set 0 5) (mvs t lw_parts G oth 0 5) (aft lw_parts) g (2 * T + 1) (aft lw_parts s k) = true → (∀ j ∈ mvs t lw_parts G set 0 5 s, j < k → srN (mvs t lw_parts G set 0 5) (mvs t lw_parts G oth 0 5) (aft lw_parts) g (2 * T + 1) (aft lw_parts s j) = false) → ans = nI (actN k)) → (srN (mvs t lw_parts G set 0 5) (mvs t lw_parts G oth 0 5) (aft lw_parts) g (2 * T + 1) s = false → (∀ k ∈ mvs t lw_parts G set 0 5 s, srN (mvs t lw_parts G set 0 5) (mvs t lw_parts G oth 0 5) (aft lw_parts) g (2 * T + 1) (aft lw_parts s k) = false) → ans = -9) → ∀ v1 r1 n1 f1 b1 a1 d1 m1 v2 r2 n2 f2 b2 a2 d2 m2, wp_X8_begin md_thrown md_forms md_formMany md_seats md_now md_barAlways md_noPut md_far md_queue md_from md_by md_many md_is md_next p0 p1 p2 p3 (fun (r2x : Int32) (md_thrown1 : Int32) (md_far1 : Nat → Int32) (md_queue1 : Nat → Int32) (md_from1 : Nat → Int32) (md_by1 : Nat → Int32) (md_many1 : Int32) (md_is1 : Nat → Int32) (md_next1 : Nat → Int32) => K ans r2x o f mk2 c r l w o1 v1 r1 g1 ba1 n1 f1 b1 a1 d1 m1 o2 v2 r2 g2 ba2 n2 f2 b2 a2 d2 m2 md_thrown1 md_far1 md_queue1 md_from1 md_by1 md_many1 md_is1 md_next1) := by
      intro ans ha9 hak ha2 v1 r1 n1 f1 b1 a1 d1 m1 v2 r2 n2 f2 b2 a2 d2 m2
      unfold wp_X8_begin
      refine hno _ (y0' ?_)
      refine sp8_layTurns hML (ba0 hBa.1) (np5 hBa.2) hset hoth hs en hg hT hp hp1 hp2 hp3 (fun fa q fr b m is2 nx hI => ?_)
      have hP := hLW.1
      have hL8 := bfs_GL (umv_ok hP (G := G) (set := set) (oth := oth) (bars := 0) (np := 5)) hs
      refine sp8_begins hML (ba0 hBa.1) (np5 hBa.2) hset hoth (L := bfs (umv t lw_parts G set oth 0 5) (aft lw_parts) s) (fun x hx => ?_) (fun x hx k hk => bfs_CL (fun _ q => q.1) (umv_ok hP) hs hx (umv_left k hk)) (fun x hx k hk => bfs_CL (fun _ q => q.1) (umv_ok hP) hs hx (umv_right k hk)) (al := srN (mvs t lw_parts G set 0 5) (mvs t lw_parts G oth 0 5) (aft lw_parts) g (2 * T + 1)) hI (fun y _ => sr_odd ev) hL8.mem0 en hp hp1 (fun w => ?_) (fun w k hk hk2 hk3 => ?_) (fun w hno => ?_)
      · obtain ⟨e, he, rfl⟩ := mem_sts.mp hx
        exact hL8.2.1 e he
      · refine ⟨fun _ => ?_, fun z => absurd z (by decide)⟩
        rw [ha9 w]
        exact h _ _ _ _ _ _ _ _ _ _ _ _ _ _ _ _ _ _ _ _ _ _ _ _ _ _ _ _ _ _ _ _ _ _ _ _ _ _ hR2
      · refine ⟨fun _ => ?_, fun z => absurd z (neg2 ?_)⟩
        · rw [hak w k hk hk2 hk3]
          exact h _ _ _ _ _ _ _ _ _ _ _ _ _ _ _ _ _ _ _ _ _ _ _ _ _ _ _ _ _ _ _ _ _ _ _ _ _ _ hR2
        · have := actN_lt (mvT_mem.mp hk).1
          omega
      · refine ⟨fun z => absurd rfl z, fun _ => ?_⟩
        rw [ha2 w hno]
        exact h _ _ _ _ _ _ _ _ _ _ _ _ _ _ _ _ _ _ _ _ _ _ _ _ _ _ _ _ _ _ _ _ _ _ _ _ _ _ hR2
    refine sp_isMarked hMK hsm hs.1 (n := 2 * (T + 1)) (by omega) es rfl ?_
    rw [hd]
    refine nbool rfl (fun w => ?_) (fun w => ?_)
    · rw [e3, sr_even ev, Bool.or_eq_false_iff] at w
      have hany := List.any_eq_false.mp w.2
      refine m8 _ (fun _ => rfl) (fun _ k hk hk2 _ => absurd hk2 (hany k hk)) (fun _ _ => rfl) _ _ _ _ _ _ _ _ _ _ _ _ _ _ _ _
    · refine sp_isMarked hMK hsm hs.1 (n := 2 * T + 1) (by omega) es rfl ?_
      rw [hd1]
      refine nbool rfl (fun w1 => ?_) (fun w1 => ?_)
      · refine sp_list hLW.1 hLW.2.1 hLW.2.2.1 hLW.2.2.2 hs es hS1 (fun v3 r3 n3 f3 b3 a3 d3 m3 hLS hn3 => ?_)
        refine sp_firstActTo hMK hlt hLS mvs_len (fun k hk => (hsx k hk).1) (n := 2 * T + 1) (by omega) (w := true) rfl rfl ?_
        cases hf : (mvs t lw_parts G set 0 5 s).find? (fun k => bt (m (aft lw_parts s k)) (2 * T + 1) == true) with
        | none =>
          have hnone : ∀ k ∈ mvs t lw_parts G set 0 5 s, srN (mvs t lw_parts G set 0 5) (mvs t lw_parts G oth 0 5) (aft lw_parts) g (2 * T + 1) (aft lw_parts s k) = false := by
            intro k hk
            have := List.find?_eq_none.mp hf k hk
            rw [(hsx k hk).2] at this
            simpa using this
          refine m8 _ (fun _ => rfl) (fun _ k hk hk2 _ => ?_) (fun _ _ => rfl) _ _ _ _ _ _ _ _ _ _ _ _ _ _ _ _
          rw [hnone k hk] at hk2
          exact absurd hk2 (by decide)
        | some k =>
          have hk := List.mem_of_find?_eq_some hf
          have hk2 := List.find?_some hf
          have hk3 : srN (mvs t lw_parts G set 0 5) (mvs t lw_parts G oth 0 5) (aft lw_parts) g (2 * T + 1) (aft lw_parts s k) = true := by
            rw [(hsx k hk).2] at hk2
            simpa using hk2
          refine m8 _ (fun z => by rw [w1] at z; exact absurd z (by decide)) (fun _ k5 hk5 hk6 hk7 => ?_) (fun _ hall => by rw [hall k hk] at hk3; exact absurd hk3 (by decide)) _ _ _ _ _ _ _ _ _ _ _ _ _ _ _ _
          rcases Nat.lt_trichotomy k k5 with z | z | z
          · rw [hk7 k hk z] at hk3
            exact absurd hk3 (by decide)
          · rw [z]; rfl
          · have := mvT_find hf k5 hk5 z
            rw [(hsx k5 hk5).2, hk6] at this
            exact absurd this (by decide)
      · exact m8 _ (fun _ => rfl) (fun z => by rw [w1] at z; exact absurd z (by decide)) (fun _ _ => rfl) _ _ _ _ _ _ _ _ _ _ _ _ _ _ _ _
  · refine hno _ (y0 ?_)
    unfold wp_X8_begin
    exact hbad _ (y1' (h _ _ _ _ _ _ _ _ _ _ _ _ _ _ _ _ _ _ _ _ _ _ _ _ _ _ _ _ _ _ _ _ _ _ _ _ _ _ hR.succ))
