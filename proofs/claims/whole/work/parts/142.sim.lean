theorem sm_mono {f h : Nat → Nat} : ∀ n, (∀ i, i < n → f i ≤ h i) → sm f n ≤ sm h n := by
  intro n
  induction n with
  | zero => intro _; exact Nat.le_refl _
  | succ n ih =>
    intro hh
    show sm f n + f n ≤ sm h n + h n
    exact Nat.add_le_add (ih (fun i hi => hh i (by omega))) (hh n (by omega))
theorem bt15 {c : Nat} (h : c < 4) : bt 15 c = true := by rcases lt4 h with rfl | rfl | rfl | rfl <;> decide
theorem votes_15 {t : Nat → Nat} {P : Nat → Int32} (hP : LWP t P) {G : Nat → Nat} {set s b : Nat} (hs : SV t s) : votesN P G set s b ≤ votesN P G 15 s b := by
  unfold votesN ownV
  refine Nat.add_le_add (sm_mono 4 (fun i hi => ?_)) (sm_mono 5 (fun c hc => ?_))
  · unfold ownT
    rw [if_pos (bt15 hi)]
    split
    · exact Nat.le_refl _
    · exact Nat.zero_le _
  · unfold exT
    by_cases h1 : (frc P s c && decide (P (rwN c s) = 4)) = true
    · have hf : frc P s c = true := (Bool.and_eq_true _ _ ▸ h1).1
      have h4 : P (rwN c s) = 4 := of_decide_eq_true (Bool.and_eq_true _ _ ▸ h1).2
      have h2 := ((hP.wf hs hc (frc_fo hf)).seats h4).2.1.val
      rw [h1, bt15 (by omega)]
      by_cases w : Pn P (rwN c s + 1) == b
      · rw [w]
        cases bt set (Pn P (rwN c s + 2)) <;> simp
      · rw [Bool.eq_false_iff.mpr w]
        simp
    · rw [Bool.eq_false_iff.mpr h1]
      simp
theorem mvs_15 {t : Nat → Nat} {P : Nat → Int32} (hP : LWP t P) {G : Nat → Nat} {set bars np x : Nat} (hx : SV t x) : ∀ k ∈ mvs t P G set bars np x, k ∈ mvs t P G 15 bars np x := by
  intro k hk
  obtain ⟨h1, h2⟩ := mvT_mem.mp hk
  refine mvT_mem.mpr ⟨h1, ?_⟩
  have hv := votes_15 hP (G := G) (set := set) (b := Pn P (rwN (k / 4) x + 1)) hx
  unfold whyN at h2 ⊢
  split at h2
  · exact absurd h2 (by decide)
  · rename_i a1
    split at h2
    · exact absurd h2 (by decide)
    · rename_i a2
      split at h2
      · exact absurd h2 (by decide)
      · rename_i a3
        rw [if_neg a1, if_neg a2, if_neg (by omega)]
        exact h2
theorem sub_15 {t : Nat → Nat} {P : Nat → Int32} (hP : LWP t P) {G : Nat → Nat} {set s : Nat} (hs : SV t s) : ∀ x ∈ sts (bfs (mvs t P G set 0 5) (aft P) s), x ∈ sts (bfs (mvs t P G 15 0 5) (aft P) s) := by
  have h1 := bfs_GL (cmv_ok hP (G := G) (set := set) (bars := 0) (np := 5)) hs
  have h2 := bfs_GL (cmv_ok hP (G := G) (set := 15) (bars := 0) (np := 5)) hs
  refine h1.all h2.mem0 (fun x hx hq k hk => ?_)
  obtain ⟨e, he, rfl⟩ := mem_sts.mp hx
  exact bfs_CL (fun _ q => q.1) (cmv_ok hP) hs hq (mvs_15 hP (h1.2.1 e he) k hk)
theorem sp_firstUnmarked {t : Nat → Nat} {mv : Nat → List Nat} {P : Nat → Int32} {s0 : Nat} {L L1 : List En} {order frm cameBy : Nat → Int32} {runs length : Int32} {R : Nat} (hC : CS L order frm cameBy runs length R) (hL : GL (SV t) mv (aft P) s0 L) {marks : Nat → Int32} {m : Nat → Nat} (hM : MKS L1 marks m) (hsub : ∀ x ∈ sts L, x ∈ sts L1) {post : Int32 → Prop} (h0 : (∀ e ∈ L, bt (m e.1) 0 = true) → post (-9)) (h1 : ∀ (i : Nat) (e : En), L[i]? = some e → bt (m e.1) 0 = false → (∀ (j : Nat) (e2 : En), j < i → L[j]? = some e2 → bt (m e2.1) 0 = true) → post (nI e.1)) : wp_X3_firstUnmarked order marks length post := by
  unfold wp_X3_firstUnmarked
  have hlen := hL.len (fun _ q => q.1)
  have main : ∀ n i, i ≤ L.length → L.length < n + i → (∀ (j : Nat) (e2 : En), j < i → L[j]? = some e2 → bt (m e2.1) 0 = true) → wpL_X3_firstUnmarked_2 order marks length post n (nI i) := by
    intro n
    induction n with
    | zero => intro i h1 h2; omega
    | succ n ih =>
      intro i hi1 hi2 hno
      rw [wpL_X3_firstUnmarked_2]
      refine pk_le L.length i (fun h5 => h0 (fun e he => ?_)) (fun h5 => pk_le 16384 i (fun z => by omega) (fun _ => ⟨pk_in i 16384 (by omega), ?_⟩)) hC.2.1
      · obtain ⟨j, hj⟩ := List.getElem?_of_mem he
        have := (List.getElem?_eq_some_iff.mp hj).1
        exact hno j e (by omega) hj
      · have hgd := getD_some h5
        have hxs : (L.getD i e0).1 ∈ sts L := mem_sts.mpr ⟨_, List.mem_of_getElem? hgd, rfl⟩
        have hp1 := (hL.2.1 _ (List.mem_of_getElem? hgd)).1
        rw [nI_clamp (by omega)]
        refine sp_isMarked hM (hsub _ hxs) hp1 (n := 0) (by decide) ((hC.2.2.1 i _ hgd).1) rfl ?_
        refine nbool' rfl (fun w => ⟨pk_in i 16384 (by omega), ?_⟩) (fun w => nm_r (nI_1 i) (ih (i + 1) (by omega) (by omega) (fun j e2 hj he2 => ?_)))
        · rw [(hC.2.2.1 i _ hgd).1]
          exact h1 i _ hgd w hno
        · rcases Nat.lt_or_eq_of_le (Nat.le_of_lt_succ hj) with h7 | h7
          · exact hno j e2 h7 he2
          · subst h7
            rw [hgd] at he2
            rw [← Option.some.inj he2]
            exact w
  exact ⟨L.length + 1, main _ 0 (by omega) (by omega) (fun j e2 hj => absurd hj (Nat.not_lt_zero j))⟩
theorem sim_forGood {N : Nat} (hN : N < 600) {tx_bytes : Nat → Int32} {tx_length : Int32} {md_text : Nat → Int32} {md_textSize : Int32} {lw_told : Nat → Int32} {lw_parts : Nat → Int32} {lw_hangMasks : Nat → Int32} {lw_hangValues : Nat → Int32} {lw_ownSeats : Nat → Int32} {md_forms : Nat → Int32} {md_formMany : Nat → Int32} {md_seats : Nat → Int32} {sl_state : Int32} {md_now : Int32} {sl_rolled : Int32} {md_rolls : Int32} {sl_rollSets : Nat → Int32} {sl_rollActs : Nat → Int32} {md_rollSet : Nat → Int32} {md_rollAct : Nat → Int32} {sl_kept : Nat → Int32} {md_slots : Nat → Int32} {md_isKept : Nat → Int32} {md_barAlways : Int32} {md_noPut : Int32} {se_cameBy : Nat → Int32} {se_runs : Int32} {se_order : Nat → Int32} {se_from : Nat → Int32} {se_length : Int32} {sg_ownVotes : Nat → Int32} {sg_votes : Nat → Int32} {sg_rows : Nat → Int32} {sg_groups : Int32} {sg_bars : Int32} {sg_now : Int32} {sg_forced : Int32} {sg_barred : Int32} {sg_mayActs : Nat → Int32} {sg_mayEnds : Nat → Int32} {sg_mays : Int32} {md_thrown : Int32} {md_far : Nat → Int32} {md_queue : Nat → Int32} {md_from : Nat → Int32} {md_by : Nat → Int32} {md_many : Int32} {md_is : Nat → Int32} (hR : REL N tx_bytes tx_length md_text md_textSize lw_told lw_parts lw_hangMasks lw_hangValues lw_ownSeats md_forms md_formMany md_seats sl_state md_now sl_rolled md_rolls sl_rollSets sl_rollActs md_rollSet md_rollAct sl_kept md_slots md_isKept md_barAlways md_noPut se_cameBy se_runs) (p0 : Int32) {K : Int32 → Int32 → (Nat → Int32) → (Nat → Int32) → (Nat → Int32) → Int32 → Int32 → (Nat → Int32) → (Nat → Int32) → (Nat → Int32) → Int32 → Int32 → Int32 → Int32 → Int32 → (Nat → Int32) → (Nat → Int32) → Int32 → Int32 → (Nat → Int32) → (Nat → Int32) → (Nat → Int32) → (Nat → Int32) → Int32 → (Nat → Int32) → Prop} (h : ∀ (r : Int32) (se_order1 : Nat → Int32) (se_from1 : Nat → Int32) (se_cameBy1 : Nat → Int32) (se_runs1 : Int32) (se_length1 : Int32) (sg_ownVotes1 : Nat → Int32) (sg_votes1 : Nat → Int32) (sg_rows1 : Nat → Int32) (sg_groups1 : Int32) (sg_bars1 : Int32) (sg_now1 : Int32) (sg_forced1 : Int32) (sg_barred1 : Int32) (sg_mayActs1 : Nat → Int32) (sg_mayEnds1 : Nat → Int32) (sg_mays1 : Int32) (md_thrown1 : Int32) (md_far1 : Nat → Int32) (md_queue1 : Nat → Int32) (md_from1 : Nat → Int32) (md_by1 : Nat → Int32) (md_many1 : Int32) (md_is1 : Nat → Int32), REL (N + 1) tx_bytes tx_length md_text md_textSize lw_told lw_parts lw_hangMasks lw_hangValues lw_ownSeats md_forms md_formMany md_seats sl_state md_now sl_rolled md_rolls sl_rollSets sl_rollActs md_rollSet md_rollAct sl_kept md_slots md_isKept md_barAlways md_noPut se_cameBy1 se_runs1 → K r r se_order1 se_from1 se_cameBy1 se_runs1 se_length1 sg_ownVotes1 sg_votes1 sg_rows1 sg_groups1 sg_bars1 sg_now1 sg_forced1 sg_barred1 sg_mayActs1 sg_mayEnds1 sg_mays1 md_thrown1 md_far1 md_queue1 md_from1 md_by1 md_many1 md_is1) : wp_X7_forGood sl_state se_order se_from se_cameBy se_runs se_length sg_ownVotes sg_votes sg_rows sg_groups sg_bars sg_now sg_forced sg_barred sg_mayActs sg_mayEnds sg_mays lw_told lw_parts lw_hangMasks lw_hangValues lw_ownSeats p0 (fun (r1 : Int32) (se_order1 : Nat → Int32) (se_from1 : Nat → Int32) (se_cameBy1 : Nat → Int32) (se_runs1 : Int32) (se_length1 : Int32) (sg_ownVotes1 : Nat → Int32) (sg_votes1 : Nat → Int32) (sg_rows1 : Nat → Int32) (sg_groups1 : Int32) (sg_bars1 : Int32) (sg_now1 : Int32) (sg_forced1 : Int32) (sg_barred1 : Int32) (sg_mayActs1 : Nat → Int32) (sg_mayEnds1 : Nat → Int32) (sg_mays1 : Int32) => wp_X8_forGood md_thrown md_forms md_formMany md_seats md_now md_barAlways md_noPut md_far md_queue md_from md_by md_many md_is p0 (fun (r2 : Int32) (md_thrown1 : Int32) (md_far1 : Nat → Int32) (md_queue1 : Nat → Int32) (md_from1 : Nat → Int32) (md_by1 : Nat → Int32) (md_many1 : Int32) (md_is1 : Nat → Int32) => K r1 r2 se_order1 se_from1 se_cameBy1 se_runs1 se_length1 sg_ownVotes1 sg_votes1 sg_rows1 sg_groups1 sg_bars1 sg_now1 sg_forced1 sg_barred1 sg_mayActs1 sg_mayEnds1 sg_mays1 md_thrown1 md_far1 md_queue1 md_from1 md_by1 md_many1 md_is1)) := by
  unfold wp_X7_forGood
  obtain ⟨hRT, ⟨t, G, hLa, s, hs, es, en⟩, hRo, hKe, hBa, R, hRN, hCB⟩ := id hR
  obtain ⟨hLW, hSD, hML⟩ := id hLa
  rcases goal_cases p0 with ⟨g, hg, hp⟩ | hb
  · refine sp_goalExists hp hg (y1 ?_)
    refine sp_holdsFrom hLW hSD hCB (by omega) hs es (set := 15) (by decide) rfl hg hp (bars := 0) (by decide) rfl ?_
    intro o f c r l ov v rr gr ba n fz b a e m hC
    have hR2 : REL (N + 1) tx_bytes tx_length md_text md_textSize lw_told lw_parts lw_hangMasks lw_hangValues lw_ownSeats md_forms md_formMany md_seats sl_state md_now sl_rolled md_rolls sl_rollSets sl_rollActs md_rollSet md_rollAct sl_kept md_slots md_isKept md_barAlways md_noPut c r := ⟨hRT, ⟨t, G, hLa, s, hs, es, en⟩, hRo, hKe, hBa, R + 1, by omega, hC⟩
    have hGL := bfs_GL (cmv_ok hLW.1 (G := G) (set := 15) (bars := 0) (np := 5)) hs
    have hcl : ∀ x ∈ sts (bfs (mvs t lw_parts G 15 0 5) (aft lw_parts) s), ∀ k ∈ mvs t lw_parts G 15 0 5 x, aft lw_parts x k ∈ sts (bfs (mvs t lw_parts G 15 0 5) (aft lw_parts) s) := fun x hx k hk => bfs_CL (fun _ q => q.1) (cmv_ok hLW.1) hs hx hk
    have hiff := esc_hold (g := g) hGL hcl
    have hpn := ph_lt hs.1
    have m8 : ∀ ans : Int32, ans = nI (holdB t lw_parts G 15 0 5 s g).toNat → wp_X8_forGood md_thrown md_forms md_formMany md_seats md_now md_barAlways md_noPut md_far md_queue md_from md_by md_many md_is p0 (fun (r2 : Int32) (md_thrown1 : Int32) (md_far1 : Nat → Int32) (md_queue1 : Nat → Int32) (md_from1 : Nat → Int32) (md_by1 : Nat → Int32) (md_many1 : Int32) (md_is1 : Nat → Int32) => K ans r2 o f c r l ov v rr gr ba n fz b a e m md_thrown1 md_far1 md_queue1 md_from1 md_by1 md_many1 md_is1) := by
      intro ans hans
      unfold wp_X8_forGood
      refine sp8_noGoal hp hg (y0' ?_)
      refine sp8_layGood hML (ba0 hBa.1) (np5 hBa.2) hs en hg hp (fun fa q fr b2 m2 is2 b3 hIS hesc => ⟨pk_in _ 16384 hpn en, ?_⟩)
      rw [en, nI_clamp (by omega), hIS s hGL.mem0]
      have h3 := hesc s hGL.mem0
      cases hb3 : b3 s
      · have : holdB t lw_parts G 15 0 5 s g = true := hiff.mpr (fun z => by rw [h3.mpr z] at hb3; exact absurd hb3 (by decide))
        rw [this] at hans
        refine ⟨fun z => absurd z (by decide), fun _ => ?_⟩
        rw [hans]
        exact h _ _ _ _ _ _ _ _ _ _ _ _ _ _ _ _ _ _ _ _ _ _ _ _ hR2
      · have : holdB t lw_parts G 15 0 5 s g = false := by
          cases e2 : holdB t lw_parts G 15 0 5 s g
          · rfl
          · exact absurd (h3.mp hb3) (hiff.mp e2)
        rw [this] at hans
        refine ⟨fun _ => ?_, fun z => absurd rfl z⟩
        rw [hans]
        exact h _ _ _ _ _ _ _ _ _ _ _ _ _ _ _ _ _ _ _ _ _ _ _ _ hR2
    refine nbool rfl (fun w => m8 _ ?_) (fun w => m8 _ ?_)
    · rw [w]; rfl
    · rw [w]; rfl
  · refine sp_goalExists_bad hb (y0 ?_)
    unfold wp_X8_forGood
    exact sp8_noGoal_bad hb (y1' (h _ _ _ _ _ _ _ _ _ _ _ _ _ _ _ _ _ _ _ _ _ _ _ _ hR.succ))
theorem sim_trap {N : Nat} (hN : N < 600) {tx_bytes : Nat → Int32} {tx_length : Int32} {md_text : Nat → Int32} {md_textSize : Int32} {lw_told : Nat → Int32} {lw_parts : Nat → Int32} {lw_hangMasks : Nat → Int32} {lw_hangValues : Nat → Int32} {lw_ownSeats : Nat → Int32} {md_forms : Nat → Int32} {md_formMany : Nat → Int32} {md_seats : Nat → Int32} {sl_state : Int32} {md_now : Int32} {sl_rolled : Int32} {md_rolls : Int32} {sl_rollSets : Nat → Int32} {sl_rollActs : Nat → Int32} {md_rollSet : Nat → Int32} {md_rollAct : Nat → Int32} {sl_kept : Nat → Int32} {md_slots : Nat → Int32} {md_isKept : Nat → Int32} {md_barAlways : Int32} {md_noPut : Int32} {se_cameBy : Nat → Int32} {se_runs : Int32} {se_order : Nat → Int32} {se_from : Nat → Int32} {se_marks : Nat → Int32} {se_length : Int32} {sg_ownVotes : Nat → Int32} {sg_votes : Nat → Int32} {sg_rows : Nat → Int32} {sg_groups : Int32} {sg_bars : Int32} {sg_now : Int32} {sg_forced : Int32} {sg_barred : Int32} {sg_mayActs : Nat → Int32} {sg_mayEnds : Nat → Int32} {sg_mays : Int32} {md_thrown : Int32} {md_far : Nat → Int32} {md_queue : Nat → Int32} {md_from : Nat → Int32} {md_by : Nat → Int32} {md_many : Int32} {md_is : Nat → Int32} (hR : REL N tx_bytes tx_length md_text md_textSize lw_told lw_parts lw_hangMasks lw_hangValues lw_ownSeats md_forms md_formMany md_seats sl_state md_now sl_rolled md_rolls sl_rollSets sl_rollActs md_rollSet md_rollAct sl_kept md_slots md_isKept md_barAlways md_noPut se_cameBy se_runs) (p0 : Int32) (p1 : Int32) {K : Int32 → Int32 → (Nat → Int32) → (Nat → Int32) → (Nat → Int32) → (Nat → Int32) → Int32 → Int32 → (Nat → Int32) → (Nat → Int32) → (Nat → Int32) → Int32 → Int32 → Int32 → Int32 → Int32 → (Nat → Int32) → (Nat → Int32) → Int32 → Int32 → (Nat → Int32) → (Nat → Int32) → (Nat → Int32) → (Nat → Int32) → Int32 → (Nat → Int32) → Prop} (h : ∀ (r : Int32) (se_order1 : Nat → Int32) (se_from1 : Nat → Int32) (se_marks1 : Nat → Int32) (se_cameBy1 : Nat → Int32) (se_runs1 : Int32) (se_length1 : Int32) (sg_ownVotes1 : Nat → Int32) (sg_votes1 : Nat → Int32) (sg_rows1 : Nat → Int32) (sg_groups1 : Int32) (sg_bars1 : Int32) (sg_now1 : Int32) (sg_forced1 : Int32) (sg_barred1 : Int32) (sg_mayActs1 : Nat → Int32) (sg_mayEnds1 : Nat → Int32) (sg_mays1 : Int32) (md_thrown1 : Int32) (md_far1 : Nat → Int32) (md_queue1 : Nat → Int32) (md_from1 : Nat → Int32) (md_by1 : Nat → Int32) (md_many1 : Int32) (md_is1 : Nat → Int32), REL (N + 1) tx_bytes tx_length md_text md_textSize lw_told lw_parts lw_hangMasks lw_hangValues lw_ownSeats md_forms md_formMany md_seats sl_state md_now sl_rolled md_rolls sl_rollSets sl_rollActs md_rollSet md_rollAct sl_kept md_slots md_isKept md_barAlways md_noPut se_cameBy1 se_runs1 → K r r se_order1 se_from1 se_marks1 se_cameBy1 se_runs1 se_length1 sg_ownVotes1 sg_votes1 sg_rows1 sg_groups1 sg_bars1 sg_now1 sg_forced1 sg_barred1 sg_mayActs1 sg_mayEnds1 sg_mays1 md_thrown1 md_far1 md_queue1 md_from1 md_by1 md_many1 md_is1) : wp_X7_trap sl_state se_order se_from se_marks se_cameBy se_runs se_length sg_ownVotes sg_votes sg_rows sg_groups sg_bars sg_now sg_forced sg_barred sg_mayActs sg_mayEnds sg_mays lw_told lw_parts lw_hangMasks lw_hangValues lw_ownSeats p0 p1 (fun (r1 : Int32) (se_order1 : Nat → Int32) (se_from1 : Nat → Int32) (se_marks1 : Nat → Int32) (se_cameBy1 : Nat → Int32) (se_runs1 : Int32) (se_length1 : Int32) (sg_ownVotes1 : Nat → Int32) (sg_votes1 : Nat → Int32) (sg_rows1 : Nat → Int32) (sg_groups1 : Int32) (sg_bars1 : Int32) (sg_now1 : Int32) (sg_forced1 : Int32) (sg_barred1 : Int32) (sg_mayActs1 : Nat → Int32) (sg_mayEnds1 : Nat → Int32) (sg_mays1 : Int32) => wp_X8_trap md_thrown md_forms md_formMany md_seats md_now md_barAlways md_noPut md_far md_queue md_from md_by md_many md_is p0 p1 (fun (r2 : Int32) (md_thrown1 : Int32) (md_far1 : Nat → Int32) (md_queue1 : Nat → Int32) (md_from1 : Nat → Int32) (md_by1 : Nat → Int32) (md_many1 : Int32) (md_is1 : Nat → Int32) => K r1 r2 se_order1 se_from1 se_marks1 se_cameBy1 se_runs1 se_length1 sg_ownVotes1 sg_votes1 sg_rows1 sg_groups1 sg_bars1 sg_now1 sg_forced1 sg_barred1 sg_mayActs1 sg_mayEnds1 sg_mays1 md_thrown1 md_far1 md_queue1 md_from1 md_by1 md_many1 md_is1)) := by
  unfold wp_X7_trap
  obtain ⟨hRT, ⟨t, G, hLa, s, hs, es, en⟩, hRo, hKe, hBa, R, hRN, hCB⟩ := id hR
  obtain ⟨hLW, hSD, hML⟩ := id hLa
  rcases range_cases p0 16 (by decide) with ⟨set, hset, hp⟩ | hb
  · refine sp_isSet hp hset (y1' ?_)
    rcases goal_cases p1 with ⟨g, hg, hp1⟩ | hb1
    · refine sp_goalExists hp1 hg (y1 ?_)
      refine sp_searchAs hLW hSD hCB (by omega) hs es (set := 15) (by decide) rfl ?_
      intro o f c r l ov v rr gr ba n fz b a e m hC hSC
      have hGL := bfs_GL (cmv_ok hLW.1 (G := G) (set := 15) (bars := 0) (np := 5)) hs
      have hcl : ∀ x ∈ sts (bfs (mvs t lw_parts G 15 0 5) (aft lw_parts) s), ∀ k ∈ mvs t lw_parts G 15 0 5 x, aft lw_parts x k ∈ sts (bfs (mvs t lw_parts G 15 0 5) (aft lw_parts) s) := fun x hx k hk => bfs_CL (fun _ q => q.1) (cmv_ok hLW.1) hs hx hk
      refine sp_markEscapes hLW hSC hGL hcl hC hg hp1 (fun mk2 mn v2 r2 n2 f2 b2 a2 e2 mm2 hMK hesc => ?_)
      refine sp_searchAs hLW hSD (hC.cb (by omega)) (by omega) hs es hset hp ?_
      intro o3 f3 c3 r3 l3 ov3 v3 rr3 gr3 ba3 n3 fz3 b3 a3 e3 m3 hC3 hSC3
      have hR2 : REL (N + 1) tx_bytes tx_length md_text md_textSize lw_told lw_parts lw_hangMasks lw_hangValues lw_ownSeats md_forms md_formMany md_seats sl_state md_now sl_rolled md_rolls sl_rollSets sl_rollActs md_rollSet md_rollAct sl_kept md_slots md_isKept md_barAlways md_noPut c3 r3 := ⟨hRT, ⟨t, G, hLa, s, hs, es, en⟩, hRo, hKe, hBa, R + 1 + 1, by omega, hC3.cb (by omega)⟩
      have hGL3 := bfs_GL (cmv_ok hLW.1 (G := G) (set := set) (bars := 0) (np := 5)) hs
      have hsub := sub_15 hLW.1 (G := G) (set := set) hs
      have hmv : ∀ x k, k ∈ mvs t lw_parts G set 0 5 x → k < 20 := fun x k hk => (mvT_mem.mp hk).1
      have hlen := hGL3.len (fun _ q => q.1)
      -- the reference
      have m8 : ∀ ans : Int32, ((∀ e ∈ bfs (mvs t lw_parts G set 0 5) (aft lw_parts) s, EscP (mvs t lw_parts G 15 0 5) (aft lw_parts) g e.1) → ans = -9) → (∀ (i : Nat) (e : En), (bfs (mvs t lw_parts G set 0 5) (aft lw_parts) s)[i]? = some e → ¬ EscP (mvs t lw_parts G 15 0 5) (aft lw_parts) g e.1 → (∀ (j : Nat) (e2 : En), j < i → (bfs (mvs t lw_parts G set 0 5) (aft lw_parts) s)[j]? = some e2 → EscP (mvs t lw_parts G 15 0 5) (aft lw_parts) g e2.1) → ans = nI e.2.2.2) → wp_X8_trap md_thrown md_forms md_formMany md_seats md_now md_barAlways md_noPut md_far md_queue md_from md_by md_many md_is p0 p1 (fun (r2 : Int32) (md_thrown1 : Int32) (md_far1 : Nat → Int32) (md_queue1 : Nat → Int32) (md_from1 : Nat → Int32) (md_by1 : Nat → Int32) (md_many1 : Int32) (md_is1 : Nat → Int32) => K ans r2 o3 f3 mk2 c3 r3 l3 ov3 v3 rr3 gr3 ba3 n3 fz3 b3 a3 e3 m3 md_thrown1 md_far1 md_queue1 md_from1 md_by1 md_many1 md_is1) := by
        intro ans ha0 ha1
        unfold wp_X8_trap
        refine sp8_noSet hp hset (y0 ?_)
        refine sp8_noGoal hp1 hg (y0' ?_)
        refine sp8_layGood hML (ba0 hBa.1) (np5 hBa.2) hs en hg hp1 (fun fa q fr b4 m4 is2 b5 hIS hesc2 => ?_)
        refine sp8_wave hML (ba0 hBa.1) (np5 hBa.2) hset hset hs en hp hp (fun fa2 q2 fr2 b6 m6 hMS => ?_)
        rw [umv_same] at hMS
        revert hMS hGL3 hsub hlen ha0 ha1
        generalize bfs (mvs t lw_parts G set 0 5) (aft lw_parts) s = L
        intro hGL3 hsub hlen ha0 ha1 hMS
        have main : ∀ n i, i ≤ L.length → L.length < n + i → (∀ (j : Nat) (e2 : En), j < i → L[j]? = some e2 → EscP (mvs t lw_parts G 15 0 5) (aft lw_parts) g e2.1) → wpL_X8_trap_39 md_forms md_formMany md_seats md_now md_barAlways md_noPut (fun (r2 : Int32) (md_thrown1 : Int32) (md_far1 : Nat → Int32) (md_queue1 : Nat → Int32) (md_from1 : Nat → Int32) (md_by1 : Nat → Int32) (md_many1 : Int32) (md_is1 : Nat → Int32) => K ans r2 o3 f3 mk2 c3 r3 l3 ov3 v3 rr3 gr3 ba3 n3 fz3 b3 a3 e3 m3 md_thrown1 md_far1 md_queue1 md_from1 md_by1 md_many1 md_is1) n 0 fa2 q2 fr2 b6 m6 is2 (nI i) := by
          intro n
          induction n with
          | zero => intro i h1 h2; omega
          | succ n ih =>
            intro i hi1 hi2 hno
            rw [wpL_X8_trap_39]
            refine pk_le L.length i (fun h5 => ?_) (fun h5 => ⟨pk_in i 16384 (by omega), ?_⟩) hMS.1
            · rw [ha0 (fun e he => ?_)]
              · exact h _ _ _ _ _ _ _ _ _ _ _ _ _ _ _ _ _ _ _ _ _ _ _ _ _ hR2
              · obtain ⟨j, hj⟩ := List.getElem?_of_mem he
                have := (List.getElem?_eq_some_iff.mp hj).1
                exact hno j e (by omega) hj
            · have hgd := getD_some h5
              have hxs : (L.getD i e0).1 ∈ sts L := mem_sts.mpr ⟨_, List.mem_of_getElem? hgd, rfl⟩
              have hp1 := (hGL3.2.1 _ (List.mem_of_getElem? hgd)).1
              have hpp := ph_lt hp1
              have h3 := hesc2 _ (hsub _ hxs)
              rw [nI_clamp (by omega), (hMS.2.1 i _ hgd).1]
              refine ⟨pk_in _ 16384 hpp, ?_⟩
              rw [nI_clamp (by omega), hIS _ (hsub _ hxs)]
              cases hb5 : b5 (L.getD i e0).1
              · refine ⟨fun z => absurd z (by decide), fun _ => ?_⟩
                unfold wpJ_X8_trap_61
                refine ⟨pk_in i 16384 (by omega), ?_⟩
                rw [nI_clamp (by omega), (hMS.2.1 i _ hgd).1]
                refine ⟨pk_in _ 16384 hpp, ?_⟩
                rw [nI_clamp (by omega), (hMS.2.1 i _ hgd).2.1, ha1 i _ hgd (fun z => by rw [h3.mpr z] at hb5; exact absurd hb5 (by decide)) hno]
                exact h _ _ _ _ _ _ _ _ _ _ _ _ _ _ _ _ _ _ _ _ _ _ _ _ _ hR2
              · refine ⟨fun _ => nm_r (nI_1 i) (ih (i + 1) (by omega) (by omega) (fun j e2 hj he2 => ?_)), fun z => absurd rfl z⟩
                rcases Nat.lt_or_eq_of_le (Nat.le_of_lt_succ hj) with h7 | h7
                · exact hno j e2 h7 he2
                · subst h7
                  rw [hgd] at he2
                  rw [← Option.some.inj he2]
                  exact h3.mp hb5
        exact ⟨L.length + 1, main _ 0 (by omega) (by omega) (fun j e2 hj => absurd hj (Nat.not_lt_zero j))⟩
      have hE : ∀ e ∈ bfs (mvs t lw_parts G set 0 5) (aft lw_parts) s, bt (mn e.1) 0 = true ↔ EscP (mvs t lw_parts G 15 0 5) (aft lw_parts) g e.1 := fun e he => hesc _ (hsub _ (mem_sts.mpr ⟨e, he, rfl⟩))
      have hF : ∀ e ∈ bfs (mvs t lw_parts G set 0 5) (aft lw_parts) s, bt (mn e.1) 0 = false → ¬ EscP (mvs t lw_parts G 15 0 5) (aft lw_parts) g e.1 := fun e he hb z => by rw [(hE e he).mpr z] at hb; exact absurd hb (by decide)
      refine sp_firstUnmarked hC3 hGL3 hMK hsub (fun hall => ?_) (fun i e4 he4 hb4 hn4 => ?_)
      · refine sp_stepsTo9 (m8 _ (fun _ => rfl) (fun i e4 he4 hne _ => ?_))
        exact absurd ((hE e4 (List.mem_of_getElem? he4)).mp (hall e4 (List.mem_of_getElem? he4))) hne
      · have hm4 := List.mem_of_getElem? he4
        refine sp_stepsTo hC3 hGL3 hmv hm4 rfl (m8 _ (fun hall => ?_) (fun j e5 he5 hne5 hn5 => ?_))
        · exact absurd (hall e4 hm4) (hF e4 hm4 hb4)
        · rcases Nat.lt_trichotomy i j with w | w | w
          · exact absurd (hn5 i e4 w he4) (hF e4 hm4 hb4)
          · subst w
            rw [he4] at he5
            rw [Option.some.inj he5]
          · have hm5 := List.mem_of_getElem? he5
            exact absurd ((hE e5 hm5).mp (hn4 j e5 w he5)) hne5
    · refine sp_goalExists_bad hb1 (y0 ?_)
      unfold wp_X8_trap
      refine sp8_noSet hp hset (y0 ?_)
      exact sp8_noGoal_bad hb1 (y1' (h _ _ _ _ _ _ _ _ _ _ _ _ _ _ _ _ _ _ _ _ _ _ _ _ _ hR.succ))
  · refine sp_isSet_bad hb (y0' ?_)
    unfold wp_X8_trap
    exact sp8_noSet_bad hb (y1 (h _ _ _ _ _ _ _ _ _ _ _ _ _ _ _ _ _ _ _ _ _ _ _ _ _ hR.succ))
