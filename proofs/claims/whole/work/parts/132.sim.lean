theorem ba0 {a : Int32} (h : a = -9) : BA 0 a := Or.inl ⟨rfl, h⟩
theorem np5 {a : Int32} (h : a = -9) : NPt 5 a := Or.inl ⟨rfl, h⟩
theorem sim_unroll {N : Nat} (hN : N < 600) {tx_bytes : Nat → Int32} {tx_length : Int32} {md_text : Nat → Int32} {md_textSize : Int32} {lw_told : Nat → Int32} {lw_parts : Nat → Int32} {lw_hangMasks : Nat → Int32} {lw_hangValues : Nat → Int32} {lw_ownSeats : Nat → Int32} {md_forms : Nat → Int32} {md_formMany : Nat → Int32} {md_seats : Nat → Int32} {sl_state : Int32} {md_now : Int32} {sl_rolled : Int32} {md_rolls : Int32} {sl_rollSets : Nat → Int32} {sl_rollActs : Nat → Int32} {md_rollSet : Nat → Int32} {md_rollAct : Nat → Int32} {sl_kept : Nat → Int32} {md_slots : Nat → Int32} {md_isKept : Nat → Int32} {md_barAlways : Int32} {md_noPut : Int32} {se_cameBy : Nat → Int32} {se_runs : Int32} {md_thrown : Int32} (hR : REL N tx_bytes tx_length md_text md_textSize lw_told lw_parts lw_hangMasks lw_hangValues lw_ownSeats md_forms md_formMany md_seats sl_state md_now sl_rolled md_rolls sl_rollSets sl_rollActs md_rollSet md_rollAct sl_kept md_slots md_isKept md_barAlways md_noPut se_cameBy se_runs)  {K : Int32 → Int32 → Int32 → Int32 → Int32 → Prop} (h : ∀ (r : Int32) (sl_rolled1 : Int32) (md_thrown1 : Int32) (md_rolls1 : Int32), REL (N + 1) tx_bytes tx_length md_text md_textSize lw_told lw_parts lw_hangMasks lw_hangValues lw_ownSeats md_forms md_formMany md_seats sl_state md_now sl_rolled1 md_rolls1 sl_rollSets sl_rollActs md_rollSet md_rollAct sl_kept md_slots md_isKept md_barAlways md_noPut se_cameBy se_runs → K r r sl_rolled1 md_thrown1 md_rolls1) : wp_X7_unroll sl_rolled  (fun (r1 : Int32) (sl_rolled1 : Int32) => wp_X8_unroll md_thrown md_rolls  (fun (r2 : Int32) (md_thrown1 : Int32) (md_rolls1 : Int32) => K r1 r2 sl_rolled1 md_thrown1 md_rolls1)) := by
  unfold wp_X7_unroll
  unfold wp_X8_unroll
  obtain ⟨hRT, hLa, ⟨r, S, A, hr, e1, e2, hj⟩, hKe, hBa, hCb⟩ := id hR
  rw [e1, e2]
  exact h _ _ _ _ ⟨hRT, hLa, ⟨0, S, A, by omega, rfl, rfl, fun j hj => absurd hj (Nat.not_lt_zero j)⟩, hKe, hBa, hCb.succ⟩
theorem sim_roll {N : Nat} (hN : N < 600) {tx_bytes : Nat → Int32} {tx_length : Int32} {md_text : Nat → Int32} {md_textSize : Int32} {lw_told : Nat → Int32} {lw_parts : Nat → Int32} {lw_hangMasks : Nat → Int32} {lw_hangValues : Nat → Int32} {lw_ownSeats : Nat → Int32} {md_forms : Nat → Int32} {md_formMany : Nat → Int32} {md_seats : Nat → Int32} {sl_state : Int32} {md_now : Int32} {sl_rolled : Int32} {md_rolls : Int32} {sl_rollSets : Nat → Int32} {sl_rollActs : Nat → Int32} {md_rollSet : Nat → Int32} {md_rollAct : Nat → Int32} {sl_kept : Nat → Int32} {md_slots : Nat → Int32} {md_isKept : Nat → Int32} {md_barAlways : Int32} {md_noPut : Int32} {se_cameBy : Nat → Int32} {se_runs : Int32} {md_thrown : Int32} (hR : REL N tx_bytes tx_length md_text md_textSize lw_told lw_parts lw_hangMasks lw_hangValues lw_ownSeats md_forms md_formMany md_seats sl_state md_now sl_rolled md_rolls sl_rollSets sl_rollActs md_rollSet md_rollAct sl_kept md_slots md_isKept md_barAlways md_noPut se_cameBy se_runs) (p0 : Int32) (p1 : Int32) {K : Int32 → Int32 → (Nat → Int32) → (Nat → Int32) → Int32 → Int32 → (Nat → Int32) → (Nat → Int32) → Int32 → Prop} (h : ∀ (r : Int32) (sl_rollSets1 : Nat → Int32) (sl_rollActs1 : Nat → Int32) (sl_rolled1 : Int32) (md_thrown1 : Int32) (md_rollSet1 : Nat → Int32) (md_rollAct1 : Nat → Int32) (md_rolls1 : Int32), REL (N + 1) tx_bytes tx_length md_text md_textSize lw_told lw_parts lw_hangMasks lw_hangValues lw_ownSeats md_forms md_formMany md_seats sl_state md_now sl_rolled1 md_rolls1 sl_rollSets1 sl_rollActs1 md_rollSet1 md_rollAct1 sl_kept md_slots md_isKept md_barAlways md_noPut se_cameBy se_runs → K r r sl_rollSets1 sl_rollActs1 sl_rolled1 md_thrown1 md_rollSet1 md_rollAct1 md_rolls1) : wp_X7_roll sl_rollSets sl_rollActs sl_rolled p0 p1 (fun (r1 : Int32) (sl_rollSets1 : Nat → Int32) (sl_rollActs1 : Nat → Int32) (sl_rolled1 : Int32) => wp_X8_roll md_thrown md_rollSet md_rollAct md_rolls p0 p1 (fun (r2 : Int32) (md_thrown1 : Int32) (md_rollSet1 : Nat → Int32) (md_rollAct1 : Nat → Int32) (md_rolls1 : Int32) => K r1 r2 sl_rollSets1 sl_rollActs1 sl_rolled1 md_thrown1 md_rollSet1 md_rollAct1 md_rolls1)) := by
  unfold wp_X7_roll
  obtain ⟨hRT, hLa, ⟨r, S, A, hr, e1, e2, hj⟩, hKe, hBa, hCb⟩ := id hR
  rcases range_cases p0 16 (by decide) with ⟨set, hset, hp⟩ | hb
  · refine sp_isSet hp hset (y1' ?_)
    rcases act_cases p1 with ⟨k, hk, hp1⟩ | hb1
    · refine sp_actExists hp1 hk (y1 ?_)
      rw [e1]
      refine pk_lt r 0 (fun z => by omega) (fun _ => pk_lt r 20 (fun hr2 => ?_) (fun hr2 => ?_))
      · refine ⟨pk_in r 20 hr2, nm_e ⟨pk_in r 20 hr2, nm_e (nm_r (nI_1 r) ?_)⟩⟩
        unfold wp_X8_roll
        refine sp8_noSet hp hset (y0 ?_)
        refine sp8_noAct hp1 hk (y0' ?_)
        rw [e2]
        refine pk_eq' r 20 (fun _ => ?_) (fun z => by omega)
        refine ⟨pk_in r 20 hr2, nm_e ⟨pk_in r 20 hr2, nm_e (nm_r (nI_1 r) ?_)⟩⟩
        rw [nI_clamp (by omega)]
        refine h _ _ _ _ _ _ _ _ ⟨hRT, hLa, ⟨r + 1, fun j => if j = r then set else S j, fun j => if j = r then k else A j, by omega, rfl, rfl, fun j hj2 => ?_⟩, hKe, hBa, hCb.succ⟩
        by_cases q : j = r
        · subst q
          rw [pk_us, pk_us, pk_us, pk_us]
          simp only [if_true]
          exact ⟨hset, hk, hp, hp, hp1, hp1⟩
        · rw [pk_un q, pk_un q, pk_un q, pk_un q]
          simp only [if_neg q]
          exact hj j (by omega)
      · unfold wp_X8_roll
        refine sp8_noSet hp hset (y0 ?_)
        refine sp8_noAct hp1 hk (y0' ?_)
        rw [e2]
        refine pk_eq' r 20 (fun z => by omega) (fun _ => ?_)
        have hR2 := hR.succ
        rw [e1, e2] at hR2
        exact h _ _ _ _ _ _ _ _ hR2
    · refine sp_actExists_bad hb1 (y0 ?_)
      unfold wp_X8_roll
      refine sp8_noSet hp hset (y0 ?_)
      exact sp8_noAct_bad hb1 (y1' (h _ _ _ _ _ _ _ _ hR.succ))
  · refine sp_isSet_bad hb (y0' ?_)
    unfold wp_X8_roll
    exact sp8_noSet_bad hb (y1 (h _ _ _ _ _ _ _ _ hR.succ))
theorem sim_keep {N : Nat} (hN : N < 600) {tx_bytes : Nat → Int32} {tx_length : Int32} {md_text : Nat → Int32} {md_textSize : Int32} {lw_told : Nat → Int32} {lw_parts : Nat → Int32} {lw_hangMasks : Nat → Int32} {lw_hangValues : Nat → Int32} {lw_ownSeats : Nat → Int32} {md_forms : Nat → Int32} {md_formMany : Nat → Int32} {md_seats : Nat → Int32} {sl_state : Int32} {md_now : Int32} {sl_rolled : Int32} {md_rolls : Int32} {sl_rollSets : Nat → Int32} {sl_rollActs : Nat → Int32} {md_rollSet : Nat → Int32} {md_rollAct : Nat → Int32} {sl_kept : Nat → Int32} {md_slots : Nat → Int32} {md_isKept : Nat → Int32} {md_barAlways : Int32} {md_noPut : Int32} {se_cameBy : Nat → Int32} {se_runs : Int32} {md_thrown : Int32} (hR : REL N tx_bytes tx_length md_text md_textSize lw_told lw_parts lw_hangMasks lw_hangValues lw_ownSeats md_forms md_formMany md_seats sl_state md_now sl_rolled md_rolls sl_rollSets sl_rollActs md_rollSet md_rollAct sl_kept md_slots md_isKept md_barAlways md_noPut se_cameBy se_runs) (p0 : Int32) {K : Int32 → Int32 → (Nat → Int32) → Int32 → (Nat → Int32) → (Nat → Int32) → Prop} (h : ∀ (r : Int32) (sl_kept1 : Nat → Int32) (md_thrown1 : Int32) (md_slots1 : Nat → Int32) (md_isKept1 : Nat → Int32), REL (N + 1) tx_bytes tx_length md_text md_textSize lw_told lw_parts lw_hangMasks lw_hangValues lw_ownSeats md_forms md_formMany md_seats sl_state md_now sl_rolled md_rolls sl_rollSets sl_rollActs md_rollSet md_rollAct sl_kept1 md_slots1 md_isKept1 md_barAlways md_noPut se_cameBy se_runs → K r r sl_kept1 md_thrown1 md_slots1 md_isKept1) : wp_X7_keep sl_kept sl_state p0 (fun (r1 : Int32) (sl_kept1 : Nat → Int32) => wp_X8_keep md_thrown md_now md_slots md_isKept p0 (fun (r2 : Int32) (md_thrown1 : Int32) (md_slots1 : Nat → Int32) (md_isKept1 : Nat → Int32) => K r1 r2 sl_kept1 md_thrown1 md_slots1 md_isKept1)) := by
  unfold wp_X7_keep
  obtain ⟨hRT, ⟨t, G, hLa, s, hs, es, en⟩, hRo, hKe, hBa, hCb⟩ := id hR
  rcases range_cases p0 3 (by decide) with ⟨c, hc, hp⟩ | hb
  · have new : REL (N + 1) tx_bytes tx_length md_text md_textSize lw_told lw_parts lw_hangMasks lw_hangValues lw_ownSeats md_forms md_formMany md_seats sl_state md_now sl_rolled md_rolls sl_rollSets sl_rollActs md_rollSet md_rollAct (upd sl_kept c sl_state) (upd md_slots c md_now) (upd md_isKept c (vp_nar .boolean 1)) md_barAlways md_noPut se_cameBy se_runs := by
      refine ⟨hRT, ⟨t, G, hLa, s, hs, es, en⟩, hRo, fun j hj => ?_, hBa, hCb.succ⟩
      by_cases q : j = c
      · subst q
        rw [pk_us, pk_us, pk_us]
        exact Or.inr ⟨rfl, s, hs.1, es, en⟩
      · rw [pk_un q, pk_un q, pk_un q]
        exact hKe j hj
    have hcl : p0.toNatClampNeg = c := by rw [hp]; exact nI_clamp (by omega)
    refine pk_lt c 0 (fun z => by omega) (fun _ => pk_lt c 3 (fun _ => ⟨pk_in c 3 hc hp, ?_⟩) (fun z => by omega) hp) hp
    unfold wpJ_X7_keep_27
    have m8 : ∀ (a : Int32), ((a = 0 ∧ ¬ md_isKept c = 0) ∨ (a = 1 ∧ md_isKept c = 0)) → wp_X8_keep md_thrown md_now md_slots md_isKept p0 (fun (r2 : Int32) (md_thrown1 : Int32) (md_slots1 : Nat → Int32) (md_isKept1 : Nat → Int32) => K a r2 (upd sl_kept c sl_state) md_thrown1 md_slots1 md_isKept1) := by
      intro a ha
      unfold wp_X8_keep
      refine in_yes hp (by omega) 0 2 (by decide) (by decide) (by omega) (by omega) (y1 ⟨pk_in c 3 hc hp, ?_⟩)
      unfold wpJ_X8_keep_33
      rw [hcl]
      refine ⟨fun q => ⟨pk_in c 3 hc hp, nm_e ⟨pk_in c 3 hc hp, nm_e ?_⟩⟩, fun q => ⟨pk_in c 3 hc hp, nm_e ⟨pk_in c 3 hc hp, nm_e ?_⟩⟩⟩
      · rcases ha with ⟨-, w⟩ | ⟨rfl, -⟩
        · exact absurd q w
        · exact h _ _ _ _ _ new
      · rcases ha with ⟨rfl, -⟩ | ⟨-, w⟩
        · exact h _ _ _ _ _ new
        · exact absurd w q
    rw [hcl]
    refine ⟨fun q => ⟨pk_in c 3 hc hp, nm_e (m8 _ (Or.inl ⟨rfl, ?_⟩))⟩, fun q => ⟨pk_in c 3 hc hp, nm_e (m8 _ (Or.inr ⟨rfl, ?_⟩))⟩⟩
    · rcases hKe c hc with ⟨-, w⟩ | ⟨w, -⟩
      · exact absurd w q
      · rw [w]; decide
    · rcases hKe c hc with ⟨w, -⟩ | ⟨-, k, h1, h2, -⟩
      · exact w
      · rw [h2] at q
        exact absurd (q ▸ nI_pos' (n := k) (by omega)) (by decide)
  · have m8 : wp_X8_keep md_thrown md_now md_slots md_isKept p0 (fun (r2 : Int32) (md_thrown1 : Int32) (md_slots1 : Nat → Int32) (md_isKept1 : Nat → Int32) => K (-1) r2 sl_kept md_thrown1 md_slots1 md_isKept1) := by
      unfold wp_X8_keep
      exact in_no 3 (by decide) hb 0 (by decide) (by decide) (y0 (h _ _ _ _ _ hR.succ))
    exact ntest hb m8 m8
theorem sim_unform {N : Nat} (hN : N < 600) {tx_bytes : Nat → Int32} {tx_length : Int32} {md_text : Nat → Int32} {md_textSize : Int32} {lw_told : Nat → Int32} {lw_parts : Nat → Int32} {lw_hangMasks : Nat → Int32} {lw_hangValues : Nat → Int32} {lw_ownSeats : Nat → Int32} {md_forms : Nat → Int32} {md_formMany : Nat → Int32} {md_seats : Nat → Int32} {sl_state : Int32} {md_now : Int32} {sl_rolled : Int32} {md_rolls : Int32} {sl_rollSets : Nat → Int32} {sl_rollActs : Nat → Int32} {md_rollSet : Nat → Int32} {md_rollAct : Nat → Int32} {sl_kept : Nat → Int32} {md_slots : Nat → Int32} {md_isKept : Nat → Int32} {md_barAlways : Int32} {md_noPut : Int32} {se_cameBy : Nat → Int32} {se_runs : Int32} {md_thrown : Int32} (hR : REL N tx_bytes tx_length md_text md_textSize lw_told lw_parts lw_hangMasks lw_hangValues lw_ownSeats md_forms md_formMany md_seats sl_state md_now sl_rolled md_rolls sl_rollSets sl_rollActs md_rollSet md_rollAct sl_kept md_slots md_isKept md_barAlways md_noPut se_cameBy se_runs) (p0 : Int32) {K : Int32 → Int32 → Int32 → (Nat → Int32) → Int32 → (Nat → Int32) → Int32 → Prop} (h : ∀ (r : Int32) (sl_state1 : Int32) (lw_told1 : Nat → Int32) (md_thrown1 : Int32) (md_formMany1 : Nat → Int32) (md_now1 : Int32), REL (N + 1) tx_bytes tx_length md_text md_textSize lw_told1 lw_parts lw_hangMasks lw_hangValues lw_ownSeats md_forms md_formMany1 md_seats sl_state1 md_now1 sl_rolled md_rolls sl_rollSets sl_rollActs md_rollSet md_rollAct sl_kept md_slots md_isKept md_barAlways md_noPut se_cameBy se_runs → K r r sl_state1 lw_told1 md_thrown1 md_formMany1 md_now1) : wp_X7_unform sl_state lw_told p0 (fun (r1 : Int32) (sl_state1 : Int32) (lw_told1 : Nat → Int32) => wp_X8_unform md_thrown md_formMany md_now p0 (fun (r2 : Int32) (md_thrown1 : Int32) (md_formMany1 : Nat → Int32) (md_now1 : Int32) => K r1 r2 sl_state1 lw_told1 md_thrown1 md_formMany1 md_now1)) := by
  unfold wp_X7_unform
  obtain ⟨hRT, ⟨t, G, hLa, s, hs, es, en⟩, hRo, hKe, hBa, hCb⟩ := id hR
  obtain ⟨⟨hP, hH, hT, hG⟩, hSD, hM, hP2, hT2, hD2, hG2⟩ := id hLa
  have hs1 := hs.1
  rcases range_cases p0 5 (by decide) with ⟨c, hc, hp⟩ | hb
  · have hcl : p0.toNatClampNeg = c := by rw [hp]; exact nI_clamp (by omega)
    refine sp_isClause hp hc (y1 ?_)
    refine sp_X5_put es hp (f := 0) rfl hs1 hc (by decide) ?_
    unfold wp_X2_drop
    refine sp_isClause hp hc (y1 ⟨pk_in c 5 hc hp, ?_⟩)
    rw [hcl, hT c hc]
    refine nm_e ⟨pk_in c 5 hc hp, nm_e ?_⟩
    unfold wp_X8_unform
    refine sp8_noClause hp hc (y0' ⟨pk_in c 5 hc hp, ?_⟩)
    rw [hcl, hT2 c hc]
    refine nm_e ⟨pk_in c 5 hc hp, nm_e ?_⟩
    unfold wp_X8_put
    have e8 : (nI (ph s) &&& (((3 : Int32) <<< (((4 : Int32) + ((2 : Int32) * nI c)) &&& 31)) ^^^ (-1 : Int32))) ||| ((0 : Int32) <<< (((4 : Int32) + ((2 : Int32) * nI c)) &&& 31)) = nI (ph (pu s c 0)) := w8_put hs1 hc (f := 0) (by decide)
    rw [en, hp, e8]
    have ht' : ∀ x f, x < 5 → 1 ≤ f → f ≤ (if x = c then 0 else t x) → f ≤ t x := by
      intro x f hx h1 h2
      by_cases q : x = c
      · simp [q] at h2; omega
      · simpa [q] using h2
    have hP' : LWP (fun x => if x = c then 0 else t x) lw_parts := by
      refine ⟨fun x hx => ?_, fun x f hx h1 h2 => hP.2.1 x f hx h1 (ht' x f hx h1 h2), hP.2.2⟩
      by_cases q : x = c
      · simp [q]
      · simp [q]; exact hP.1 x hx
    have hTD : ∀ told, TD t told → TD (fun x => if x = c then 0 else t x) (upd told c 0) := by
      intro told h1 x hx
      by_cases q : x = c
      · subst q; rw [pk_us]; simp; rfl
      · rw [pk_un q]; simp [q]; exact h1 x hx
    refine h _ _ _ _ _ _ ⟨hRT, ⟨fun x => if x = c then 0 else t x, G, ⟨⟨hP', fun x f hx h1 h2 => hH x f hx h1 (ht' x f hx h1 h2), hTD _ hT, hG⟩, hSD, fun x f w hx h1 h2 hw => hM x f w hx h1 (ht' x f hx h1 h2) hw, hP', hTD _ hT2, hD2, hG2⟩, _, ⟨pu_lt hs1 hc (by decide), fun x hx => ?_⟩, rfl, rfl⟩, hRo, hKe, hBa, hCb.succ⟩
    rw [fo_pu hs1 hc (by decide) hx]
    by_cases q : x = c
    · simp [q]
    · simp only [if_neg q]; exact hs.2 x hx
  · refine sp_isClause_bad hb (y0 ?_)
    unfold wp_X8_unform
    exact sp8_noClause_bad hb (y1' (h _ _ _ _ _ _ hR.succ))
theorem sim_why {N : Nat} (hN : N < 600) {tx_bytes : Nat → Int32} {tx_length : Int32} {md_text : Nat → Int32} {md_textSize : Int32} {lw_told : Nat → Int32} {lw_parts : Nat → Int32} {lw_hangMasks : Nat → Int32} {lw_hangValues : Nat → Int32} {lw_ownSeats : Nat → Int32} {md_forms : Nat → Int32} {md_formMany : Nat → Int32} {md_seats : Nat → Int32} {sl_state : Int32} {md_now : Int32} {sl_rolled : Int32} {md_rolls : Int32} {sl_rollSets : Nat → Int32} {sl_rollActs : Nat → Int32} {md_rollSet : Nat → Int32} {md_rollAct : Nat → Int32} {sl_kept : Nat → Int32} {md_slots : Nat → Int32} {md_isKept : Nat → Int32} {md_barAlways : Int32} {md_noPut : Int32} {se_cameBy : Nat → Int32} {se_runs : Int32} {sg_ownVotes : Nat → Int32} {sg_votes : Nat → Int32} {sg_rows : Nat → Int32} {sg_groups : Int32} {sg_bars : Int32} {sg_now : Int32} {sg_forced : Int32} {sg_barred : Int32} {md_thrown : Int32} (hR : REL N tx_bytes tx_length md_text md_textSize lw_told lw_parts lw_hangMasks lw_hangValues lw_ownSeats md_forms md_formMany md_seats sl_state md_now sl_rolled md_rolls sl_rollSets sl_rollActs md_rollSet md_rollAct sl_kept md_slots md_isKept md_barAlways md_noPut se_cameBy se_runs) (p0 : Int32) (p1 : Int32) {K : Int32 → Int32 → (Nat → Int32) → (Nat → Int32) → (Nat → Int32) → Int32 → Int32 → Int32 → Int32 → Int32 → Int32 → Prop} (h : ∀ (r : Int32) (sg_ownVotes1 : Nat → Int32) (sg_votes1 : Nat → Int32) (sg_rows1 : Nat → Int32) (sg_groups1 : Int32) (sg_bars1 : Int32) (sg_now1 : Int32) (sg_forced1 : Int32) (sg_barred1 : Int32) (md_thrown1 : Int32), REL (N + 1) tx_bytes tx_length md_text md_textSize lw_told lw_parts lw_hangMasks lw_hangValues lw_ownSeats md_forms md_formMany md_seats sl_state md_now sl_rolled md_rolls sl_rollSets sl_rollActs md_rollSet md_rollAct sl_kept md_slots md_isKept md_barAlways md_noPut se_cameBy se_runs → K r r sg_ownVotes1 sg_votes1 sg_rows1 sg_groups1 sg_bars1 sg_now1 sg_forced1 sg_barred1 md_thrown1) : wp_X7_why sl_state sg_ownVotes sg_votes sg_rows sg_groups sg_bars sg_now sg_forced sg_barred lw_told lw_parts lw_hangMasks lw_hangValues lw_ownSeats p0 p1 (fun (r1 : Int32) (sg_ownVotes1 : Nat → Int32) (sg_votes1 : Nat → Int32) (sg_rows1 : Nat → Int32) (sg_groups1 : Int32) (sg_bars1 : Int32) (sg_now1 : Int32) (sg_forced1 : Int32) (sg_barred1 : Int32) => wp_X8_why md_thrown md_forms md_formMany md_seats md_now md_barAlways md_noPut p0 p1 (fun (r2 : Int32) (md_thrown1 : Int32) => K r1 r2 sg_ownVotes1 sg_votes1 sg_rows1 sg_groups1 sg_bars1 sg_now1 sg_forced1 sg_barred1 md_thrown1)) := by
  unfold wp_X7_why
  obtain ⟨hRT, ⟨t, G, hLa, s, hs, es, en⟩, hRo, hKe, hBa, hCb⟩ := id hR
  obtain ⟨⟨hP, hH, hT, hG⟩, hSD, hM, hP2, hT2, hD2, hG2⟩ := id hLa
  rcases range_cases p0 16 (by decide) with ⟨set, hset, hp⟩ | hb
  · refine sp_isSet hp hset (y1' ?_)
    rcases act_cases p1 with ⟨k, hk, hp1⟩ | hb1
    · refine sp_actExists hp1 hk (y1' ?_)
      unfold wp_X7_lookAs
      refine sp_choose hSD hset (bars := 0) (by decide) hp rfl (fun o g ba hSC => ?_)
      refine sp_look hP hH hs es hSC (fun v r n f br hLK => ?_)
      refine sp_whyNot hP hT hG hs hk hLK hp1 ?_
      unfold wp_X8_why
      refine sp8_noSet hp hset (y0 ?_)
      refine sp8_noAct hp1 hk (y0' ?_)
      exact sp8_whyNot hM hP hT2 hD2 hG (ba0 hBa.1) (np5 hBa.2) hs hset hk en hp hp1 (h _ _ _ _ _ _ _ _ _ _ hR.succ)
    · refine sp_actExists_bad hb1 (y0' ?_)
      unfold wp_X8_why
      refine sp8_noSet hp hset (y0 ?_)
      exact sp8_noAct_bad hb1 (y1' (h _ _ _ _ _ _ _ _ _ _ hR.succ))
  · refine sp_isSet_bad hb (y0' ?_)
    unfold wp_X8_why
    exact sp8_noSet_bad hb (y1 (h _ _ _ _ _ _ _ _ _ _ hR.succ))
theorem sim_act {N : Nat} (hN : N < 600) {tx_bytes : Nat → Int32} {tx_length : Int32} {md_text : Nat → Int32} {md_textSize : Int32} {lw_told : Nat → Int32} {lw_parts : Nat → Int32} {lw_hangMasks : Nat → Int32} {lw_hangValues : Nat → Int32} {lw_ownSeats : Nat → Int32} {md_forms : Nat → Int32} {md_formMany : Nat → Int32} {md_seats : Nat → Int32} {sl_state : Int32} {md_now : Int32} {sl_rolled : Int32} {md_rolls : Int32} {sl_rollSets : Nat → Int32} {sl_rollActs : Nat → Int32} {md_rollSet : Nat → Int32} {md_rollAct : Nat → Int32} {sl_kept : Nat → Int32} {md_slots : Nat → Int32} {md_isKept : Nat → Int32} {md_barAlways : Int32} {md_noPut : Int32} {se_cameBy : Nat → Int32} {se_runs : Int32} {sg_ownVotes : Nat → Int32} {sg_votes : Nat → Int32} {sg_rows : Nat → Int32} {sg_groups : Int32} {sg_bars : Int32} {sg_now : Int32} {sg_forced : Int32} {sg_barred : Int32} {md_thrown : Int32} (hR : REL N tx_bytes tx_length md_text md_textSize lw_told lw_parts lw_hangMasks lw_hangValues lw_ownSeats md_forms md_formMany md_seats sl_state md_now sl_rolled md_rolls sl_rollSets sl_rollActs md_rollSet md_rollAct sl_kept md_slots md_isKept md_barAlways md_noPut se_cameBy se_runs) (p0 : Int32) (p1 : Int32) {K : Int32 → Int32 → Int32 → (Nat → Int32) → (Nat → Int32) → (Nat → Int32) → Int32 → Int32 → Int32 → Int32 → Int32 → Int32 → Int32 → Prop} (h : ∀ (r : Int32) (sl_state1 : Int32) (sg_ownVotes1 : Nat → Int32) (sg_votes1 : Nat → Int32) (sg_rows1 : Nat → Int32) (sg_groups1 : Int32) (sg_bars1 : Int32) (sg_now1 : Int32) (sg_forced1 : Int32) (sg_barred1 : Int32) (md_thrown1 : Int32) (md_now1 : Int32), REL (N + 1) tx_bytes tx_length md_text md_textSize lw_told lw_parts lw_hangMasks lw_hangValues lw_ownSeats md_forms md_formMany md_seats sl_state1 md_now1 sl_rolled md_rolls sl_rollSets sl_rollActs md_rollSet md_rollAct sl_kept md_slots md_isKept md_barAlways md_noPut se_cameBy se_runs → K r r sl_state1 sg_ownVotes1 sg_votes1 sg_rows1 sg_groups1 sg_bars1 sg_now1 sg_forced1 sg_barred1 md_thrown1 md_now1) : wp_X7_act sl_state sg_ownVotes sg_votes sg_rows sg_groups sg_bars sg_now sg_forced sg_barred lw_told lw_parts lw_hangMasks lw_hangValues lw_ownSeats p0 p1 (fun (r1 : Int32) (sl_state1 : Int32) (sg_ownVotes1 : Nat → Int32) (sg_votes1 : Nat → Int32) (sg_rows1 : Nat → Int32) (sg_groups1 : Int32) (sg_bars1 : Int32) (sg_now1 : Int32) (sg_forced1 : Int32) (sg_barred1 : Int32) => wp_X8_act md_thrown md_forms md_formMany md_seats md_now md_barAlways md_noPut p0 p1 (fun (r2 : Int32) (md_thrown1 : Int32) (md_now1 : Int32) => K r1 r2 sl_state1 sg_ownVotes1 sg_votes1 sg_rows1 sg_groups1 sg_bars1 sg_now1 sg_forced1 sg_barred1 md_thrown1 md_now1)) := by
  unfold wp_X7_act
  obtain ⟨hRT, ⟨t, G, hLa, s, hs, es, en⟩, hRo, hKe, hBa, hCb⟩ := id hR
  obtain ⟨⟨hP, hH, hT, hG⟩, hSD, hM, hP2, hT2, hD2, hG2⟩ := id hLa
  rcases range_cases p0 16 (by decide) with ⟨set, hset, hp⟩ | hb
  · refine sp_isSet hp hset (y1' ?_)
    rcases act_cases p1 with ⟨k, hk, hp1⟩ | hb1
    · refine sp_actExists hp1 hk (y1 ?_)
      unfold wp_X7_lookAs
      refine sp_choose hSD hset (bars := 0) (by decide) hp rfl (fun o g ba hSC => ?_)
      refine sp_look hP hH hs es hSC (fun v r n f br hLK => ?_)
      refine sp_whyNot hP hT hG hs hk hLK hp1 ?_
      have hwl := why_lt (t := t) (P := lw_parts) (G := G) (set := set) (bars := 0) (np := 5) (s := s) (k := k)
      refine pk_eq' _ 0 (fun q => ?_) (fun q => ?_)
      · unfold wp_X8_act
        refine sp8_noSet hp hset (y0 ?_)
        refine sp8_noAct hp1 hk (y0' ?_)
        refine sp8_whyNot hM hP hT2 hD2 hG (ba0 hBa.1) (np5 hBa.2) hs hset hk en hp hp1 ?_
        exact pk_eq' _ 0 (fun _ => h _ _ _ _ _ _ _ _ _ _ _ _ hR.succ) (fun z => absurd z q)
      · have hg := why_giv q
        refine sp_after hP hs hk hLK (giv_letter hg).2.1 hp1 ?_
        unfold wp_X8_act
        refine sp8_noSet hp hset (y0 ?_)
        refine sp8_noAct hp1 hk (y0' ?_)
        refine sp8_whyNot hM hP hT2 hD2 hG (ba0 hBa.1) (np5 hBa.2) hs hset hk en hp hp1 ?_
        refine pk_eq' _ 0 (fun z => absurd q z) (fun _ => ?_)
        exact sp8_done hM hP hs hk hg en hp1 (h _ _ _ _ _ _ _ _ _ _ _ _ ⟨hRT, ⟨t, G, hLa, _, giv_aft hP hs hk hg, rfl, rfl⟩, hRo, hKe, hBa, hCb.succ⟩)
    · refine sp_actExists_bad hb1 (y0 ?_)
      unfold wp_X8_act
      refine sp8_noSet hp hset (y0 ?_)
      exact sp8_noAct_bad hb1 (y1' (h _ _ _ _ _ _ _ _ _ _ _ _ hR.succ))
  · refine sp_isSet_bad hb (y0' ?_)
    unfold wp_X8_act
    exact sp8_noSet_bad hb (y1 (h _ _ _ _ _ _ _ _ _ _ _ _ hR.succ))
theorem sim_acts {N : Nat} (hN : N < 600) {tx_bytes : Nat → Int32} {tx_length : Int32} {md_text : Nat → Int32} {md_textSize : Int32} {lw_told : Nat → Int32} {lw_parts : Nat → Int32} {lw_hangMasks : Nat → Int32} {lw_hangValues : Nat → Int32} {lw_ownSeats : Nat → Int32} {md_forms : Nat → Int32} {md_formMany : Nat → Int32} {md_seats : Nat → Int32} {sl_state : Int32} {md_now : Int32} {sl_rolled : Int32} {md_rolls : Int32} {sl_rollSets : Nat → Int32} {sl_rollActs : Nat → Int32} {md_rollSet : Nat → Int32} {md_rollAct : Nat → Int32} {sl_kept : Nat → Int32} {md_slots : Nat → Int32} {md_isKept : Nat → Int32} {md_barAlways : Int32} {md_noPut : Int32} {se_cameBy : Nat → Int32} {se_runs : Int32} {sg_ownVotes : Nat → Int32} {sg_votes : Nat → Int32} {sg_rows : Nat → Int32} {sg_groups : Int32} {sg_bars : Int32} {sg_now : Int32} {sg_forced : Int32} {sg_barred : Int32} {sg_mayActs : Nat → Int32} {sg_mayEnds : Nat → Int32} {sg_mays : Int32} {md_thrown : Int32} (hR : REL N tx_bytes tx_length md_text md_textSize lw_told lw_parts lw_hangMasks lw_hangValues lw_ownSeats md_forms md_formMany md_seats sl_state md_now sl_rolled md_rolls sl_rollSets sl_rollActs md_rollSet md_rollAct sl_kept md_slots md_isKept md_barAlways md_noPut se_cameBy se_runs) (p0 : Int32) {K : Int32 → Int32 → (Nat → Int32) → (Nat → Int32) → (Nat → Int32) → Int32 → Int32 → Int32 → Int32 → Int32 → (Nat → Int32) → (Nat → Int32) → Int32 → Int32 → Prop} (h : ∀ (r : Int32) (sg_ownVotes1 : Nat → Int32) (sg_votes1 : Nat → Int32) (sg_rows1 : Nat → Int32) (sg_groups1 : Int32) (sg_bars1 : Int32) (sg_now1 : Int32) (sg_forced1 : Int32) (sg_barred1 : Int32) (sg_mayActs1 : Nat → Int32) (sg_mayEnds1 : Nat → Int32) (sg_mays1 : Int32) (md_thrown1 : Int32), REL (N + 1) tx_bytes tx_length md_text md_textSize lw_told lw_parts lw_hangMasks lw_hangValues lw_ownSeats md_forms md_formMany md_seats sl_state md_now sl_rolled md_rolls sl_rollSets sl_rollActs md_rollSet md_rollAct sl_kept md_slots md_isKept md_barAlways md_noPut se_cameBy se_runs → K r r sg_ownVotes1 sg_votes1 sg_rows1 sg_groups1 sg_bars1 sg_now1 sg_forced1 sg_barred1 sg_mayActs1 sg_mayEnds1 sg_mays1 md_thrown1) : wp_X7_acts sl_state sg_ownVotes sg_votes sg_rows sg_groups sg_bars sg_now sg_forced sg_barred sg_mayActs sg_mayEnds sg_mays lw_told lw_parts lw_hangMasks lw_hangValues lw_ownSeats p0 (fun (r1 : Int32) (sg_ownVotes1 : Nat → Int32) (sg_votes1 : Nat → Int32) (sg_rows1 : Nat → Int32) (sg_groups1 : Int32) (sg_bars1 : Int32) (sg_now1 : Int32) (sg_forced1 : Int32) (sg_barred1 : Int32) (sg_mayActs1 : Nat → Int32) (sg_mayEnds1 : Nat → Int32) (sg_mays1 : Int32) => wp_X8_acts md_thrown md_forms md_formMany md_seats md_now md_barAlways md_noPut p0 (fun (r2 : Int32) (md_thrown1 : Int32) => K r1 r2 sg_ownVotes1 sg_votes1 sg_rows1 sg_groups1 sg_bars1 sg_now1 sg_forced1 sg_barred1 sg_mayActs1 sg_mayEnds1 sg_mays1 md_thrown1)) := by
  unfold wp_X7_acts
  obtain ⟨hRT, ⟨t, G, hLa, s, hs, es, en⟩, hRo, hKe, hBa, hCb⟩ := id hR
  obtain ⟨⟨hP, hH, hT, hG⟩, hSD, hM, hP2, hT2, hD2, hG2⟩ := id hLa
  rcases range_cases p0 16 (by decide) with ⟨set, hset, hp⟩ | hb
  · refine sp_isSet hp hset (y1' ?_)
    unfold wp_X7_listAs
    refine sp_choose hSD hset (bars := 0) (by decide) hp rfl (fun o g ba hSC => ?_)
    refine sp_list hP hH hT hG hs es hSC (fun v r n f b a e m hLS _ => ?_)
    unfold wp_X4_howManyMay
    unfold wp_X8_acts
    refine sp8_noSet hp hset (y0' ?_)
    have main : ∀ q i, i ≤ 20 → 20 < q + i → wpL_X8_acts_19 md_forms md_formMany md_seats md_now md_barAlways md_noPut (fun (r2 : Int32) (md_thrown1 : Int32) => K m r2 o v r g ba n f b a e m md_thrown1) q 0 p0 (nI (mvT t lw_parts G set 0 5 s i).length) (nI i) := by
      intro q
      induction q with
      | zero => intro i h1 h2; omega
      | succ q ih =>
        intro i h1 h2
        rw [wpL_X8_acts_19]
        refine pk_le 20 i (fun h5 => ?_) (fun h5 => ?_)
        · have : i = 20 := by omega
          subst this
          rw [hLS.1]
          exact h _ _ _ _ _ _ _ _ _ _ _ _ _ hR.succ
        · have next := ih (i + 1) (by omega) (by omega)
          rw [mvT_succ, List.length_append] at next
          have hwl := why_lt (t := t) (P := lw_parts) (G := G) (set := set) (bars := 0) (np := 5) (s := s) (k := i)
          refine sp8_whyNot hM hP hT2 hD2 hG (ba0 hBa.1) (np5 hBa.2) hs hset h5 en hp (sp8_act h5) ?_
          refine pk_eq' _ 0 (fun w => ?_) (fun w => ?_)
          · rw [if_neg w] at next
            exact nm_r (by exact nI_add _ 0) (nm_r (nI_1 i) next)
          · rw [if_pos w] at next
            exact nm_r (by exact nI_add _ 1) (nm_r (nI_1 i) next)
    exact ⟨21, main 21 0 (by omega) (by omega)⟩
  · refine sp_isSet_bad hb (y0' ?_)
    unfold wp_X8_acts
    exact sp8_noSet_bad hb (y1' (h _ _ _ _ _ _ _ _ _ _ _ _ _ hR.succ))
