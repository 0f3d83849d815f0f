theorem y1 {A B : Prop} (a : A) : (¬ (1 : Int32) = 0 → A) ∧ ((1 : Int32) = 0 → B) := ⟨fun _ => a, fun z => absurd z (by decide)⟩
theorem y1' {A B : Prop} (a : A) : ((1 : Int32) = 0 → B) ∧ (¬ (1 : Int32) = 0 → A) := ⟨fun z => absurd z (by decide), fun _ => a⟩
theorem y0 {A B : Prop} (b : B) : (¬ (0 : Int32) = 0 → A) ∧ ((0 : Int32) = 0 → B) := ⟨fun z => absurd rfl z, fun _ => b⟩
theorem y0' {A B : Prop} (b : B) : ((0 : Int32) = 0 → B) ∧ (¬ (0 : Int32) = 0 → A) := ⟨fun _ => b, fun z => absurd rfl z⟩
theorem in_yes {x : Int32} {lo hi : Int64} {c : Nat} (hx : x = nI c) (hc : c < 2 ^ 31) (a b : Nat) (hl : lo.toInt = a) (hh : hi.toInt = b) (h1 : a ≤ c) (h2 : c ≤ b) {post : Int32 → Prop} (h : post 1) : wp_X8_in x.toInt64 lo hi post := by
  refine sp8_in (fun _ _ => h) (fun z => ?_)
  rw [i64, hx, nI_toInt hc, hl, hh] at z
  omega
theorem in_no {x : Int32} {lo hi : Int64} (B : Nat) (hB : B < 2 ^ 31) (hx : x < 0 ∨ nI B ≤ x) (a : Nat) (hl : lo.toInt = a) (hh : hi.toInt + 1 = B) {post : Int32 → Prop} (h : post 0) : wp_X8_in x.toInt64 lo hi post := by
  have hx := neg_or hB hx
  refine sp8_in (fun z1 z2 => ?_) (fun _ => h)
  rw [i64] at z1 z2
  rw [hl] at z1
  omega
theorem ntest {A B C : Prop} {x : Int32} {n : Nat} (hx : x < 0 ∨ nI n ≤ x) (a : A) (b : C) : (x < 0 → A) ∧ (¬ x < 0 → (x < nI n → B) ∧ (¬ x < nI n → C)) := by
  refine ⟨fun _ => a, fun q => ⟨fun w => ?_, fun _ => b⟩⟩
  rcases hx with hx | hx
  · exact absurd hx q
  · have h1 := Int32.lt_iff_toInt_lt.mp w
    have h2 := Int32.le_iff_toInt_le.mp hx
    omega
theorem ntest' {A B C : Prop} {x : Int32} {n : Nat} (hx : x < 0 ∨ nI n ≤ x) (a : A) (b : B) : (x < 0 → A) ∧ (¬ x < 0 → (nI n ≤ x → B) ∧ (¬ nI n ≤ x → C)) := by
  refine ⟨fun _ => a, fun q => ⟨fun _ => b, fun w => ?_⟩⟩
  rcases hx with hx | hx
  · exact absurd hx q
  · exact absurd hx w
theorem sim_at {N : Nat} (hN : N < 600) {tx_bytes : Nat → Int32} {tx_length : Int32} {md_text : Nat → Int32} {md_textSize : Int32} {lw_told : Nat → Int32} {lw_parts : Nat → Int32} {lw_hangMasks : Nat → Int32} {lw_hangValues : Nat → Int32} {lw_ownSeats : Nat → Int32} {md_forms : Nat → Int32} {md_formMany : Nat → Int32} {md_seats : Nat → Int32} {sl_state : Int32} {md_now : Int32} {sl_rolled : Int32} {md_rolls : Int32} {sl_rollSets : Nat → Int32} {sl_rollActs : Nat → Int32} {md_rollSet : Nat → Int32} {md_rollAct : Nat → Int32} {sl_kept : Nat → Int32} {md_slots : Nat → Int32} {md_isKept : Nat → Int32} {md_barAlways : Int32} {md_noPut : Int32} {se_cameBy : Nat → Int32} {se_runs : Int32} {md_thrown : Int32} (hR : REL N tx_bytes tx_length md_text md_textSize lw_told lw_parts lw_hangMasks lw_hangValues lw_ownSeats md_forms md_formMany md_seats sl_state md_now sl_rolled md_rolls sl_rollSets sl_rollActs md_rollSet md_rollAct sl_kept md_slots md_isKept md_barAlways md_noPut se_cameBy se_runs) (p0 : Int32) {K : Int32 → Int32 → Int32 → Prop} (h : ∀ (r : Int32) (md_thrown1 : Int32), REL (N + 1) tx_bytes tx_length md_text md_textSize lw_told lw_parts lw_hangMasks lw_hangValues lw_ownSeats md_forms md_formMany md_seats sl_state md_now sl_rolled md_rolls sl_rollSets sl_rollActs md_rollSet md_rollAct sl_kept md_slots md_isKept md_barAlways md_noPut se_cameBy se_runs → K r r md_thrown1) : wp_X7_at sl_state p0 (fun (r1 : Int32)  => wp_X8_at md_thrown md_now p0 (fun (r2 : Int32) (md_thrown1 : Int32) => K r1 r2 md_thrown1)) := by
  unfold wp_X7_at
  obtain ⟨-, ⟨t, G, -, s, hs, es, en⟩, -⟩ := id hR
  rcases range_cases p0 5 (by decide) with ⟨c, hc, hp⟩ | hb
  · refine sp_isClause hp hc (y1' ?_)
    refine sp_X5_formOf es hp (by have := hs.1; omega) hc ?_
    unfold wp_X8_at
    refine sp8_noClause hp hc (y0' ?_)
    exact sp8_formOf en hp hs.1 hc (h _ _ hR.succ)
  · refine sp_isClause_bad hb (y0' ?_)
    unfold wp_X8_at
    exact sp8_noClause_bad hb (y1' (h _ _ hR.succ))
theorem sim_is {N : Nat} (hN : N < 600) {tx_bytes : Nat → Int32} {tx_length : Int32} {md_text : Nat → Int32} {md_textSize : Int32} {lw_told : Nat → Int32} {lw_parts : Nat → Int32} {lw_hangMasks : Nat → Int32} {lw_hangValues : Nat → Int32} {lw_ownSeats : Nat → Int32} {md_forms : Nat → Int32} {md_formMany : Nat → Int32} {md_seats : Nat → Int32} {sl_state : Int32} {md_now : Int32} {sl_rolled : Int32} {md_rolls : Int32} {sl_rollSets : Nat → Int32} {sl_rollActs : Nat → Int32} {md_rollSet : Nat → Int32} {md_rollAct : Nat → Int32} {sl_kept : Nat → Int32} {md_slots : Nat → Int32} {md_isKept : Nat → Int32} {md_barAlways : Int32} {md_noPut : Int32} {se_cameBy : Nat → Int32} {se_runs : Int32} {md_thrown : Int32} (hR : REL N tx_bytes tx_length md_text md_textSize lw_told lw_parts lw_hangMasks lw_hangValues lw_ownSeats md_forms md_formMany md_seats sl_state md_now sl_rolled md_rolls sl_rollSets sl_rollActs md_rollSet md_rollAct sl_kept md_slots md_isKept md_barAlways md_noPut se_cameBy se_runs) (p0 : Int32) {K : Int32 → Int32 → Int32 → Prop} (h : ∀ (r : Int32) (md_thrown1 : Int32), REL (N + 1) tx_bytes tx_length md_text md_textSize lw_told lw_parts lw_hangMasks lw_hangValues lw_ownSeats md_forms md_formMany md_seats sl_state md_now sl_rolled md_rolls sl_rollSets sl_rollActs md_rollSet md_rollAct sl_kept md_slots md_isKept md_barAlways md_noPut se_cameBy se_runs → K r r md_thrown1) : wp_X7_is sl_state p0 (fun (r1 : Int32)  => wp_X8_is md_thrown md_now p0 (fun (r2 : Int32) (md_thrown1 : Int32) => K r1 r2 md_thrown1)) := by
  unfold wp_X7_is
  obtain ⟨-, ⟨t, G, -, s, hs, es, en⟩, -⟩ := id hR
  rcases goal_cases p0 with ⟨g, hg, hp⟩ | hb
  · refine sp_goalExists hp hg (y1 ?_)
    refine sp_isSo hp es hg hs.1 ?_
    unfold wp_X8_is
    have m8 : ∀ b : Bool, soN g s = b → wp_X8_noGoal p0 (fun (r_1 : Int32) => (r_1 = 0 → wp_X8_isSo md_now p0 (fun (r_3 : Int32) => (r_3 = 0 → K (nI b.toNat) 0 0) ∧ (¬ r_3 = 0 → K (nI b.toNat) 1 0))) ∧ (¬ r_1 = 0 → K (nI b.toNat) (-2) 0)) := by
      intro b hb
      refine sp8_noGoal hp hg (y0' ?_)
      refine sp8_isSo en hp hs.1 hg ?_
      rw [hb]
      cases b
      · exact y0' (h _ _ hR.succ)
      · exact y1' (h _ _ hR.succ)
    exact nbool rfl (fun hb => m8 false hb) (fun hb => m8 true hb)
  · refine sp_goalExists_bad hb (y0 ?_)
    unfold wp_X8_is
    exact sp8_noGoal_bad hb (y1' (h _ _ hR.succ))
theorem sim_force {N : Nat} (hN : N < 600) {tx_bytes : Nat → Int32} {tx_length : Int32} {md_text : Nat → Int32} {md_textSize : Int32} {lw_told : Nat → Int32} {lw_parts : Nat → Int32} {lw_hangMasks : Nat → Int32} {lw_hangValues : Nat → Int32} {lw_ownSeats : Nat → Int32} {md_forms : Nat → Int32} {md_formMany : Nat → Int32} {md_seats : Nat → Int32} {sl_state : Int32} {md_now : Int32} {sl_rolled : Int32} {md_rolls : Int32} {sl_rollSets : Nat → Int32} {sl_rollActs : Nat → Int32} {md_rollSet : Nat → Int32} {md_rollAct : Nat → Int32} {sl_kept : Nat → Int32} {md_slots : Nat → Int32} {md_isKept : Nat → Int32} {md_barAlways : Int32} {md_noPut : Int32} {se_cameBy : Nat → Int32} {se_runs : Int32} {md_thrown : Int32} (hR : REL N tx_bytes tx_length md_text md_textSize lw_told lw_parts lw_hangMasks lw_hangValues lw_ownSeats md_forms md_formMany md_seats sl_state md_now sl_rolled md_rolls sl_rollSets sl_rollActs md_rollSet md_rollAct sl_kept md_slots md_isKept md_barAlways md_noPut se_cameBy se_runs) (p0 : Int32) {K : Int32 → Int32 → Int32 → Prop} (h : ∀ (r : Int32) (md_thrown1 : Int32), REL (N + 1) tx_bytes tx_length md_text md_textSize lw_told lw_parts lw_hangMasks lw_hangValues lw_ownSeats md_forms md_formMany md_seats sl_state md_now sl_rolled md_rolls sl_rollSets sl_rollActs md_rollSet md_rollAct sl_kept md_slots md_isKept md_barAlways md_noPut se_cameBy se_runs → K r r md_thrown1) : wp_X7_force sl_state lw_hangMasks lw_hangValues p0 (fun (r1 : Int32)  => wp_X8_force md_thrown md_forms md_now p0 (fun (r2 : Int32) (md_thrown1 : Int32) => K r1 r2 md_thrown1)) := by
  unfold wp_X7_force
  obtain ⟨-, ⟨t, G, ⟨⟨hP, hH, hT, hG⟩, hSD, hM, -⟩, s, hs, es, en⟩, -⟩ := id hR
  rcases range_cases p0 5 (by decide) with ⟨c, hc, hp⟩ | hb
  · refine sp_isClause hp hc (y1 ?_)
    refine sp_inForce hH hP.1 es hp hs hc ?_
    unfold wp_X8_force
    have m8 : ∀ b : Bool, frc lw_parts s c = b → wp_X8_noClause p0 (fun (r_1 : Int32) => (r_1 = 0 → wp_X8_isForce md_forms md_now p0 (fun (r_3 : Int32) => (r_3 = 0 → K (nI b.toNat) 0 0) ∧ (¬ r_3 = 0 → K (nI b.toNat) 1 0))) ∧ (¬ r_1 = 0 → K (nI b.toNat) (-1) 0)) := by
      intro b hb
      refine sp8_noClause hp hc (y0' ?_)
      refine sp8_isForce hM hP en hp hs hc ?_
      rw [hb]
      cases b
      · exact y0' (h _ _ hR.succ)
      · exact y1' (h _ _ hR.succ)
    exact nbool rfl (fun hb => m8 false hb) (fun hb => m8 true hb)
  · refine sp_isClause_bad hb (y0 ?_)
    unfold wp_X8_force
    exact sp8_noClause_bad hb (y1' (h _ _ hR.succ))
theorem sim_thing {N : Nat} (hN : N < 600) {tx_bytes : Nat → Int32} {tx_length : Int32} {md_text : Nat → Int32} {md_textSize : Int32} {lw_told : Nat → Int32} {lw_parts : Nat → Int32} {lw_hangMasks : Nat → Int32} {lw_hangValues : Nat → Int32} {lw_ownSeats : Nat → Int32} {md_forms : Nat → Int32} {md_formMany : Nat → Int32} {md_seats : Nat → Int32} {sl_state : Int32} {md_now : Int32} {sl_rolled : Int32} {md_rolls : Int32} {sl_rollSets : Nat → Int32} {sl_rollActs : Nat → Int32} {md_rollSet : Nat → Int32} {md_rollAct : Nat → Int32} {sl_kept : Nat → Int32} {md_slots : Nat → Int32} {md_isKept : Nat → Int32} {md_barAlways : Int32} {md_noPut : Int32} {se_cameBy : Nat → Int32} {se_runs : Int32} {md_thrown : Int32} (hR : REL N tx_bytes tx_length md_text md_textSize lw_told lw_parts lw_hangMasks lw_hangValues lw_ownSeats md_forms md_formMany md_seats sl_state md_now sl_rolled md_rolls sl_rollSets sl_rollActs md_rollSet md_rollAct sl_kept md_slots md_isKept md_barAlways md_noPut se_cameBy se_runs) (p0 : Int32) (p1 : Int32) {K : Int32 → Int32 → Int32 → Int32 → Int32 → Prop} (h : ∀ (r : Int32) (sl_state1 : Int32) (md_thrown1 : Int32) (md_now1 : Int32), REL (N + 1) tx_bytes tx_length md_text md_textSize lw_told lw_parts lw_hangMasks lw_hangValues lw_ownSeats md_forms md_formMany md_seats sl_state1 md_now1 sl_rolled md_rolls sl_rollSets sl_rollActs md_rollSet md_rollAct sl_kept md_slots md_isKept md_barAlways md_noPut se_cameBy se_runs → K r r sl_state1 md_thrown1 md_now1) : wp_X7_thing sl_state p0 p1 (fun (r1 : Int32) (sl_state1 : Int32) => wp_X8_thing md_thrown md_now p0 p1 (fun (r2 : Int32) (md_thrown1 : Int32) (md_now1 : Int32) => K r1 r2 sl_state1 md_thrown1 md_now1)) := by
  unfold wp_X7_thing
  obtain ⟨hRT, ⟨t, G, hLa, s, hs, es, en⟩, hRo, hKe, hBa, hCb⟩ := id hR
  rcases range_cases p0 4 (by decide) with ⟨c, hc, hp⟩ | hb
  · have new : ∀ b, b < 2 → REL (N + 1) tx_bytes tx_length md_text md_textSize lw_told lw_parts lw_hangMasks lw_hangValues lw_ownSeats md_forms md_formMany md_seats (nI (mk s c b)) (nI (ph (mk s c b))) sl_rolled md_rolls sl_rollSets sl_rollActs md_rollSet md_rollAct sl_kept md_slots md_isKept md_barAlways md_noPut se_cameBy se_runs := fun b hb2 =>
      ⟨hRT, ⟨t, G, hLa, _, ⟨mk_lt hs.1 hc hb2, fun x hx => by rw [fo_mk hs.1 hc hb2 hx]; exact hs.2 x hx⟩, rfl, rfl⟩, hRo, hKe, hBa, hCb.succ⟩
    refine pk_lt c 0 (fun z => by omega) (fun _ => pk_lt c 4 (fun _ => ?_) (fun z => by omega) hp) hp
    unfold wp_X5_thingOf
    rw [es, hp, w_thingOf (by have := hs.1; omega) hc]
    have m8 : ∀ x : Int32, (p1 = 0 ∧ x = nI (mk s c 0)) ∨ (¬ p1 = 0 ∧ x = nI (mk s c 1)) → wp_X8_thing md_thrown md_now (nI c) p1 (fun (r2 : Int32) (md_thrown1 : Int32) (md_now1 : Int32) => K (nI (th s c)) r2 x md_thrown1 md_now1) := by
      intro x hx
      unfold wp_X8_thing
      refine in_yes rfl (by omega) 0 3 (by decide) (by decide) (by omega) (by omega) (y1 ?_)
      rw [en, w8_thing hs.1 hc]
      unfold wp_X8_turned
      refine nm_e ⟨fun q => ?_, fun q => ?_⟩
      · rcases hx with ⟨-, rfl⟩ | ⟨w, -⟩
        · have e := w8_turned hs.1 hc (f := 0) (by decide)
          exact e ▸ h _ _ _ _ (new 0 (by decide))
        · exact absurd q w
      · rcases hx with ⟨w, -⟩ | ⟨-, rfl⟩
        · exact absurd w q
        · have e := w8_turned hs.1 hc (f := 1) (by decide)
          exact e ▸ h _ _ _ _ (new 1 (by decide))
    refine ⟨fun q => ?_, fun q => ?_⟩
    · exact sp_X5_make rfl rfl (b := 0) rfl hs.1 hc (by decide) (m8 _ (Or.inl ⟨q, rfl⟩))
    · exact sp_X5_make rfl rfl (b := 1) rfl hs.1 hc (by decide) (m8 _ (Or.inr ⟨q, rfl⟩))
  · have m8 : wp_X8_thing md_thrown md_now p0 p1 (fun (r2 : Int32) (md_thrown1 : Int32) (md_now1 : Int32) => K (-1) r2 sl_state md_thrown1 md_now1) := by
      unfold wp_X8_thing
      exact in_no 4 (by decide) hb 0 (by decide) (by decide) (y0 (h _ _ _ _ hR.succ))
    exact ntest hb m8 m8
