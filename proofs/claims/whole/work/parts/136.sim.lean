theorem sim_remedy {N : Nat} (hN : N < 600) {tx_bytes : Nat → Int32} {tx_length : Int32} {md_text : Nat → Int32} {md_textSize : Int32} {lw_told : Nat → Int32} {lw_parts : Nat → Int32} {lw_hangMasks : Nat → Int32} {lw_hangValues : Nat → Int32} {lw_ownSeats : Nat → Int32} {md_forms : Nat → Int32} {md_formMany : Nat → Int32} {md_seats : Nat → Int32} {sl_state : Int32} {md_now : Int32} {sl_rolled : Int32} {md_rolls : Int32} {sl_rollSets : Nat → Int32} {sl_rollActs : Nat → Int32} {md_rollSet : Nat → Int32} {md_rollAct : Nat → Int32} {sl_kept : Nat → Int32} {md_slots : Nat → Int32} {md_isKept : Nat → Int32} {md_barAlways : Int32} {md_noPut : Int32} {se_cameBy : Nat → Int32} {se_runs : Int32} {se_order : Nat → Int32} {se_from : Nat → Int32} {se_length : Int32} {sg_ownVotes : Nat → Int32} {sg_votes : Nat → Int32} {sg_rows : Nat → Int32} {sg_groups : Int32} {sg_bars : Int32} {sg_now : Int32} {sg_forced : Int32} {sg_barred : Int32} {sg_mayActs : Nat → Int32} {sg_mayEnds : Nat → Int32} {sg_mays : Int32} {md_thrown : Int32} {md_far : Nat → Int32} {md_queue : Nat → Int32} {md_from : Nat → Int32} {md_by : Nat → Int32} {md_many : Int32} (hR : REL N tx_bytes tx_length md_text md_textSize lw_told lw_parts lw_hangMasks lw_hangValues lw_ownSeats md_forms md_formMany md_seats sl_state md_now sl_rolled md_rolls sl_rollSets sl_rollActs md_rollSet md_rollAct sl_kept md_slots md_isKept md_barAlways md_noPut se_cameBy se_runs) (p0 : Int32) (p1 : Int32) {K : Int32 → Int32 → (Nat → Int32) → (Nat → Int32) → (Nat → Int32) → Int32 → Int32 → (Nat → Int32) → (Nat → Int32) → (Nat → Int32) → Int32 → Int32 → Int32 → Int32 → Int32 → (Nat → Int32) → (Nat → Int32) → Int32 → Int32 → Int32 → (Nat → Int32) → (Nat → Int32) → (Nat → Int32) → (Nat → Int32) → Int32 → Prop} (h : ∀ (r : Int32) (se_order1 : Nat → Int32) (se_from1 : Nat → Int32) (se_cameBy1 : Nat → Int32) (se_runs1 : Int32) (se_length1 : Int32) (sg_ownVotes1 : Nat → Int32) (sg_votes1 : Nat → Int32) (sg_rows1 : Nat → Int32) (sg_groups1 : Int32) (sg_bars1 : Int32) (sg_now1 : Int32) (sg_forced1 : Int32) (sg_barred1 : Int32) (sg_mayActs1 : Nat → Int32) (sg_mayEnds1 : Nat → Int32) (sg_mays1 : Int32) (md_thrown1 : Int32) (md_barAlways1 : Int32) (md_far1 : Nat → Int32) (md_queue1 : Nat → Int32) (md_from1 : Nat → Int32) (md_by1 : Nat → Int32) (md_many1 : Int32), REL (N + 1) tx_bytes tx_length md_text md_textSize lw_told lw_parts lw_hangMasks lw_hangValues lw_ownSeats md_forms md_formMany md_seats sl_state md_now sl_rolled md_rolls sl_rollSets sl_rollActs md_rollSet md_rollAct sl_kept md_slots md_isKept md_barAlways1 md_noPut se_cameBy1 se_runs1 → K r r se_order1 se_from1 se_cameBy1 se_runs1 se_length1 sg_ownVotes1 sg_votes1 sg_rows1 sg_groups1 sg_bars1 sg_now1 sg_forced1 sg_barred1 sg_mayActs1 sg_mayEnds1 sg_mays1 md_thrown1 md_barAlways1 md_far1 md_queue1 md_from1 md_by1 md_many1) : wp_X7_remedy sl_state se_order se_from se_cameBy se_runs se_length sg_ownVotes sg_votes sg_rows sg_groups sg_bars sg_now sg_forced sg_barred sg_mayActs sg_mayEnds sg_mays lw_told lw_parts lw_hangMasks lw_hangValues lw_ownSeats p0 p1 (fun (r1 : Int32) (se_order1 : Nat → Int32) (se_from1 : Nat → Int32) (se_cameBy1 : Nat → Int32) (se_runs1 : Int32) (se_length1 : Int32) (sg_ownVotes1 : Nat → Int32) (sg_votes1 : Nat → Int32) (sg_rows1 : Nat → Int32) (sg_groups1 : Int32) (sg_bars1 : Int32) (sg_now1 : Int32) (sg_forced1 : Int32) (sg_barred1 : Int32) (sg_mayActs1 : Nat → Int32) (sg_mayEnds1 : Nat → Int32) (sg_mays1 : Int32) => wp_X8_remedy md_thrown md_forms md_formMany md_seats md_now md_barAlways md_noPut md_far md_queue md_from md_by md_many p0 p1 (fun (r2 : Int32) (md_thrown1 : Int32) (md_barAlways1 : Int32) (md_far1 : Nat → Int32) (md_queue1 : Nat → Int32) (md_from1 : Nat → Int32) (md_by1 : Nat → Int32) (md_many1 : Int32) => K r1 r2 se_order1 se_from1 se_cameBy1 se_runs1 se_length1 sg_ownVotes1 sg_votes1 sg_rows1 sg_groups1 sg_bars1 sg_now1 sg_forced1 sg_barred1 sg_mayActs1 sg_mayEnds1 sg_mays1 md_thrown1 md_barAlways1 md_far1 md_queue1 md_from1 md_by1 md_many1)) := by
  unfold wp_X7_remedy
  obtain ⟨hRT, ⟨t, G, hLa, s, hs, es, en⟩, hRo, hKe, hBa, R, hRN, hCB⟩ := id hR
  obtain ⟨hLW, hSD, hML⟩ := id hLa
  rcases range_cases p0 16 (by decide) with ⟨set, hset, hp⟩ | hb
  · refine sp_isSet hp hset (y1' ?_)
    rcases goal_cases p1 with ⟨g, hg, hp1⟩ | hb1
    · refine sp_goalExists hp1 hg (y1 ?_)
      -- the reference
      have m8 : ∀ (ans : Int32) (R2 : Nat) o f c r l ov v rr gr ba n fz b a e m, R2 ≤ R + 5 → CB c r R2 → (∀ x, x < 5 → holdB t lw_parts G set (2 ^ x) 5 s g = true → (∀ y, y < x → holdB t lw_parts G set (2 ^ y) 5 s g = false) → ans = nI x) → ((∀ x, x < 5 → holdB t lw_parts G set (2 ^ x) 5 s g = false) → ans = -9) → wp_X8_remedy md_thrown md_forms md_formMany md_seats md_now md_barAlways md_noPut md_far md_queue md_from md_by md_many p0 p1 (fun (r2 : Int32) (md_thrown1 : Int32) (md_barAlways1 : Int32) (md_far1 : Nat → Int32) (md_queue1 : Nat → Int32) (md_from1 : Nat → Int32) (md_by1 : Nat → Int32) (md_many1 : Int32) => K ans r2 o f c r l ov v rr gr ba n fz b a e m md_thrown1 md_barAlways1 md_far1 md_queue1 md_from1 md_by1 md_many1) := by
        intro ans R2 o f c r l ov v rr gr ba n fz b a e m hR2 hCB2 hyes hno
        have hR3 : REL (N + 1) tx_bytes tx_length md_text md_textSize lw_told lw_parts lw_hangMasks lw_hangValues lw_ownSeats md_forms md_formMany md_seats sl_state md_now sl_rolled md_rolls sl_rollSets sl_rollActs md_rollSet md_rollAct sl_kept md_slots md_isKept (-9) md_noPut c r := ⟨hRT, ⟨t, G, hLa, s, hs, es, en⟩, hRo, hKe, ⟨rfl, hBa.2⟩, R2, by omega, hCB2⟩
        unfold wp_X8_remedy
        refine sp8_noSet hp hset (y0 ?_)
        refine sp8_noGoal hp1 hg (y0' ?_)
        have main : ∀ q i, i ≤ 5 → 5 < q + i → (∀ x, x < i → holdB t lw_parts G set (2 ^ x) 5 s g = false) → ∀ ba8 fa8 q8 f8 b8 m8, wpL_X8_remedy_28 md_forms md_formMany md_seats md_now md_noPut (fun (r2 : Int32) (md_thrown1 : Int32) (md_barAlways1 : Int32) (md_far1 : Nat → Int32) (md_queue1 : Nat → Int32) (md_from1 : Nat → Int32) (md_by1 : Nat → Int32) (md_many1 : Int32) => K ans r2 o f c r l ov v rr gr ba n fz b a e m md_thrown1 md_barAlways1 md_far1 md_queue1 md_from1 md_by1 md_many1) q 0 ba8 fa8 q8 f8 b8 m8 p0 p1 (-9) (nI i) := by
          intro q
          induction q with
          | zero => intro i h1 h2; omega
          | succ q ih =>
            intro i h1 h2 hn ba8 fa8 q8 f8 b8 m8
            rw [wpL_X8_remedy_28]
            refine pk_le 5 i (fun h5 => ?_) (fun h5 => ?_)
            · rw [hno (fun x hx => hn x (by omega))]
              exact h _ _ _ _ _ _ _ _ _ _ _ _ _ _ _ _ _ _ _ _ _ _ _ _ hR3
            · refine ⟨fun z => absurd rfl z, fun _ => ?_⟩
              refine sp8_holds hML (Or.inr ⟨i, h5, rfl, rfl⟩) (np5 hBa.2) hs en hset hp hg hp1 ?_
              intro fa q2 fr b2 m2
              refine nbool rfl (fun hb => nm_r (nI_1 i) (ih (i + 1) (by omega) (by omega) (fun x hx => ?_) _ _ _ _ _ _)) (fun hb => nm_r (nI_1 i) ?_)
              · by_cases w : x = i
                · subst w; exact hb
                · exact hn x (by omega)
              · cases q with
                | zero => omega
                | succ q =>
                  rw [wpL_X8_remedy_28]
                  have hans := hyes i h5 hb hn
                  rw [hans]
                  refine pk_le 5 (i + 1) (fun _ => h _ _ _ _ _ _ _ _ _ _ _ _ _ _ _ _ _ _ _ _ _ _ _ _ hR3) (fun h6 => ⟨fun _ => h _ _ _ _ _ _ _ _ _ _ _ _ _ _ _ _ _ _ _ _ _ _ _ _ hR3, fun z => absurd z (neg9 (by omega))⟩)
        exact ⟨6, main 6 0 (by omega) (by omega) (fun x hx => absurd hx (Nat.not_lt_zero x)) _ _ _ _ _ _⟩
      have main : ∀ q i, i ≤ 5 → 5 < q + i → (∀ x, x < i → holdB t lw_parts G set (2 ^ x) 5 s g = false) → ∀ o f c r l ov v rr gr ba n fz b a e m, CB c r (R + i) → wpL_X7_remedy_19 sl_state lw_told lw_parts lw_hangMasks lw_hangValues lw_ownSeats (fun (r1 : Int32) (se_order1 : Nat → Int32) (se_from1 : Nat → Int32) (se_cameBy1 : Nat → Int32) (se_runs1 : Int32) (se_length1 : Int32) (sg_ownVotes1 : Nat → Int32) (sg_votes1 : Nat → Int32) (sg_rows1 : Nat → Int32) (sg_groups1 : Int32) (sg_bars1 : Int32) (sg_now1 : Int32) (sg_forced1 : Int32) (sg_barred1 : Int32) (sg_mayActs1 : Nat → Int32) (sg_mayEnds1 : Nat → Int32) (sg_mays1 : Int32) => wp_X8_remedy md_thrown md_forms md_formMany md_seats md_now md_barAlways md_noPut md_far md_queue md_from md_by md_many p0 p1 (fun (r2 : Int32) (md_thrown1 : Int32) (md_barAlways1 : Int32) (md_far1 : Nat → Int32) (md_queue1 : Nat → Int32) (md_from1 : Nat → Int32) (md_by1 : Nat → Int32) (md_many1 : Int32) => K r1 r2 se_order1 se_from1 se_cameBy1 se_runs1 se_length1 sg_ownVotes1 sg_votes1 sg_rows1 sg_groups1 sg_bars1 sg_now1 sg_forced1 sg_barred1 sg_mayActs1 sg_mayEnds1 sg_mays1 md_thrown1 md_barAlways1 md_far1 md_queue1 md_from1 md_by1 md_many1)) q o f c r l ov v rr gr ba n fz b a e m p0 p1 (nI i) := by
        intro q
        induction q with
        | zero => intro i h1 h2; omega
        | succ q ih =>
          intro i h1 h2 hn o f c r l ov v rr gr ba n fz b a e m hC
          rw [wpL_X7_remedy_19]
          refine pk_le 5 i (fun h5 => ?_) (fun h5 => ?_)
          · exact m8 _ _ _ _ _ _ _ _ _ _ _ _ _ _ _ _ _ _ (by omega) hC (fun x hx hb _ => by rw [hn x (by omega)] at hb; exact absurd hb (by decide)) (fun _ => rfl)
          · have h32 : 2 ^ i < 32 := by rcases lt5 h5 with rfl | rfl | rfl | rfl | rfl <;> decide
            refine sp_holdsFrom hLW hSD hC (by omega) hs es hset hp hg hp1 h32 (w_shl h5) ?_
            intro o2 f2 c2 r2 l2 ov2 v2 rr2 gr2 ba2 n2 fo2 b2 a2 e2 m2 hC2
            refine nbool rfl (fun hb => nm_r (nI_1 i) (ih (i + 1) (by omega) (by omega) (fun x hx => ?_) _ _ _ _ _ _ _ _ _ _ _ _ _ _ _ _ hC2)) (fun hb => ?_)
            · by_cases w : x = i
              · subst w; exact hb
              · exact hn x (by omega)
            · refine m8 _ _ _ _ _ _ _ _ _ _ _ _ _ _ _ _ _ _ (by omega) hC2 (fun x hx hbx hyx => ?_) (fun hall => ?_)
              · rcases Nat.lt_trichotomy x i with w | w | w
                · rw [hn x w] at hbx; exact absurd hbx (by decide)
                · rw [w]
                · rw [hyx i w] at hb; exact absurd hb (by decide)
              · rw [hall i h5] at hb; exact absurd hb (by decide)
      exact ⟨6, main 6 0 (by omega) (by omega) (fun x hx => absurd hx (Nat.not_lt_zero x)) _ _ _ _ _ _ _ _ _ _ _ _ _ _ _ _ hCB⟩
    · refine sp_goalExists_bad hb1 (y0 ?_)
      unfold wp_X8_remedy
      refine sp8_noSet hp hset (y0 ?_)
      exact sp8_noGoal_bad hb1 (y1' (h _ _ _ _ _ _ _ _ _ _ _ _ _ _ _ _ _ _ _ _ _ _ _ _ hR.succ))
  · refine sp_isSet_bad hb (y0' ?_)
    unfold wp_X8_remedy
    exact sp8_noSet_bad hb (y1 (h _ _ _ _ _ _ _ _ _ _ _ _ _ _ _ _ _ _ _ _ _ _ _ _ hR.succ))
/-- the clauses that a goal hangs on, as bits -/
def hgN (t : Nat → Nat) (P : Nat → Int32) (G : Nat → Nat) (set s g : Nat) : Nat → Int32
  | 0 => 0
  | c + 1 => if fo s c ≠ 0 ∧ holdB t P G set 0 5 (pu s c 0) g = false then hgN t P G set s g c ||| ((1 : Int32) <<< (nI c &&& 31)) else hgN t P G set s g c
theorem SV.struck {t : Nat → Nat} {s c : Nat} (hs : SV t s) (hc : c < 5) : SV t (pu s c 0) := by
  refine ⟨pu_lt hs.1 hc (by decide), fun x hx => ?_⟩
  rw [fo_pu hs.1 hc (by decide) hx]
  split
  · exact Nat.zero_le _
  · exact hs.2 x hx
theorem sim_hangs {N : Nat} (hN : N < 600) {tx_bytes : Nat → Int32} {tx_length : Int32} {md_text : Nat → Int32} {md_textSize : Int32} {lw_told : Nat → Int32} {lw_parts : Nat → Int32} {lw_hangMasks : Nat → Int32} {lw_hangValues : Nat → Int32} {lw_ownSeats : Nat → Int32} {md_forms : Nat → Int32} {md_formMany : Nat → Int32} {md_seats : Nat → Int32} {sl_state : Int32} {md_now : Int32} {sl_rolled : Int32} {md_rolls : Int32} {sl_rollSets : Nat → Int32} {sl_rollActs : Nat → Int32} {md_rollSet : Nat → Int32} {md_rollAct : Nat → Int32} {sl_kept : Nat → Int32} {md_slots : Nat → Int32} {md_isKept : Nat → Int32} {md_barAlways : Int32} {md_noPut : Int32} {se_cameBy : Nat → Int32} {se_runs : Int32} {se_order : Nat → Int32} {se_from : Nat → Int32} {se_length : Int32} {sg_ownVotes : Nat → Int32} {sg_votes : Nat → Int32} {sg_rows : Nat → Int32} {sg_groups : Int32} {sg_bars : Int32} {sg_now : Int32} {sg_forced : Int32} {sg_barred : Int32} {sg_mayActs : Nat → Int32} {sg_mayEnds : Nat → Int32} {sg_mays : Int32} {md_thrown : Int32} {md_far : Nat → Int32} {md_queue : Nat → Int32} {md_from : Nat → Int32} {md_by : Nat → Int32} {md_many : Int32} (hR : REL N tx_bytes tx_length md_text md_textSize lw_told lw_parts lw_hangMasks lw_hangValues lw_ownSeats md_forms md_formMany md_seats sl_state md_now sl_rolled md_rolls sl_rollSets sl_rollActs md_rollSet md_rollAct sl_kept md_slots md_isKept md_barAlways md_noPut se_cameBy se_runs) (p0 : Int32) (p1 : Int32) {K : Int32 → Int32 → (Nat → Int32) → (Nat → Int32) → (Nat → Int32) → Int32 → Int32 → (Nat → Int32) → (Nat → Int32) → (Nat → Int32) → Int32 → Int32 → Int32 → Int32 → Int32 → (Nat → Int32) → (Nat → Int32) → Int32 → Int32 → (Nat → Int32) → (Nat → Int32) → (Nat → Int32) → (Nat → Int32) → Int32 → Prop} (h : ∀ (r : Int32) (se_order1 : Nat → Int32) (se_from1 : Nat → Int32) (se_cameBy1 : Nat → Int32) (se_runs1 : Int32) (se_length1 : Int32) (sg_ownVotes1 : Nat → Int32) (sg_votes1 : Nat → Int32) (sg_rows1 : Nat → Int32) (sg_groups1 : Int32) (sg_bars1 : Int32) (sg_now1 : Int32) (sg_forced1 : Int32) (sg_barred1 : Int32) (sg_mayActs1 : Nat → Int32) (sg_mayEnds1 : Nat → Int32) (sg_mays1 : Int32) (md_thrown1 : Int32) (md_far1 : Nat → Int32) (md_queue1 : Nat → Int32) (md_from1 : Nat → Int32) (md_by1 : Nat → Int32) (md_many1 : Int32), REL (N + 1) tx_bytes tx_length md_text md_textSize lw_told lw_parts lw_hangMasks lw_hangValues lw_ownSeats md_forms md_formMany md_seats sl_state md_now sl_rolled md_rolls sl_rollSets sl_rollActs md_rollSet md_rollAct sl_kept md_slots md_isKept md_barAlways md_noPut se_cameBy1 se_runs1 → K r r se_order1 se_from1 se_cameBy1 se_runs1 se_length1 sg_ownVotes1 sg_votes1 sg_rows1 sg_groups1 sg_bars1 sg_now1 sg_forced1 sg_barred1 sg_mayActs1 sg_mayEnds1 sg_mays1 md_thrown1 md_far1 md_queue1 md_from1 md_by1 md_many1) : wp_X7_hangs sl_state se_order se_from se_cameBy se_runs se_length sg_ownVotes sg_votes sg_rows sg_groups sg_bars sg_now sg_forced sg_barred sg_mayActs sg_mayEnds sg_mays lw_told lw_parts lw_hangMasks lw_hangValues lw_ownSeats p0 p1 (fun (r1 : Int32) (se_order1 : Nat → Int32) (se_from1 : Nat → Int32) (se_cameBy1 : Nat → Int32) (se_runs1 : Int32) (se_length1 : Int32) (sg_ownVotes1 : Nat → Int32) (sg_votes1 : Nat → Int32) (sg_rows1 : Nat → Int32) (sg_groups1 : Int32) (sg_bars1 : Int32) (sg_now1 : Int32) (sg_forced1 : Int32) (sg_barred1 : Int32) (sg_mayActs1 : Nat → Int32) (sg_mayEnds1 : Nat → Int32) (sg_mays1 : Int32) => wp_X8_hangs md_thrown md_forms md_formMany md_seats md_now md_barAlways md_noPut md_far md_queue md_from md_by md_many p0 p1 (fun (r2 : Int32) (md_thrown1 : Int32) (md_far1 : Nat → Int32) (md_queue1 : Nat → Int32) (md_from1 : Nat → Int32) (md_by1 : Nat → Int32) (md_many1 : Int32) => K r1 r2 se_order1 se_from1 se_cameBy1 se_runs1 se_length1 sg_ownVotes1 sg_votes1 sg_rows1 sg_groups1 sg_bars1 sg_now1 sg_forced1 sg_barred1 sg_mayActs1 sg_mayEnds1 sg_mays1 md_thrown1 md_far1 md_queue1 md_from1 md_by1 md_many1)) := by
  unfold wp_X7_hangs
  obtain ⟨hRT, ⟨t, G, hLa, s, hs, es, en⟩, hRo, hKe, hBa, R, hRN, hCB⟩ := id hR
  obtain ⟨hLW, hSD, hML⟩ := id hLa
  have hs1 := hs.1
  rcases range_cases p0 16 (by decide) with ⟨set, hset, hp⟩ | hb
  · refine sp_isSet hp hset (y1' ?_)
    rcases goal_cases p1 with ⟨g, hg, hp1⟩ | hb1
    · refine sp_goalExists hp1 hg (y1 ?_)
      have m8 : ∀ (ans : Int32) (R2 : Nat) o f c r l ov v rr gr ba n fz b a e m, R2 ≤ R + 6 → CB c r R2 → ans = (if holdB t lw_parts G set 0 5 s g = true then hgN t lw_parts G set s g 5 else -9) → wp_X8_hangs md_thrown md_forms md_formMany md_seats md_now md_barAlways md_noPut md_far md_queue md_from md_by md_many p0 p1 (fun (r2 : Int32) (md_thrown1 : Int32) (md_far1 : Nat → Int32) (md_queue1 : Nat → Int32) (md_from1 : Nat → Int32) (md_by1 : Nat → Int32) (md_many1 : Int32) => K ans r2 o f c r l ov v rr gr ba n fz b a e m md_thrown1 md_far1 md_queue1 md_from1 md_by1 md_many1) := by
        intro ans R2 o f c r l ov v rr gr ba n fz b a e m hR2 hCB2 hans
        have hR3 : REL (N + 1) tx_bytes tx_length md_text md_textSize lw_told lw_parts lw_hangMasks lw_hangValues lw_ownSeats md_forms md_formMany md_seats sl_state md_now sl_rolled md_rolls sl_rollSets sl_rollActs md_rollSet md_rollAct sl_kept md_slots md_isKept md_barAlways md_noPut c r := ⟨hRT, ⟨t, G, hLa, s, hs, es, en⟩, hRo, hKe, hBa, R2, by omega, hCB2⟩
        unfold wp_X8_hangs
        refine sp8_noSet hp hset (y0 ?_)
        refine sp8_noGoal hp1 hg (y0' ?_)
        refine sp8_holds hML (ba0 hBa.1) (np5 hBa.2) hs en hset hp hg hp1 ?_
        intro fa q2 fr b2 m2
        have main : holdB t lw_parts G set 0 5 s g = true → ∀ q i, i ≤ 5 → 5 < q + i → ∀ fa8 q8 f8 b8 m8, wpL_X8_hangs_43 md_forms md_formMany md_seats md_now md_barAlways md_noPut (fun (r2 : Int32) (md_thrown1 : Int32) (md_far1 : Nat → Int32) (md_queue1 : Nat → Int32) (md_from1 : Nat → Int32) (md_by1 : Nat → Int32) (md_many1 : Int32) => K ans r2 o f c r l ov v rr gr ba n fz b a e m md_thrown1 md_far1 md_queue1 md_from1 md_by1 md_many1) q 0 fa8 q8 f8 b8 m8 p0 p1 (hgN t lw_parts G set s g i) (nI i) := by
          intro hh q
          induction q with
          | zero => intro i h1 h2; omega
          | succ q ih =>
            intro i h1 h2 fa8 q8 f8 b8 m8
            rw [wpL_X8_hangs_43]
            refine pk_le 5 i (fun h5 => ?_) (fun h5 => ?_)
            · have : i = 5 := by omega
              subst this
              rw [if_pos hh] at hans
              rw [← hans]
              exact h _ _ _ _ _ _ _ _ _ _ _ _ _ _ _ _ _ _ _ _ _ _ _ hR3
            · have next := ih (i + 1) (by omega) (by omega)
              have ex : hgN t lw_parts G set s g (i + 1) = if fo s i ≠ 0 ∧ holdB t lw_parts G set 0 5 (pu s i 0) g = false then hgN t lw_parts G set s g i ||| ((1 : Int32) <<< (nI i &&& 31)) else hgN t lw_parts G set s g i := rfl
              rw [ex] at next
              refine sp8_formOf en rfl hs1 h5 ?_
              have hf4 := fo_lt s i
              refine pk_le (fo s i) 0 (fun w => ?_) (fun w => ?_)
              · rw [if_neg (fun z => z.1 (by omega))] at next
                exact nm_r (nI_1 i) (next _ _ _ _ _)
              · unfold wp_X8_put
                have e8 : (nI (ph s) &&& (((3 : Int32) <<< (((4 : Int32) + ((2 : Int32) * nI i)) &&& 31)) ^^^ (-1 : Int32))) ||| ((0 : Int32) <<< (((4 : Int32) + ((2 : Int32) * nI i)) &&& 31)) = nI (ph (pu s i 0)) := w8_put hs1 h5 (f := 0) (by decide)
                rw [en, e8, ← en]
                refine sp8_holds hML (ba0 hBa.1) (np5 hBa.2) (hs.struck h5) rfl hset hp hg hp1 ?_
                intro fa9 q9 f9 b9 m9
                refine nbool' rfl (fun hb => ?_) (fun hb => ?_)
                · rw [if_pos ⟨by omega, hb⟩] at next
                  exact nm_e (nm_r (nI_1 i) (next _ _ _ _ _))
                · rw [if_neg (fun z => by rw [hb] at z; exact absurd z.2 (by decide))] at next
                  exact nm_r (nI_1 i) (next _ _ _ _ _)
        refine nbool' rfl (fun hb => ?_) (fun hb => ⟨6, main hb 6 0 (by omega) (by omega) _ _ _ _ _⟩)
        rw [if_neg (by rw [hb]; decide)] at hans
        rw [hans]
        exact h _ _ _ _ _ _ _ _ _ _ _ _ _ _ _ _ _ _ _ _ _ _ _ hR3
      refine sp_holdsFrom hLW hSD hCB (by omega) hs es hset hp hg hp1 (bars := 0) (by decide) rfl ?_
      intro o f c r l ov v rr gr ba n fz b a e m hC
      have main : holdB t lw_parts G set 0 5 s g = true → ∀ q i, i ≤ 5 → 5 < q + i → ∀ R2 o f c r l ov v rr gr ba n fz b a e m, R2 ≤ R + 1 + i → CB c r R2 → wpL_X7_hangs_39 sl_state lw_told lw_parts lw_hangMasks lw_hangValues lw_ownSeats (fun (r1 : Int32) (se_order1 : Nat → Int32) (se_from1 : Nat → Int32) (se_cameBy1 : Nat → Int32) (se_runs1 : Int32) (se_length1 : Int32) (sg_ownVotes1 : Nat → Int32) (sg_votes1 : Nat → Int32) (sg_rows1 : Nat → Int32) (sg_groups1 : Int32) (sg_bars1 : Int32) (sg_now1 : Int32) (sg_forced1 : Int32) (sg_barred1 : Int32) (sg_mayActs1 : Nat → Int32) (sg_mayEnds1 : Nat → Int32) (sg_mays1 : Int32) => wp_X8_hangs md_thrown md_forms md_formMany md_seats md_now md_barAlways md_noPut md_far md_queue md_from md_by md_many p0 p1 (fun (r2 : Int32) (md_thrown1 : Int32) (md_far1 : Nat → Int32) (md_queue1 : Nat → Int32) (md_from1 : Nat → Int32) (md_by1 : Nat → Int32) (md_many1 : Int32) => K r1 r2 se_order1 se_from1 se_cameBy1 se_runs1 se_length1 sg_ownVotes1 sg_votes1 sg_rows1 sg_groups1 sg_bars1 sg_now1 sg_forced1 sg_barred1 sg_mayActs1 sg_mayEnds1 sg_mays1 md_thrown1 md_far1 md_queue1 md_from1 md_by1 md_many1)) q o f c r l ov v rr gr ba n fz b a e m p0 p1 (hgN t lw_parts G set s g i) (nI i) := by
        intro hh q
        induction q with
        | zero => intro i h1 h2; omega
        | succ q ih =>
          intro i h1 h2 R2 o f c r l ov v rr gr ba n fz b a e m hR2 hC
          rw [wpL_X7_hangs_39]
          refine pk_le 5 i (fun h5 => ?_) (fun h5 => ?_)
          · have : i = 5 := by omega
            subst this
            exact m8 _ R2 _ _ _ _ _ _ _ _ _ _ _ _ _ _ _ _ (by omega) hC (by rw [if_pos hh])
          · have next := ih (i + 1) (by omega) (by omega)
            have ex : hgN t lw_parts G set s g (i + 1) = if fo s i ≠ 0 ∧ holdB t lw_parts G set 0 5 (pu s i 0) g = false then hgN t lw_parts G set s g i ||| ((1 : Int32) <<< (nI i &&& 31)) else hgN t lw_parts G set s g i := rfl
            rw [ex] at next
            refine sp_X5_formOf es rfl (by omega) h5 ?_
            have hf4 := fo_lt s i
            refine pk_eq (fo s i) 0 (fun w => ?_) (fun w => ?_)
            · rw [if_neg (fun z => z.1 w)] at next
              unfold wpJ_X7_hangs_62
              exact y0' (nm_r (nI_1 i) (next R2 _ _ _ _ _ _ _ _ _ _ _ _ _ _ _ _ (by omega) hC))
            · unfold wpJ_X7_hangs_62
              refine y1' ?_
              refine sp_X5_put es rfl (f := 0) rfl hs1 h5 (by decide) ?_
              refine sp_holdsFrom hLW hSD hC (by omega) (hs.struck h5) rfl hset hp hg hp1 (bars := 0) (by decide) rfl ?_
              intro o2 f2 c2 r2 l2 ov2 v2 rr2 gr2 ba2 n2 fo2 b2 a2 e2 m2 hC2
              refine nbool' rfl (fun hb => ?_) (fun hb => ?_)
              · rw [if_pos ⟨w, hb⟩] at next
                exact nm_e (nm_r (nI_1 i) (next (R2 + 1) _ _ _ _ _ _ _ _ _ _ _ _ _ _ _ _ (by omega) hC2))
              · rw [if_neg (fun z => by rw [hb] at z; exact absurd z.2 (by decide))] at next
                exact nm_r (nI_1 i) (next (R2 + 1) _ _ _ _ _ _ _ _ _ _ _ _ _ _ _ _ (by omega) hC2)
      refine nbool' rfl (fun hb => ?_) (fun hb => ⟨6, main hb 6 0 (by omega) (by omega) (R + 1) _ _ _ _ _ _ _ _ _ _ _ _ _ _ _ _ (by omega) hC⟩)
      exact m8 _ (R + 1) _ _ _ _ _ _ _ _ _ _ _ _ _ _ _ _ (by omega) hC (by rw [if_neg (by rw [hb]; decide)])
    · refine sp_goalExists_bad hb1 (y0 ?_)
      unfold wp_X8_hangs
      refine sp8_noSet hp hset (y0 ?_)
      exact sp8_noGoal_bad hb1 (y1' (h _ _ _ _ _ _ _ _ _ _ _ _ _ _ _ _ _ _ _ _ _ _ _ hR.succ))
  · refine sp_isSet_bad hb (y0' ?_)
    unfold wp_X8_hangs
    exact sp8_noSet_bad hb (y1 (h _ _ _ _ _ _ _ _ _ _ _ _ _ _ _ _ _ _ _ _ _ _ _ hR.succ))
theorem pu_id {x c : Nat} (h : fo x c = 0) : pu x c 0 = x := by
  unfold pu
  have h : x / 4 ^ c % 4 = 0 := h
  rw [h]
  omega
theorem barB_two {P : Nat → Int32} {c s x : Nat} (hc : c < 5) (hx : x < 5) : barB P (2 ^ c) s x = (decide (x = c) || barB P 0 s x) := by
  unfold barB
  have h1 : bt (2 ^ c) x = decide (x = c) := by
    rcases lt5 hc with rfl | rfl | rfl | rfl | rfl <;> rcases lt5 hx with rfl | rfl | rfl | rfl | rfl <;> decide
  have h2 : bt 0 x = false := by unfold bt; simp
  rw [h1, h2, Bool.false_or]
/-- a bar of a struck clause keeps it from being put, and no more -/
theorem why_idle {t : Nat → Nat} {P : Nat → Int32} {G : Nat → Nat} (hP : LWP t P) {set c x k : Nat} (hc : c < 5) (hx : SV t x) (h0 : fo x c = 0) (hk : k < 20) : (whyN t P G set (2 ^ c) 5 x k = 0) ↔ (whyN t P G set 0 c x k = 0) := by
  by_cases hg5 : givB t P 5 x k = true
  · obtain ⟨g1, g1b, g2, g2b, g3, g3b⟩ := giv_wf hP hx hk hg5
    obtain ⟨hf0, hlet, -, hl1⟩ := giv_letter hg5
    by_cases hof : Pn P (rwN (k / 4) x + 3) = c ∧ P (rwN (k / 4) x) ≠ 2
    · have hb : barB P (2 ^ c) x (Pn P (rwN (k / 4) x + 3)) = true := by
        rw [barB_two hc (by omega), hof.1]; simp
      have hL : whyN t P G set (2 ^ c) 5 x k ≠ 0 := by
        unfold whyN
        rw [if_neg (by rw [hg5]; decide)]
        split
        · decide
        · split
          · decide
          · first | decide | (rw [if_pos ⟨hof.2, hb⟩]; decide)
      have hRr : whyN t P G set 0 c x k ≠ 0 := by
        intro z
        have hgc := why_giv z
        by_cases hk4 : k % 4 = 0
        · have ha : aft P x k = x := by
            unfold aft
            rw [if_neg hof.2, hof.1, hk4]
            exact pu_id h0
          unfold whyN at z
          rw [if_neg (by rw [hgc]; decide)] at z
          split at z
          · exact absurd z (by decide)
          · split at z
            · exact absurd z (by decide)
            · split at z
              · exact absurd z (by decide)
              · first | exact absurd z (by decide) | (rw [if_pos ha] at z; exact absurd z (by decide))
        · unfold givB at hgc
          rw [if_neg hk4, hof.1] at hgc
          simp at hgc
      exact ⟨fun z => absurd z hL, fun z => absurd z hRr⟩
    · have hgc : givB t P c x k = true := by
        by_cases h2 : P (rwN (k / 4) x) = 2
        · unfold givB at hg5 ⊢
          by_cases hk4 : k % 4 = 0
          · rw [if_pos hk4] at hg5 ⊢; exact hg5
          · rw [if_neg hk4] at hg5
            simp [h2] at hg5
        · have hne : Pn P (rwN (k / 4) x + 3) ≠ c := fun z => hof ⟨z, h2⟩
          unfold givB at hg5 ⊢
          by_cases hk4 : k % 4 = 0
          · rw [if_pos hk4] at hg5 ⊢; exact hg5
          · rw [if_neg hk4] at hg5 ⊢
            have hcb : (c != Pn P (rwN (k / 4) x + 3)) = true := by simp; exact fun z => hne z.symm
            have h5b : (5 != Pn P (rwN (k / 4) x + 3)) = true := by simp; omega
            rw [h5b] at hg5
            rw [hcb]
            exact hg5
      unfold whyN
      rw [if_neg (show ¬ givB t P 5 x k = false by rw [hg5]; decide), if_neg (show ¬ givB t P c x k = false by rw [hgc]; decide)]
      by_cases h2 : P (rwN (k / 4) x) = 2
      · have q1 : ¬ (P (rwN (k / 4) x) ≠ 2 ∧ barB P (2 ^ c) x (Pn P (rwN (k / 4) x + 3)) = true) := fun z => z.1 h2
        have q2 : ¬ (P (rwN (k / 4) x) ≠ 2 ∧ barB P 0 x (Pn P (rwN (k / 4) x + 3)) = true) := fun z => z.1 h2
        rw [if_neg q1, if_neg q2]
      · have hne : Pn P (rwN (k / 4) x + 3) ≠ c := fun z => hof ⟨z, h2⟩
        have : barB P (2 ^ c) x (Pn P (rwN (k / 4) x + 3)) = barB P 0 x (Pn P (rwN (k / 4) x + 3)) := by
          rw [barB_two hc (by omega)]; simp [hne]
        rw [this]
  · have hg5' : givB t P 5 x k = false := by
      cases e : givB t P 5 x k
      · rfl
      · exact absurd e hg5
    refine ⟨fun z => absurd (why_giv z) hg5, fun z => ?_⟩
    have hgc := why_giv z
    exfalso
    apply hg5
    have hl := giv_wf hP hx hk hgc
    unfold givB at hgc ⊢
    by_cases hk4 : k % 4 = 0
    · rw [if_pos hk4] at hgc ⊢; exact hgc
    · rw [if_neg hk4] at hgc ⊢
      have h5b : (5 != Pn P (rwN (k / 4) x + 3)) = true := by simp; omega
      rw [h5b]
      simp only [Bool.and_eq_true] at hgc ⊢
      exact ⟨hgc.1, hgc.2.1, trivial⟩
theorem idle_bfs {t : Nat → Nat} {P : Nat → Int32} {G : Nat → Nat} (hP : LWP t P) {set c s : Nat} (hc : c < 5) (hs : SV t s) (h0 : fo s c = 0) : bfs (mvs t P G set (2 ^ c) 5) (aft P) s = bfs (mvs t P G set 0 c) (aft P) s := by
  unfold bfs
  refine rnL_congr (Q := fun x => SV t x ∧ fo x c = 0) (fun x hx => ?_) (fun x hx k hk => ?_) _ _ _ (fun e he => ?_)
  · unfold mvs mvT
    apply List.filter_congr
    intro k hk
    have := why_idle hP (G := G) (set := set) hc hx.1 hx.2 (List.mem_range.mp hk)
    by_cases z : whyN t P G set (2 ^ c) 5 x k = 0
    · rw [z, this.mp z]
    · have z2 : ¬ whyN t P G set 0 c x k = 0 := fun w => z (this.mpr w)
      have a1 : (whyN t P G set (2 ^ c) 5 x k == 0) = false := by simp; exact z
      have a2 : (whyN t P G set 0 c x k == 0) = false := by simp; exact z2
      rw [a1, a2]
  · obtain ⟨hk1, hk2⟩ := mvT_mem.mp hk
    have hg := why_giv hk2
    refine ⟨giv_aft hP hx.1 hk1 hg, ?_⟩
    obtain ⟨g1, g1b, g2, g2b, g3, g3b⟩ := giv_wf hP hx.1 hk1 hg
    obtain ⟨hf0, hlet, -, hl1⟩ := giv_letter hg
    have hwf := hP.wf hx.1 (by omega) hf0
    unfold aft
    by_cases h2 : P (rwN (k / 4) x) = 2
    · rw [if_pos h2]
      obtain ⟨-, -, n3, n4⟩ := hwf.do_ h2
      have e3 := n3.val
      have e4 := n4.val
      rw [fo_mk hx.1.1 (by omega) (by omega) hc]
      exact hx.2
    · rw [if_neg h2, fo_pu hx.1.1 (by omega) (by omega) hc]
      split
      · rename_i q
        rcases hlet with z | z | z
        · exfalso
          have hb : barB P (2 ^ c) x (Pn P (rwN (k / 4) x + 3)) = true := by
            rw [barB_two hc (by omega), ← q]; simp
          unfold whyN at hk2
          rw [if_neg (by rw [hg]; decide)] at hk2
          split at hk2
          · exact absurd hk2 (by decide)
          · split at hk2
            · exact absurd hk2 (by decide)
            · first | exact absurd hk2 (by decide) | (rw [if_pos ⟨h2, hb⟩] at hk2; exact absurd hk2 (by decide))
        · exact hl1 z
        · exact absurd z h2
      · exact hx.2
  · rw [List.mem_singleton] at he
    subst he
    exact ⟨hs, h0⟩
theorem sim_idle {N : Nat} (hN : N < 600) {tx_bytes : Nat → Int32} {tx_length : Int32} {md_text : Nat → Int32} {md_textSize : Int32} {lw_told : Nat → Int32} {lw_parts : Nat → Int32} {lw_hangMasks : Nat → Int32} {lw_hangValues : Nat → Int32} {lw_ownSeats : Nat → Int32} {md_forms : Nat → Int32} {md_formMany : Nat → Int32} {md_seats : Nat → Int32} {sl_state : Int32} {md_now : Int32} {sl_rolled : Int32} {md_rolls : Int32} {sl_rollSets : Nat → Int32} {sl_rollActs : Nat → Int32} {md_rollSet : Nat → Int32} {md_rollAct : Nat → Int32} {sl_kept : Nat → Int32} {md_slots : Nat → Int32} {md_isKept : Nat → Int32} {md_barAlways : Int32} {md_noPut : Int32} {se_cameBy : Nat → Int32} {se_runs : Int32} {se_order : Nat → Int32} {se_from : Nat → Int32} {se_length : Int32} {sg_ownVotes : Nat → Int32} {sg_votes : Nat → Int32} {sg_rows : Nat → Int32} {sg_groups : Int32} {sg_bars : Int32} {sg_now : Int32} {sg_forced : Int32} {sg_barred : Int32} {sg_mayActs : Nat → Int32} {sg_mayEnds : Nat → Int32} {sg_mays : Int32} {md_thrown : Int32} {md_far : Nat → Int32} {md_queue : Nat → Int32} {md_from : Nat → Int32} {md_by : Nat → Int32} {md_many : Int32} (hR : REL N tx_bytes tx_length md_text md_textSize lw_told lw_parts lw_hangMasks lw_hangValues lw_ownSeats md_forms md_formMany md_seats sl_state md_now sl_rolled md_rolls sl_rollSets sl_rollActs md_rollSet md_rollAct sl_kept md_slots md_isKept md_barAlways md_noPut se_cameBy se_runs) (p0 : Int32) (p1 : Int32) {K : Int32 → Int32 → (Nat → Int32) → (Nat → Int32) → (Nat → Int32) → Int32 → Int32 → (Nat → Int32) → (Nat → Int32) → (Nat → Int32) → Int32 → Int32 → Int32 → Int32 → Int32 → (Nat → Int32) → (Nat → Int32) → Int32 → Int32 → Int32 → (Nat → Int32) → (Nat → Int32) → (Nat → Int32) → (Nat → Int32) → Int32 → Prop} (h : ∀ (r : Int32) (se_order1 : Nat → Int32) (se_from1 : Nat → Int32) (se_cameBy1 : Nat → Int32) (se_runs1 : Int32) (se_length1 : Int32) (sg_ownVotes1 : Nat → Int32) (sg_votes1 : Nat → Int32) (sg_rows1 : Nat → Int32) (sg_groups1 : Int32) (sg_bars1 : Int32) (sg_now1 : Int32) (sg_forced1 : Int32) (sg_barred1 : Int32) (sg_mayActs1 : Nat → Int32) (sg_mayEnds1 : Nat → Int32) (sg_mays1 : Int32) (md_thrown1 : Int32) (md_noPut1 : Int32) (md_far1 : Nat → Int32) (md_queue1 : Nat → Int32) (md_from1 : Nat → Int32) (md_by1 : Nat → Int32) (md_many1 : Int32), REL (N + 1) tx_bytes tx_length md_text md_textSize lw_told lw_parts lw_hangMasks lw_hangValues lw_ownSeats md_forms md_formMany md_seats sl_state md_now sl_rolled md_rolls sl_rollSets sl_rollActs md_rollSet md_rollAct sl_kept md_slots md_isKept md_barAlways md_noPut1 se_cameBy1 se_runs1 → K r r se_order1 se_from1 se_cameBy1 se_runs1 se_length1 sg_ownVotes1 sg_votes1 sg_rows1 sg_groups1 sg_bars1 sg_now1 sg_forced1 sg_barred1 sg_mayActs1 sg_mayEnds1 sg_mays1 md_thrown1 md_noPut1 md_far1 md_queue1 md_from1 md_by1 md_many1) : wp_X7_idle sl_state se_order se_from se_cameBy se_runs se_length sg_ownVotes sg_votes sg_rows sg_groups sg_bars sg_now sg_forced sg_barred sg_mayActs sg_mayEnds sg_mays lw_told lw_parts lw_hangMasks lw_hangValues lw_ownSeats p0 p1 (fun (r1 : Int32) (se_order1 : Nat → Int32) (se_from1 : Nat → Int32) (se_cameBy1 : Nat → Int32) (se_runs1 : Int32) (se_length1 : Int32) (sg_ownVotes1 : Nat → Int32) (sg_votes1 : Nat → Int32) (sg_rows1 : Nat → Int32) (sg_groups1 : Int32) (sg_bars1 : Int32) (sg_now1 : Int32) (sg_forced1 : Int32) (sg_barred1 : Int32) (sg_mayActs1 : Nat → Int32) (sg_mayEnds1 : Nat → Int32) (sg_mays1 : Int32) => wp_X8_idle md_thrown md_forms md_formMany md_seats md_now md_barAlways md_noPut md_far md_queue md_from md_by md_many p0 p1 (fun (r2 : Int32) (md_thrown1 : Int32) (md_noPut1 : Int32) (md_far1 : Nat → Int32) (md_queue1 : Nat → Int32) (md_from1 : Nat → Int32) (md_by1 : Nat → Int32) (md_many1 : Int32) => K r1 r2 se_order1 se_from1 se_cameBy1 se_runs1 se_length1 sg_ownVotes1 sg_votes1 sg_rows1 sg_groups1 sg_bars1 sg_now1 sg_forced1 sg_barred1 sg_mayActs1 sg_mayEnds1 sg_mays1 md_thrown1 md_noPut1 md_far1 md_queue1 md_from1 md_by1 md_many1)) := by
  unfold wp_X7_idle
  obtain ⟨hRT, ⟨t, G, hLa, s, hs, es, en⟩, hRo, hKe, hBa, R, hRN, hCB⟩ := id hR
  obtain ⟨hLW, hSD, hML⟩ := id hLa
  have hs1 := hs.1
  rcases range_cases p0 16 (by decide) with ⟨set, hset, hp⟩ | hb
  · refine sp_isSet hp hset (y1 ?_)
    rcases range_cases p1 5 (by decide) with ⟨c, hc, hp1⟩ | hb1
    · refine sp_isClause hp1 hc (y1 ?_)
      refine sp_searchAs hLW hSD hCB (by omega) hs es hset hp ?_
      intro o f cb r l ov v rr gr ba n fz b a e m hC hSC
      have hGL := bfs_GL (cmv_ok hLW.1 (G := G) (set := set) (bars := 0) (np := 5)) hs
      refine sp_rowsOfThings hC hGL ?_
      have h32 : 2 ^ c < 32 := by rcases lt5 hc with rfl | rfl | rfl | rfl | rfl <;> decide
      refine sp_choose hSD hset h32 hp (by rw [hp1]; exact w_shl hc) (fun o2 g2 ba2 hSC2 => ?_)
      refine sp_X5_put es hp1 (f := 0) rfl hs1 hc (by decide) ?_
      have hs2 := hs.struck hc
      have h0 : fo (pu s c 0) c = 0 := by rw [fo_pu hs1 hc (by decide) hc]; simp
      refine sp_run hLW hSC2 (hC.cb (by omega)) (by omega) hs2 rfl (fun o3 f3 c3 r3 l3 v3 rr3 n3 fo3 b3 a3 e3 m3 hC3 => ?_)
      have hGL2 := bfs_GL (cmv_ok hLW.1 (G := G) (set := set) (bars := 2 ^ c) (np := 5)) hs2
      refine sp_rowsOfThings hC3 hGL2 ?_
      have hR2 : REL (N + 1) tx_bytes tx_length md_text md_textSize lw_told lw_parts lw_hangMasks lw_hangValues lw_ownSeats md_forms md_formMany md_seats sl_state md_now sl_rolled md_rolls sl_rollSets sl_rollActs md_rollSet md_rollAct sl_kept md_slots md_isKept md_barAlways (-9) c3 r3 := ⟨hRT, ⟨t, G, hLa, s, hs, es, en⟩, hRo, hKe, ⟨hBa.1, rfl⟩, R + 1 + 1, by omega, hC3.cb (by omega)⟩
      have eqb := idle_bfs hLW.1 (G := G) (set := set) hc hs2 h0
      have m8 : ∀ ans : Int32, (rwI (bfs (mvs t lw_parts G set (2 ^ c) 5) (aft lw_parts) (pu s c 0)) (bfs (mvs t lw_parts G set (2 ^ c) 5) (aft lw_parts) (pu s c 0)).length = rwI (bfs (mvs t lw_parts G set 0 5) (aft lw_parts) s) (bfs (mvs t lw_parts G set 0 5) (aft lw_parts) s).length → ans = 1) → (¬ rwI (bfs (mvs t lw_parts G set (2 ^ c) 5) (aft lw_parts) (pu s c 0)) (bfs (mvs t lw_parts G set (2 ^ c) 5) (aft lw_parts) (pu s c 0)).length = rwI (bfs (mvs t lw_parts G set 0 5) (aft lw_parts) s) (bfs (mvs t lw_parts G set 0 5) (aft lw_parts) s).length → ans = 0) → wp_X8_idle md_thrown md_forms md_formMany md_seats md_now md_barAlways md_noPut md_far md_queue md_from md_by md_many p0 p1 (fun (r2 : Int32) (md_thrown1 : Int32) (md_noPut1 : Int32) (md_far1 : Nat → Int32) (md_queue1 : Nat → Int32) (md_from1 : Nat → Int32) (md_by1 : Nat → Int32) (md_many1 : Int32) => K ans r2 o3 f3 c3 r3 l3 o2 v3 rr3 g2 ba2 n3 fo3 b3 a3 e3 m3 md_thrown1 md_noPut1 md_far1 md_queue1 md_from1 md_by1 md_many1) := by
        intro ans h1 h2
        unfold wp_X8_idle
        refine sp8_noSet hp hset (y0' ?_)
        refine sp8_noClause hp1 hc (y0' ?_)
        refine sp8_wave hML (ba0 hBa.1) (np5 hBa.2) hset hset hs en hp hp (fun fa q fr b2 m2 hM => ?_)
        rw [umv_same] at hM
        refine sp8_rows hM hGL ?_
        unfold wp_X8_put
        have e8 : (nI (ph s) &&& (((3 : Int32) <<< (((4 : Int32) + ((2 : Int32) * nI c)) &&& 31)) ^^^ (-1 : Int32))) ||| ((0 : Int32) <<< (((4 : Int32) + ((2 : Int32) * nI c)) &&& 31)) = nI (ph (pu s c 0)) := w8_put hs1 hc (f := 0) (by decide)
        rw [en, hp1, e8]
        refine sp8_wave hML (ba0 hBa.1) (Or.inr ⟨hc, rfl⟩) hset hset hs2 rfl hp hp (fun fa9 q9 fr9 b9 m9 hM9 => ?_)
        rw [umv_same, ← eqb] at hM9
        refine sp8_rows hM9 hGL2 ⟨fun w => ?_, fun w => ?_⟩
        · rw [h2 w]; exact h _ _ _ _ _ _ _ _ _ _ _ _ _ _ _ _ _ _ _ _ _ _ _ _ hR2
        · rw [h1 w]; exact h _ _ _ _ _ _ _ _ _ _ _ _ _ _ _ _ _ _ _ _ _ _ _ _ hR2
      refine ⟨fun w => m8 _ (fun z => absurd z w) (fun _ => rfl), fun w => m8 _ (fun _ => rfl) (fun z => absurd w z)⟩
    · refine sp_isClause_bad hb1 (y0 ?_)
      unfold wp_X8_idle
      refine sp8_noSet hp hset (y0' ?_)
      exact sp8_noClause_bad hb1 (y1' (h _ _ _ _ _ _ _ _ _ _ _ _ _ _ _ _ _ _ _ _ _ _ _ _ hR.succ))
  · refine sp_isSet_bad hb (y0 ?_)
    unfold wp_X8_idle
    exact sp8_noSet_bad hb (y1' (h _ _ _ _ _ _ _ _ _ _ _ _ _ _ _ _ _ _ _ _ _ _ _ _ hR.succ))
