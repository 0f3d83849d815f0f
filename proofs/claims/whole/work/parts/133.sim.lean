theorem getD_filter_lt {L : List Nat} {j : Nat} (h : j < L.length) : L.getD j 0 ∈ L := by
  rw [List.getD_eq_getElem?_getD, List.getElem?_eq_getElem h]
  exact List.getElem_mem h
theorem sim_which {N : Nat} (hN : N < 600) {tx_bytes : Nat → Int32} {tx_length : Int32} {md_text : Nat → Int32} {md_textSize : Int32} {lw_told : Nat → Int32} {lw_parts : Nat → Int32} {lw_hangMasks : Nat → Int32} {lw_hangValues : Nat → Int32} {lw_ownSeats : Nat → Int32} {md_forms : Nat → Int32} {md_formMany : Nat → Int32} {md_seats : Nat → Int32} {sl_state : Int32} {md_now : Int32} {sl_rolled : Int32} {md_rolls : Int32} {sl_rollSets : Nat → Int32} {sl_rollActs : Nat → Int32} {md_rollSet : Nat → Int32} {md_rollAct : Nat → Int32} {sl_kept : Nat → Int32} {md_slots : Nat → Int32} {md_isKept : Nat → Int32} {md_barAlways : Int32} {md_noPut : Int32} {se_cameBy : Nat → Int32} {se_runs : Int32} {sg_ownVotes : Nat → Int32} {sg_votes : Nat → Int32} {sg_rows : Nat → Int32} {sg_groups : Int32} {sg_bars : Int32} {sg_now : Int32} {sg_forced : Int32} {sg_barred : Int32} {sg_mayActs : Nat → Int32} {sg_mayEnds : Nat → Int32} {sg_mays : Int32} {md_thrown : Int32} (hR : REL N tx_bytes tx_length md_text md_textSize lw_told lw_parts lw_hangMasks lw_hangValues lw_ownSeats md_forms md_formMany md_seats sl_state md_now sl_rolled md_rolls sl_rollSets sl_rollActs md_rollSet md_rollAct sl_kept md_slots md_isKept md_barAlways md_noPut se_cameBy se_runs) (p0 : Int32) (p1 : Int32) {K : Int32 → Int32 → (Nat → Int32) → (Nat → Int32) → (Nat → Int32) → Int32 → Int32 → Int32 → Int32 → Int32 → (Nat → Int32) → (Nat → Int32) → Int32 → Int32 → Prop} (h : ∀ (r : Int32) (sg_ownVotes1 : Nat → Int32) (sg_votes1 : Nat → Int32) (sg_rows1 : Nat → Int32) (sg_groups1 : Int32) (sg_bars1 : Int32) (sg_now1 : Int32) (sg_forced1 : Int32) (sg_barred1 : Int32) (sg_mayActs1 : Nat → Int32) (sg_mayEnds1 : Nat → Int32) (sg_mays1 : Int32) (md_thrown1 : Int32), REL (N + 1) tx_bytes tx_length md_text md_textSize lw_told lw_parts lw_hangMasks lw_hangValues lw_ownSeats md_forms md_formMany md_seats sl_state md_now sl_rolled md_rolls sl_rollSets sl_rollActs md_rollSet md_rollAct sl_kept md_slots md_isKept md_barAlways md_noPut se_cameBy se_runs → K r r sg_ownVotes1 sg_votes1 sg_rows1 sg_groups1 sg_bars1 sg_now1 sg_forced1 sg_barred1 sg_mayActs1 sg_mayEnds1 sg_mays1 md_thrown1) : wp_X7_which sl_state sg_ownVotes sg_votes sg_rows sg_groups sg_bars sg_now sg_forced sg_barred sg_mayActs sg_mayEnds sg_mays lw_told lw_parts lw_hangMasks lw_hangValues lw_ownSeats p0 p1 (fun (r1 : Int32) (sg_ownVotes1 : Nat → Int32) (sg_votes1 : Nat → Int32) (sg_rows1 : Nat → Int32) (sg_groups1 : Int32) (sg_bars1 : Int32) (sg_now1 : Int32) (sg_forced1 : Int32) (sg_barred1 : Int32) (sg_mayActs1 : Nat → Int32) (sg_mayEnds1 : Nat → Int32) (sg_mays1 : Int32) => wp_X8_which md_thrown md_forms md_formMany md_seats md_now md_barAlways md_noPut p0 p1 (fun (r2 : Int32) (md_thrown1 : Int32) => K r1 r2 sg_ownVotes1 sg_votes1 sg_rows1 sg_groups1 sg_bars1 sg_now1 sg_forced1 sg_barred1 sg_mayActs1 sg_mayEnds1 sg_mays1 md_thrown1)) := by
  unfold wp_X7_which
  obtain ⟨hRT, ⟨t, G, hLa, s, hs, es, en⟩, hRo, hKe, hBa, hCb⟩ := id hR
  obtain ⟨⟨hP, hH, hT, hG⟩, hSD, hM, hP2, hT2, hD2, hG2⟩ := id hLa
  rcases range_cases p0 16 (by decide) with ⟨set, hset, hp⟩ | hb
  · refine sp_isSet hp hset (y1' ?_)
    unfold wp_X7_listAs
    refine sp_choose hSD hset (bars := 0) (by decide) hp rfl (fun o g ba hSC => ?_)
    refine sp_list hP hH hT hG hs es hSC (fun v r n f b a e m hLS _ => ?_)
    have hml : (mvs t lw_parts G set 0 5 s).length ≤ 20 := mvT_len
    -- the reference's answer
    have m8 : ∀ ans : Int32, (∀ i, i < (mvs t lw_parts G set 0 5 s).length → p1 = nI i → ans = nI (actN ((mvs t lw_parts G set 0 5 s).getD i 0))) → ((∀ i, i < (mvs t lw_parts G set 0 5 s).length → p1 ≠ nI i) → ans = -9) → wp_X8_which md_thrown md_forms md_formMany md_seats md_now md_barAlways md_noPut p0 p1 (fun (r2 : Int32) (md_thrown1 : Int32) => K ans r2 o v r g ba n f b a e m md_thrown1) := by
      intro ans hyes hno
      unfold wp_X8_which
      refine sp8_noSet hp hset (y0' ?_)
      unfold wp_X8_actAt
      have main : ∀ q i, i ≤ 20 → 20 < q + i → (∀ j, j < (mvT t lw_parts G set 0 5 s i).length → p1 ≠ nI j) → wpL_X8_actAt_6 md_forms md_formMany md_seats md_barAlways md_noPut (fun (r_3 : Int32) => K ans r_3 o v r g ba n f b a e m 0) q md_now p0 p1 (nI (mvT t lw_parts G set 0 5 s i).length) (nI i) := by
        intro q
        induction q with
        | zero => intro i h1 h2; omega
        | succ q ih =>
          intro i h1 h2 hnot
          rw [wpL_X8_actAt_6]
          refine pk_le 20 i (fun h5 => ?_) (fun h5 => ?_)
          · have : i = 20 := by omega
            subst this
            have := hno hnot
            subst this
            exact h _ _ _ _ _ _ _ _ _ _ _ _ _ hR.succ
          · have next := ih (i + 1) (by omega) (by omega)
            rw [mvT_succ, List.length_append] at next
            refine nm_r (sp8_act h5) ?_
            have hwl := why_lt (t := t) (P := lw_parts) (G := G) (set := set) (bars := 0) (np := 5) (s := s) (k := i)
            refine sp8_whyNot hM hP hT2 hD2 hG (ba0 hBa.1) (np5 hBa.2) hs hset h5 en hp rfl ?_
            refine pk_eq' _ 0 (fun w => ?_) (fun w => ?_)
            · rw [if_neg w] at next
              exact nm_r (nI_1 i) (next hnot)
            · rw [if_pos w] at next
              refine ⟨fun w2 => ?_, fun w2 => ?_⟩
              · refine nm_r (by exact nI_1 _) (nm_r (nI_1 i) (next (fun j hj => ?_)))
                rw [List.length_singleton] at hj
                by_cases q2 : j = (mvT t lw_parts G set 0 5 s i).length
                · subst q2; exact fun z => w2 z.symm
                · exact hnot j (by omega)
              · have hpre : mvT t lw_parts G set 0 5 s (i + 1) <+: mvs t lw_parts G set 0 5 s := by
                  have : ∀ d, mvT t lw_parts G set 0 5 s (i + 1) <+: mvT t lw_parts G set 0 5 s (i + 1 + d) := by
                    intro d
                    induction d with
                    | zero => exact List.prefix_refl _
                    | succ d ihd =>
                      rw [show i + 1 + (d + 1) = i + 1 + d + 1 from rfl, mvT_succ (n := i + 1 + d)]
                      exact ihd.trans (List.prefix_append _ _)
                  have h3 := this (19 - i)
                  rw [show i + 1 + (19 - i) = 20 from by omega] at h3
                  exact h3
                rw [mvT_succ, if_pos w] at hpre
                have hlen := hpre.length_le
                rw [List.length_append, List.length_singleton] at hlen
                have hget : (mvs t lw_parts G set 0 5 s).getD (mvT t lw_parts G set 0 5 s i).length 0 = i := by
                  obtain ⟨tl, htl⟩ := hpre
                  rw [← htl]
                  simp
                have := hyes _ (by omega) w2.symm
                rw [hget] at this
                subst this
                exact h _ _ _ _ _ _ _ _ _ _ _ _ _ hR.succ
      exact ⟨21, main 21 0 (by omega) (by omega) (fun j hj => absurd hj (Nat.not_lt_zero j))⟩
    by_cases hin : ∃ i, i < (mvs t lw_parts G set 0 5 s).length ∧ p1 = nI i
    · obtain ⟨i, hi, hp1⟩ := hin
      refine sp_mayDo hLS hml hi hp1 (m8 _ (fun j hj hpj => ?_) (fun hno => absurd hp1 (hno i hi)))
      rw [hp1, nI_eq (by omega) (by omega)] at hpj
      rw [hpj]
    · have hno : ∀ i, i < (mvs t lw_parts G set 0 5 s).length → p1 ≠ nI i := fun i hi z => hin ⟨i, hi, z⟩
      have m9 := m8 (-9) (fun i hi z => absurd z (hno i hi)) (fun _ => rfl)
      unfold wp_X4_mayDo
      refine ⟨fun _ => m9, fun q => ?_⟩
      obtain ⟨i, hi, rfl⟩ := nI_of q
      rw [hLS.1]
      rw [hLS.1] at m9
      refine pk_le (mvs t lw_parts G set 0 5 s).length i (fun _ => m9) (fun w => absurd rfl (hno i w))
  · refine sp_isSet_bad hb (y0' ?_)
    unfold wp_X8_which
    exact sp8_noSet_bad hb (y1' (h _ _ _ _ _ _ _ _ _ _ _ _ _ hR.succ))
theorem sim_wipe {N : Nat} (hN : N < 600) {tx_bytes : Nat → Int32} {tx_length : Int32} {md_text : Nat → Int32} {md_textSize : Int32} {lw_told : Nat → Int32} {lw_parts : Nat → Int32} {lw_hangMasks : Nat → Int32} {lw_hangValues : Nat → Int32} {lw_ownSeats : Nat → Int32} {md_forms : Nat → Int32} {md_formMany : Nat → Int32} {md_seats : Nat → Int32} {sl_state : Int32} {md_now : Int32} {sl_rolled : Int32} {md_rolls : Int32} {sl_rollSets : Nat → Int32} {sl_rollActs : Nat → Int32} {md_rollSet : Nat → Int32} {md_rollAct : Nat → Int32} {sl_kept : Nat → Int32} {md_slots : Nat → Int32} {md_isKept : Nat → Int32} {md_barAlways : Int32} {md_noPut : Int32} {se_cameBy : Nat → Int32} {se_runs : Int32} {md_thrown : Int32} (hR : REL N tx_bytes tx_length md_text md_textSize lw_told lw_parts lw_hangMasks lw_hangValues lw_ownSeats md_forms md_formMany md_seats sl_state md_now sl_rolled md_rolls sl_rollSets sl_rollActs md_rollSet md_rollAct sl_kept md_slots md_isKept md_barAlways md_noPut se_cameBy se_runs)  {K : Int32 → Int32 → Int32 → Int32 → Int32 → Prop} (h : ∀ (r : Int32) (tx_length1 : Int32) (md_thrown1 : Int32) (md_textSize1 : Int32), REL (N + 1) tx_bytes tx_length1 md_text md_textSize1 lw_told lw_parts lw_hangMasks lw_hangValues lw_ownSeats md_forms md_formMany md_seats sl_state md_now sl_rolled md_rolls sl_rollSets sl_rollActs md_rollSet md_rollAct sl_kept md_slots md_isKept md_barAlways md_noPut se_cameBy se_runs → K r r tx_length1 md_thrown1 md_textSize1) : wp_X7_wipe tx_length  (fun (r1 : Int32) (tx_length1 : Int32) => wp_X8_wipe md_thrown md_textSize  (fun (r2 : Int32) (md_thrown1 : Int32) (md_textSize1 : Int32) => K r1 r2 tx_length1 md_thrown1 md_textSize1)) := by
  unfold wp_X7_wipe
  unfold wp_X6_clear
  unfold wp_X8_wipe
  obtain ⟨⟨n, hn, e1, e2, -⟩, hLa, hRo, hKe, hBa, hCb⟩ := id hR
  rw [e1, e2]
  exact h _ _ _ _ ⟨⟨0, by omega, rfl, rfl, fun j hj => absurd hj (Nat.not_lt_zero j)⟩, hLa, hRo, hKe, hBa, hCb.succ⟩
/-- rows of acts judged -/
def jud (t : Nat → Nat) (P : Nat → Int32) (G S A : Nat → Nat) : Nat → Nat → Nat → Option (Nat × Nat)
  | 0, _, _ => none
  | n + 1, i, s => if whyN t P G (S i) 0 5 s (A i) = 0 then jud t P G S A n (i + 1) (aft P s (A i)) else some (i, whyN t P G (S i) 0 5 s (A i))
def judA (w : Int32) (o : Option (Nat × Nat)) : Int32 := match o with
  | none => -9
  | some (i, y) => if w = 0 then nI i else nI y
theorem sim_judge {N : Nat} (hN : N < 600) {tx_bytes : Nat → Int32} {tx_length : Int32} {md_text : Nat → Int32} {md_textSize : Int32} {lw_told : Nat → Int32} {lw_parts : Nat → Int32} {lw_hangMasks : Nat → Int32} {lw_hangValues : Nat → Int32} {lw_ownSeats : Nat → Int32} {md_forms : Nat → Int32} {md_formMany : Nat → Int32} {md_seats : Nat → Int32} {sl_state : Int32} {md_now : Int32} {sl_rolled : Int32} {md_rolls : Int32} {sl_rollSets : Nat → Int32} {sl_rollActs : Nat → Int32} {md_rollSet : Nat → Int32} {md_rollAct : Nat → Int32} {sl_kept : Nat → Int32} {md_slots : Nat → Int32} {md_isKept : Nat → Int32} {md_barAlways : Int32} {md_noPut : Int32} {se_cameBy : Nat → Int32} {se_runs : Int32} {sg_ownVotes : Nat → Int32} {sg_votes : Nat → Int32} {sg_rows : Nat → Int32} {sg_groups : Int32} {sg_bars : Int32} {sg_now : Int32} {sg_forced : Int32} {sg_barred : Int32} {md_thrown : Int32} (hR : REL N tx_bytes tx_length md_text md_textSize lw_told lw_parts lw_hangMasks lw_hangValues lw_ownSeats md_forms md_formMany md_seats sl_state md_now sl_rolled md_rolls sl_rollSets sl_rollActs md_rollSet md_rollAct sl_kept md_slots md_isKept md_barAlways md_noPut se_cameBy se_runs) (p0 : Int32) {K : Int32 → Int32 → (Nat → Int32) → (Nat → Int32) → (Nat → Int32) → Int32 → Int32 → Int32 → Int32 → Int32 → Int32 → Prop} (h : ∀ (r : Int32) (sg_ownVotes1 : Nat → Int32) (sg_votes1 : Nat → Int32) (sg_rows1 : Nat → Int32) (sg_groups1 : Int32) (sg_bars1 : Int32) (sg_now1 : Int32) (sg_forced1 : Int32) (sg_barred1 : Int32) (md_thrown1 : Int32), REL (N + 1) tx_bytes tx_length md_text md_textSize lw_told lw_parts lw_hangMasks lw_hangValues lw_ownSeats md_forms md_formMany md_seats sl_state md_now sl_rolled md_rolls sl_rollSets sl_rollActs md_rollSet md_rollAct sl_kept md_slots md_isKept md_barAlways md_noPut se_cameBy se_runs → K r r sg_ownVotes1 sg_votes1 sg_rows1 sg_groups1 sg_bars1 sg_now1 sg_forced1 sg_barred1 md_thrown1) : wp_X7_judge sl_rollSets sl_rollActs sl_rolled sl_state sg_ownVotes sg_votes sg_rows sg_groups sg_bars sg_now sg_forced sg_barred lw_told lw_parts lw_hangMasks lw_hangValues lw_ownSeats p0 (fun (r1 : Int32) (sg_ownVotes1 : Nat → Int32) (sg_votes1 : Nat → Int32) (sg_rows1 : Nat → Int32) (sg_groups1 : Int32) (sg_bars1 : Int32) (sg_now1 : Int32) (sg_forced1 : Int32) (sg_barred1 : Int32) => wp_X8_judge md_thrown md_forms md_formMany md_seats md_now md_barAlways md_noPut md_rollSet md_rollAct md_rolls p0 (fun (r2 : Int32) (md_thrown1 : Int32) => K r1 r2 sg_ownVotes1 sg_votes1 sg_rows1 sg_groups1 sg_bars1 sg_now1 sg_forced1 sg_barred1 md_thrown1)) := by
  unfold wp_X7_judge
  obtain ⟨hRT, ⟨t, G, hLa, s, hs, es, en⟩, ⟨r, S, A, hr, e1, e2, hj⟩, hKe, hBa, hCb⟩ := id hR
  obtain ⟨⟨hP, hH, hT, hG⟩, hSD, hM, hP2, hT2, hD2, hG2⟩ := id hLa
  -- the reference
  have m8 : ∀ a b c d e f g i, wp_X8_judge md_thrown md_forms md_formMany md_seats md_now md_barAlways md_noPut md_rollSet md_rollAct md_rolls p0 (fun (r2 : Int32) (md_thrown1 : Int32) => K (judA p0 (jud t lw_parts G S A r 0 s)) r2 a b c d e f g i md_thrown1) := by
    intro a b c d e f g i
    unfold wp_X8_judge
    have main : ∀ q j s2, SV t s2 → j + q = r → jud t lw_parts G S A r 0 s = jud t lw_parts G S A q j s2 → wpL_X8_judge_12 md_forms md_formMany md_seats md_now md_barAlways md_noPut md_rollSet md_rollAct md_rolls (fun (r2 : Int32) (md_thrown1 : Int32) => K (judA p0 (jud t lw_parts G S A r 0 s)) r2 a b c d e f g i md_thrown1) (q + 1) 0 p0 (nI (ph s2)) (nI j) := by
      intro q
      induction q with
      | zero =>
        intro j s2 hs2 hjq he
        rw [wpL_X8_judge_12, e2]
        refine pk_le r j (fun _ => ?_) (fun z => by omega)
        rw [he]
        exact h _ _ _ _ _ _ _ _ _ _ hR.succ
      | succ q ih =>
        intro j s2 hs2 hjq he
        have hjr : j < r := by omega
        obtain ⟨hS, hA, w1, w2, w3, w4⟩ := hj j hjr
        rw [wpL_X8_judge_12, e2]
        refine pk_le r j (fun z => by omega) (fun _ => ⟨pk_in j 20 (by omega), pk_in j 20 (by omega), ?_⟩)
        rw [nI_clamp (by omega), w2, w4, ← e2]
        have hwl := why_lt (t := t) (P := lw_parts) (G := G) (set := S j) (bars := 0) (np := 5) (s := s2) (k := A j)
        have he2 : jud t lw_parts G S A (q + 1) j s2 = if whyN t lw_parts G (S j) 0 5 s2 (A j) = 0 then jud t lw_parts G S A q (j + 1) (aft lw_parts s2 (A j)) else some (j, whyN t lw_parts G (S j) 0 5 s2 (A j)) := rfl
        rw [he2] at he
        refine sp8_whyNot hM hP hT2 hD2 hG (ba0 hBa.1) (np5 hBa.2) hs2 hS hA rfl rfl rfl ?_
        refine pk_eq _ 0 (fun w => ⟨pk_in j 20 (by omega), ?_⟩) (fun w => ?_)
        · rw [if_pos w] at he
          have hg := why_giv w
          refine sp8_done hM hP hs2 hA hg rfl rfl ?_
          exact nm_r (nI_1 j) (ih (j + 1) _ (giv_aft hP hs2 hA hg) (by omega) he)
        · rw [if_neg w] at he
          rw [he]
          refine ⟨fun z => ?_, fun z => ?_⟩
          · have : judA p0 (some (j, whyN t lw_parts G (S j) 0 5 s2 (A j))) = nI j := by unfold judA; simp [z]
            rw [this]
            exact h _ _ _ _ _ _ _ _ _ _ hR.succ
          · have : judA p0 (some (j, whyN t lw_parts G (S j) 0 5 s2 (A j))) = nI (whyN t lw_parts G (S j) 0 5 s2 (A j)) := by unfold judA; simp [z]
            rw [this]
            exact h _ _ _ _ _ _ _ _ _ _ hR.succ
    have h9 := main r 0 s hs (by omega) rfl
    rw [← en] at h9
    exact ⟨r + 1, h9⟩
  -- the class
  have main : ∀ q j s2, SV t s2 → j + q = r → jud t lw_parts G S A r 0 s = jud t lw_parts G S A q j s2 → ∀ a b c d e f g i, wpL_X7_judge_7 sl_rollSets sl_rollActs sl_rolled sl_state lw_told lw_parts lw_hangMasks lw_hangValues lw_ownSeats (fun (r1 : Int32) (sg_ownVotes1 : Nat → Int32) (sg_votes1 : Nat → Int32) (sg_rows1 : Nat → Int32) (sg_groups1 : Int32) (sg_bars1 : Int32) (sg_now1 : Int32) (sg_forced1 : Int32) (sg_barred1 : Int32) => wp_X8_judge md_thrown md_forms md_formMany md_seats md_now md_barAlways md_noPut md_rollSet md_rollAct md_rolls p0 (fun (r2 : Int32) (md_thrown1 : Int32) => K r1 r2 sg_ownVotes1 sg_votes1 sg_rows1 sg_groups1 sg_bars1 sg_now1 sg_forced1 sg_barred1 md_thrown1)) (q + 1) a b c d e f g i p0 (nI s2) (nI j) := by
    intro q
    induction q with
    | zero =>
      intro j s2 hs2 hjq he a b c d e f g i
      rw [wpL_X7_judge_7, e1]
      refine pk_le r j (fun _ => ?_) (fun z => by omega)
      have := m8 a b c d e f g i
      rw [he] at this
      exact this
    | succ q ih =>
      intro j s2 hs2 hjq he a b c d e f g i
      have hjr : j < r := by omega
      obtain ⟨hS, hA, w1, w2, w3, w4⟩ := hj j hjr
      rw [wpL_X7_judge_7, e1]
      refine pk_le r j (fun z => by omega) (fun _ => pk_le 20 j (fun z => by omega) (fun _ => ⟨pk_in j 20 (by omega), ?_⟩))
      rw [nI_clamp (by omega), w1, w3, ← e1]
      have hwl := why_lt (t := t) (P := lw_parts) (G := G) (set := S j) (bars := 0) (np := 5) (s := s2) (k := A j)
      have he2 : jud t lw_parts G S A (q + 1) j s2 = if whyN t lw_parts G (S j) 0 5 s2 (A j) = 0 then jud t lw_parts G S A q (j + 1) (aft lw_parts s2 (A j)) else some (j, whyN t lw_parts G (S j) 0 5 s2 (A j)) := rfl
      rw [he2] at he
      refine sp_choose hSD hS (bars := 0) (by decide) rfl rfl (fun o g ba hSC => ?_)
      refine sp_look hP hH hs2 rfl hSC (fun v r n f br hLK => ⟨pk_in j 20 (by omega), ?_⟩)
      refine sp_whyNot hP hT hG hs2 hA hLK rfl ?_
      refine pk_eq _ 0 (fun w => ⟨pk_in j 20 (by omega), ?_⟩) (fun w => ?_)
      · rw [if_pos w] at he
        have hg := why_giv w
        refine sp_after hP hs2 hA hLK (giv_letter hg).2.1 rfl ?_
        exact nm_r (nI_1 j) (ih (j + 1) _ (giv_aft hP hs2 hA hg) (by omega) he _ _ _ _ _ _ _ _)
      · rw [if_neg w] at he
        have m9 := m8 o v r g ba n f br
        rw [he] at m9
        refine ⟨fun z => ?_, fun z => ?_⟩
        · have : judA p0 (some (j, whyN t lw_parts G (S j) 0 5 s2 (A j))) = nI j := by unfold judA; simp [z]
          rw [this] at m9
          exact m9
        · have : judA p0 (some (j, whyN t lw_parts G (S j) 0 5 s2 (A j))) = nI (whyN t lw_parts G (S j) 0 5 s2 (A j)) := by unfold judA; simp [z]
          rw [this] at m9
          exact m9
  refine ⟨r + 1, ?_⟩
  rw [es]
  have := main r 0 s hs (by omega) rfl sg_ownVotes sg_votes sg_rows sg_groups sg_bars sg_now sg_forced sg_barred
  rw [es] at this
  exact this
