def pc4 (x : Nat) : Nat := x % 2 + x / 2 % 2 + x / 4 % 2 + x / 8 % 2
theorem lt16 {c : Nat} (h : c < 16) : c = 0 ∨ c = 1 ∨ c = 2 ∨ c = 3 ∨ c = 4 ∨ c = 5 ∨ c = 6 ∨ c = 7 ∨ c = 8 ∨ c = 9 ∨ c = 10 ∨ c = 11 ∨ c = 12 ∨ c = 13 ∨ c = 14 ∨ c = 15 := by omega
theorem pc4_le (x : Nat) : pc4 x ≤ 4 := by unfold pc4; omega
theorem sp_bitCount {x : Int32} {n : Nat} (hx : x = nI n) (hn : n < 16) {post : Int32 → Prop} (h : post (nI (pc4 n))) : wp_J6_bitCount_0f7a4 x post := by
  unfold wp_J6_bitCount_0f7a4
  subst hx
  have aux : ∀ y, y = nI (pc4 n) → post y := fun y e => e ▸ h
  refine nm_e (nm_e (nm_e (nm_e (nm_e (aux _ ?_)))))
  rcases lt16 hn with rfl | rfl | rfl | rfl | rfl | rfl | rfl | rfl | rfl | rfl | rfl | rfl | rfl | rfl | rfl | rfl <;> decide +kernel
def stF (s c : Nat) : Nat := if fo s c = 0 then 0 else 1
theorem sp_howManyStand {x : Int32} {s : Nat} (hx : x = nI s) (hs : s < 16384) {post : Int32 → Prop} (h : post (nI (sm (stF s) 5))) : wp_X5_howManyStand x post := by
  unfold wp_X5_howManyStand
  have main : ∀ q i, i ≤ 5 → 5 < q + i → wpL_X5_howManyStand_4 post q x (nI (sm (stF s) i)) (nI i) := by
    intro q
    induction q with
    | zero => intro i h1 h2; omega
    | succ q ih =>
      intro i h1 h2
      rw [wpL_X5_howManyStand_4]
      refine pk_le 5 i (fun h5 => ?_) (fun h5 => ?_)
      · have : i = 5 := by omega
        subst this
        exact h
      · have next := ih (i + 1) (by omega) (by omega)
        have ex : sm (stF s) (i + 1) = sm (stF s) i + stF s i := rfl
        rw [ex] at next
        refine sp_X5_formOf hx rfl (by omega) h5 ?_
        have hf := fo_lt s i
        refine pk_eq (fo s i) 0 (fun w => ?_) (fun w => ?_)
        · have : stF s i = 0 := by unfold stF; rw [if_pos w]
          rw [this] at next
          exact nm_r (by exact nI_add _ 0) (nm_r (nI_1 i) next)
        · have : stF s i = 1 := by unfold stF; rw [if_neg w]
          rw [this] at next
          exact nm_r (by exact nI_add _ 1) (nm_r (nI_1 i) next)
  exact ⟨6, main 6 0 (by omega) (by omega)⟩
theorem sp_toldInAll {t : Nat → Nat} {told : Nat → Int32} (hT : TD t told) {post : Int32 → Prop} (h : post (nI (sm t 5))) : wp_X2_toldInAll told post := by
  unfold wp_X2_toldInAll
  have main : ∀ q i, i ≤ 5 → 5 < q + i → wpL_X2_toldInAll_4 told post q (nI (sm t i)) (nI i) := by
    intro q
    induction q with
    | zero => intro i h1 h2; omega
    | succ q ih =>
      intro i h1 h2
      rw [wpL_X2_toldInAll_4]
      refine pk_le 5 i (fun h5 => ?_) (fun h5 => ⟨pk_in i 5 h5, ?_⟩)
      · have : i = 5 := by omega
        subst this
        exact h
      · have next := ih (i + 1) (by omega) (by omega)
        have ex : sm t (i + 1) = sm t i + t i := rfl
        rw [ex] at next
        rw [nI_clamp (by omega), hT i h5]
        exact nm_r (nI_add _ _) (nm_r (nI_1 i) next)
  exact ⟨6, main 6 0 (by omega) (by omega)⟩
def frF (P : Nat → Int32) (s c : Nat) : Nat := (frc P s c).toNat
theorem sp_howManyInForce {t : Nat → Nat} {P hm hv : Nat → Int32} (hH : LH t P hm hv) (hP : LWP t P) {x : Int32} {s : Nat} (hx : x = nI s) (hs : SV t s) {post : Int32 → Prop} (h : post (nI (sm (frF P s) 5))) : wp_X2_howManyInForce hm hv x post := by
  unfold wp_X2_howManyInForce
  have main : ∀ q i, i ≤ 5 → 5 < q + i → wpL_X2_howManyInForce_4 hm hv post q x (nI (sm (frF P s) i)) (nI i) := by
    intro q
    induction q with
    | zero => intro i h1 h2; omega
    | succ q ih =>
      intro i h1 h2
      rw [wpL_X2_howManyInForce_4]
      refine pk_le 5 i (fun h5 => ?_) (fun h5 => ?_)
      · have : i = 5 := by omega
        subst this
        exact h
      · have next := ih (i + 1) (by omega) (by omega)
        have ex : sm (frF P s) (i + 1) = sm (frF P s) i + (frc P s i).toNat := rfl
        rw [ex] at next
        refine sp_inForce hH hP.1 hx rfl hs h5 ?_
        refine nbool rfl (fun w => ?_) (fun w => ?_)
        · rw [w] at next
          exact nm_r (by exact nI_add _ 0) (nm_r (nI_1 i) next)
        · rw [w] at next
          exact nm_r (by exact nI_add _ 1) (nm_r (nI_1 i) next)
  exact ⟨6, main 6 0 (by omega) (by omega)⟩
theorem th_div (s t : Nat) : th s t = s / 1024 / 2 ^ t % 2 := by
  show s / 2 ^ (10 + t) % 2 = _
  rw [Nat.pow_add, ← Nat.div_div_eq_div_mul]
theorem w8_count3 {s : Nat} (hs : s < 16384) : (((nI (ph s) &&& (1 : Int32)) + ((nI (ph s) >>> ((1 : Int32) &&& 31)) &&& (1 : Int32))) + ((nI (ph s) >>> ((2 : Int32) &&& 31)) &&& (1 : Int32))) + ((nI (ph s) >>> ((3 : Int32) &&& 31)) &&& (1 : Int32)) = nI (pc4 (s / 1024)) := by
  have hp := ph_lt hs
  have h1 : (nI (ph s) >>> ((1 : Int32) &&& 31)) &&& (1 : Int32) = nI (th s 1) := w8_thing hs (t := 1) (by decide)
  have h2 : (nI (ph s) >>> ((2 : Int32) &&& 31)) &&& (1 : Int32) = nI (th s 2) := w8_thing hs (t := 2) (by decide)
  have h3 : (nI (ph s) >>> ((3 : Int32) &&& 31)) &&& (1 : Int32) = nI (th s 3) := w8_thing hs (t := 3) (by decide)
  have h0 : nI (ph s) &&& (1 : Int32) = nI (th s 0) := by
    rw [pk_andN (by omega) 1 (by decide)]
    have := ph_th hs (t := 0) (by decide)
    rw [← this]
    simp
  rw [h0, h1, h2, h3, nI_add, nI_add, nI_add, th_div, th_div, th_div, th_div]
  congr 1
  unfold pc4
  have e0 : s / 1024 / 2 ^ 0 = s / 1024 := by simp
  rw [e0]
theorem sim_count {N : Nat} (hN : N < 600) {tx_bytes : Nat → Int32} {tx_length : Int32} {md_text : Nat → Int32} {md_textSize : Int32} {lw_told : Nat → Int32} {lw_parts : Nat → Int32} {lw_hangMasks : Nat → Int32} {lw_hangValues : Nat → Int32} {lw_ownSeats : Nat → Int32} {md_forms : Nat → Int32} {md_formMany : Nat → Int32} {md_seats : Nat → Int32} {sl_state : Int32} {md_now : Int32} {sl_rolled : Int32} {md_rolls : Int32} {sl_rollSets : Nat → Int32} {sl_rollActs : Nat → Int32} {md_rollSet : Nat → Int32} {md_rollAct : Nat → Int32} {sl_kept : Nat → Int32} {md_slots : Nat → Int32} {md_isKept : Nat → Int32} {md_barAlways : Int32} {md_noPut : Int32} {se_cameBy : Nat → Int32} {se_runs : Int32} {md_thrown : Int32} (hR : REL N tx_bytes tx_length md_text md_textSize lw_told lw_parts lw_hangMasks lw_hangValues lw_ownSeats md_forms md_formMany md_seats sl_state md_now sl_rolled md_rolls sl_rollSets sl_rollActs md_rollSet md_rollAct sl_kept md_slots md_isKept md_barAlways md_noPut se_cameBy se_runs) (p0 : Int32) {K : Int32 → Int32 → Int32 → Prop} (h : ∀ (r : Int32) (md_thrown1 : Int32), REL (N + 1) tx_bytes tx_length md_text md_textSize lw_told lw_parts lw_hangMasks lw_hangValues lw_ownSeats md_forms md_formMany md_seats sl_state md_now sl_rolled md_rolls sl_rollSets sl_rollActs md_rollSet md_rollAct sl_kept md_slots md_isKept md_barAlways md_noPut se_cameBy se_runs → K r r md_thrown1) : wp_X7_count sl_rolled sl_state lw_told lw_hangMasks lw_hangValues tx_length p0 (fun (r1 : Int32)  => wp_X8_count md_thrown md_textSize md_forms md_formMany md_now md_rolls p0 (fun (r2 : Int32) (md_thrown1 : Int32) => K r1 r2 md_thrown1)) := by
  unfold wp_X7_count
  obtain ⟨⟨nt, hnt, el, ets, -⟩, ⟨t, G, hLa, s, hs, es, en⟩, ⟨rr, S, A, hrr, er1, er2, -⟩, hKe, hBa, hCb⟩ := id hR
  obtain ⟨⟨hP, hH, hT, hG⟩, hSD, hM, hP2, hT2, hD2, hG2⟩ := id hLa
  have hs1 := hs.1
  have m8 : ∀ ans : Int32, wpJ_X8_count_80 md_textSize md_forms md_formMany md_now md_rolls (fun (r2 : Int32) (md_thrown1 : Int32) => r2 = ans) 0 p0 (nI (sm t 5)) (nI (sm (stF s) 5)) (nI (sm (frF lw_parts s) 5)) → wp_X8_count md_thrown md_textSize md_forms md_formMany md_now md_rolls p0 (fun (r2 : Int32) (md_thrown1 : Int32) => K ans r2 md_thrown1) := by
    intro ans ha
    unfold wp_X8_count
    have main : ∀ q i, i ≤ 5 → 5 < q + i → wpL_X8_count_15 md_textSize md_forms md_formMany md_now md_rolls (fun (r2 : Int32) (md_thrown1 : Int32) => K ans r2 md_thrown1) q 0 p0 (nI (sm t i)) (nI (sm (stF s) i)) (nI (sm (frF lw_parts s) i)) (nI i) := by
      intro q
      induction q with
      | zero => intro i h1 h2; omega
      | succ q ih =>
        intro i h1 h2
        rw [wpL_X8_count_15]
        refine pk_le 5 i (fun h5 => ?_) (fun h5 => ⟨pk_in i 5 h5, ?_⟩)
        · have : i = 5 := by omega
          subst this
          unfold wpJ_X8_count_80 at ha ⊢
          have k : ∀ r2 : Int32, r2 = ans → K ans r2 0 := fun r2 e => e ▸ h _ _ hR.succ
          exact ⟨fun a => k _ (ha.1 a), fun a => ⟨fun b => k _ ((ha.2 a).1 b), fun b => ⟨fun c => k _ (((ha.2 a).2 b).1 c), fun c => ⟨fun d => k _ ((((ha.2 a).2 b).2 c).1 d), fun d => ⟨fun e => k _ (((((ha.2 a).2 b).2 c).2 d).1 e), fun e => ⟨fun f => k _ ((((((ha.2 a).2 b).2 c).2 d).2 e).1 f), fun f => k _ ((((((ha.2 a).2 b).2 c).2 d).2 e).2 f)⟩⟩⟩⟩⟩⟩
        · have next := ih (i + 1) (by omega) (by omega)
          have ex1 : sm t (i + 1) = sm t i + t i := rfl
          have ex2 : sm (stF s) (i + 1) = sm (stF s) i + stF s i := rfl
          have ex3 : sm (frF lw_parts s) (i + 1) = sm (frF lw_parts s) i + (frc lw_parts s i).toNat := rfl
          rw [ex1, ex2, ex3] at next
          rw [nI_clamp (by omega), hT2 i h5]
          refine nm_r (nI_add _ _) ?_
          refine sp8_formOf en rfl hs1 h5 ?_
          have hf := fo_lt s i
          have J : ∀ y : Nat, stF s i = y → wpJ_X8_count_49 md_textSize md_forms md_formMany md_now md_rolls (fun y0 y1 y2 y3 y4 y5 => wpL_X8_count_15 md_textSize md_forms md_formMany md_now md_rolls (fun (r2 : Int32) (md_thrown1 : Int32) => K ans r2 md_thrown1) q y0 y1 y2 y3 y4 y5) (fun (r2 : Int32) (md_thrown1 : Int32) => K ans r2 md_thrown1) 0 p0 (nI (sm t i + t i)) (nI (sm (frF lw_parts s) i)) (nI i) (nI (sm (stF s) i)) (nI y) := by
            intro y hy
            rw [hy] at next
            unfold wpJ_X8_count_49
            refine nm_r (nI_add _ _) ?_
            refine sp8_isForce hM hP en rfl hs h5 ?_
            refine nbool rfl (fun w => ?_) (fun w => ?_)
            · rw [w] at next
              exact nm_r (by exact nI_add _ 0) (nm_r (nI_1 i) next)
            · rw [w] at next
              exact nm_r (by exact nI_add _ 1) (nm_r (nI_1 i) next)
          refine pk_le (fo s i) 0 (fun w => J 0 ?_) (fun w => J 1 ?_)
          · unfold stF; rw [if_pos (by omega)]
          · unfold stF; rw [if_neg (by omega)]
    exact ⟨6, main 6 0 (by omega) (by omega)⟩
  refine ⟨fun a0 => ?_, fun a0 => ⟨fun a1 => ?_, fun a1 => ⟨fun a2 => ?_, fun a2 => ⟨fun a3 => ?_, fun a3 => ⟨fun a4 => ?_, fun a4 => ⟨fun a5 => ?_, fun a5 => ?_⟩⟩⟩⟩⟩⟩
  · unfold wp_X6_size
    refine m8 _ ⟨fun _ => by rw [el, ets], fun z => absurd a0 z⟩
  · refine sp_toldInAll hT (m8 _ ⟨fun z => absurd z a0, fun _ => ⟨fun _ => rfl, fun z => absurd a1 z⟩⟩)
  · refine sp_howManyStand es hs1 (m8 _ ⟨fun z => absurd z a0, fun _ => ⟨fun z => absurd z a1, fun _ => ⟨fun _ => rfl, fun z => absurd a2 z⟩⟩⟩)
  · unfold wp_X5_thingsOf
    rw [es, w_thingsOf hs1]
    refine sp_bitCount rfl (by omega) (m8 _ ⟨fun z => absurd z a0, fun _ => ⟨fun z => absurd z a1, fun _ => ⟨fun z => absurd z a2, fun _ => ⟨fun _ => ?_, fun z => absurd a3 z⟩⟩⟩⟩)
    rw [en]
    exact w8_count3 hs1
  · refine m8 _ ⟨fun z => absurd z a0, fun _ => ⟨fun z => absurd z a1, fun _ => ⟨fun z => absurd z a2, fun _ => ⟨fun z => absurd z a3, fun _ => ⟨fun _ => by rw [er1, er2], fun z => absurd a4 z⟩⟩⟩⟩⟩
  · refine sp_howManyInForce hH hP es hs (m8 _ ⟨fun z => absurd z a0, fun _ => ⟨fun z => absurd z a1, fun _ => ⟨fun z => absurd z a2, fun _ => ⟨fun z => absurd z a3, fun _ => ⟨fun z => absurd z a4, fun _ => ⟨fun _ => rfl, fun z => absurd a5 z⟩⟩⟩⟩⟩⟩)
  · refine m8 _ ⟨fun z => absurd z a0, fun _ => ⟨fun z => absurd z a1, fun _ => ⟨fun z => absurd z a2, fun _ => ⟨fun z => absurd z a3, fun _ => ⟨fun z => absurd z a4, fun _ => ⟨fun z => absurd z a5, fun _ => rfl⟩⟩⟩⟩⟩⟩
/-- the least set with the fewest groups -/
def BestW (f : Nat → Bool) (b : Nat) : Prop := b < 16 ∧ f b = true ∧ ∀ x, x < 16 → f x = true → pc4 b < pc4 x ∨ (pc4 b = pc4 x ∧ b ≤ x)
theorem best_uniq {f : Nat → Bool} {a b : Nat} (ha : BestW f a) (hb : BestW f b) : a = b := by
  have h1 := ha.2.2 b hb.1 hb.2.1
  have h2 := hb.2.2 a ha.1 ha.2.1
  omega
def whoA (f : Nat → Bool) (r : Int32) : Prop := ((∀ x, x < 16 → f x = false) ∧ r = -9) ∨ ∃ b, BestW f b ∧ r = nI b
theorem whoA_uniq {f : Nat → Bool} {r q : Int32} (h1 : whoA f r) (h2 : whoA f q) : r = q := by
  rcases h1 with ⟨a, rfl⟩ | ⟨b, hb, rfl⟩
  · rcases h2 with ⟨-, rfl⟩ | ⟨c, hc, -⟩
    · rfl
    · have := a c hc.1
      rw [hc.2.1] at this
      exact absurd this (by decide)
  · rcases h2 with ⟨a, -⟩ | ⟨c, hc, rfl⟩
    · have := a b hb.1
      rw [hb.2.1] at this
      exact absurd this (by decide)
    · rw [best_uniq hb hc]
def rchB (t : Nat → Nat) (P : Nat → Int32) (G : Nat → Nat) (s g set : Nat) : Bool := (bfs (mvs t P G set 0 5) (aft P) s).any (fun e => soN g e.1)
theorem w8_pc {x : Nat} (hx : x < 16) : (((nI x &&& (1 : Int32)) + ((nI x >>> ((1 : Int32) &&& 31)) &&& (1 : Int32))) + ((nI x >>> ((2 : Int32) &&& 31)) &&& (1 : Int32))) + (nI x >>> ((3 : Int32) &&& 31)) = nI (pc4 x) := by
  rcases lt16 hx with rfl | rfl | rfl | rfl | rfl | rfl | rfl | rfl | rfl | rfl | rfl | rfl | rfl | rfl | rfl | rfl <;> decide +kernel
theorem sim_who {N : Nat} (hN : N < 600) {tx_bytes : Nat → Int32} {tx_length : Int32} {md_text : Nat → Int32} {md_textSize : Int32} {lw_told : Nat → Int32} {lw_parts : Nat → Int32} {lw_hangMasks : Nat → Int32} {lw_hangValues : Nat → Int32} {lw_ownSeats : Nat → Int32} {md_forms : Nat → Int32} {md_formMany : Nat → Int32} {md_seats : Nat → Int32} {sl_state : Int32} {md_now : Int32} {sl_rolled : Int32} {md_rolls : Int32} {sl_rollSets : Nat → Int32} {sl_rollActs : Nat → Int32} {md_rollSet : Nat → Int32} {md_rollAct : Nat → Int32} {sl_kept : Nat → Int32} {md_slots : Nat → Int32} {md_isKept : Nat → Int32} {md_barAlways : Int32} {md_noPut : Int32} {se_cameBy : Nat → Int32} {se_runs : Int32} {se_order : Nat → Int32} {se_from : Nat → Int32} {se_length : Int32} {sg_ownVotes : Nat → Int32} {sg_votes : Nat → Int32} {sg_rows : Nat → Int32} {sg_groups : Int32} {sg_bars : Int32} {sg_now : Int32} {sg_forced : Int32} {sg_barred : Int32} {sg_mayActs : Nat → Int32} {sg_mayEnds : Nat → Int32} {sg_mays : Int32} {md_thrown : Int32} {md_far : Nat → Int32} {md_queue : Nat → Int32} {md_from : Nat → Int32} {md_by : Nat → Int32} {md_many : Int32} (hR : REL N tx_bytes tx_length md_text md_textSize lw_told lw_parts lw_hangMasks lw_hangValues lw_ownSeats md_forms md_formMany md_seats sl_state md_now sl_rolled md_rolls sl_rollSets sl_rollActs md_rollSet md_rollAct sl_kept md_slots md_isKept md_barAlways md_noPut se_cameBy se_runs) (p0 : Int32) {K : Int32 → Int32 → (Nat → Int32) → (Nat → Int32) → (Nat → Int32) → Int32 → Int32 → (Nat → Int32) → (Nat → Int32) → (Nat → Int32) → Int32 → Int32 → Int32 → Int32 → Int32 → (Nat → Int32) → (Nat → Int32) → Int32 → Int32 → (Nat → Int32) → (Nat → Int32) → (Nat → Int32) → (Nat → Int32) → Int32 → Prop} (h : ∀ (r : Int32) (se_order1 : Nat → Int32) (se_from1 : Nat → Int32) (se_cameBy1 : Nat → Int32) (se_runs1 : Int32) (se_length1 : Int32) (sg_ownVotes1 : Nat → Int32) (sg_votes1 : Nat → Int32) (sg_rows1 : Nat → Int32) (sg_groups1 : Int32) (sg_bars1 : Int32) (sg_now1 : Int32) (sg_forced1 : Int32) (sg_barred1 : Int32) (sg_mayActs1 : Nat → Int32) (sg_mayEnds1 : Nat → Int32) (sg_mays1 : Int32) (md_thrown1 : Int32) (md_far1 : Nat → Int32) (md_queue1 : Nat → Int32) (md_from1 : Nat → Int32) (md_by1 : Nat → Int32) (md_many1 : Int32), REL (N + 1) tx_bytes tx_length md_text md_textSize lw_told lw_parts lw_hangMasks lw_hangValues lw_ownSeats md_forms md_formMany md_seats sl_state md_now sl_rolled md_rolls sl_rollSets sl_rollActs md_rollSet md_rollAct sl_kept md_slots md_isKept md_barAlways md_noPut se_cameBy1 se_runs1 → K r r se_order1 se_from1 se_cameBy1 se_runs1 se_length1 sg_ownVotes1 sg_votes1 sg_rows1 sg_groups1 sg_bars1 sg_now1 sg_forced1 sg_barred1 sg_mayActs1 sg_mayEnds1 sg_mays1 md_thrown1 md_far1 md_queue1 md_from1 md_by1 md_many1) : wp_X7_who sl_state se_order se_from se_cameBy se_runs se_length sg_ownVotes sg_votes sg_rows sg_groups sg_bars sg_now sg_forced sg_barred sg_mayActs sg_mayEnds sg_mays lw_told lw_parts lw_hangMasks lw_hangValues lw_ownSeats p0 (fun (r1 : Int32) (se_order1 : Nat → Int32) (se_from1 : Nat → Int32) (se_cameBy1 : Nat → Int32) (se_runs1 : Int32) (se_length1 : Int32) (sg_ownVotes1 : Nat → Int32) (sg_votes1 : Nat → Int32) (sg_rows1 : Nat → Int32) (sg_groups1 : Int32) (sg_bars1 : Int32) (sg_now1 : Int32) (sg_forced1 : Int32) (sg_barred1 : Int32) (sg_mayActs1 : Nat → Int32) (sg_mayEnds1 : Nat → Int32) (sg_mays1 : Int32) => wp_X8_who md_thrown md_forms md_formMany md_seats md_now md_barAlways md_noPut md_far md_queue md_from md_by md_many p0 (fun (r2 : Int32) (md_thrown1 : Int32) (md_far1 : Nat → Int32) (md_queue1 : Nat → Int32) (md_from1 : Nat → Int32) (md_by1 : Nat → Int32) (md_many1 : Int32) => K r1 r2 se_order1 se_from1 se_cameBy1 se_runs1 se_length1 sg_ownVotes1 sg_votes1 sg_rows1 sg_groups1 sg_bars1 sg_now1 sg_forced1 sg_barred1 sg_mayActs1 sg_mayEnds1 sg_mays1 md_thrown1 md_far1 md_queue1 md_from1 md_by1 md_many1)) := by
  unfold wp_X7_who
  obtain ⟨hRT, ⟨t, G, hLa, s, hs, es, en⟩, hRo, hKe, hBa, R, hRN, hCB⟩ := id hR
  obtain ⟨hLW, hSD, hML⟩ := id hLa
  rcases goal_cases p0 with ⟨g, hg, hp⟩ | hb
  · refine sp_goalExists hp hg (y1 ?_)
    have m8 : ∀ (ans : Int32) (R2 : Nat) o f c r l ov v rr gr ba n fz b a e m, R2 ≤ R + 80 → CB c r R2 → whoA (rchB t lw_parts G s g) ans → wp_X8_who md_thrown md_forms md_formMany md_seats md_now md_barAlways md_noPut md_far md_queue md_from md_by md_many p0 (fun (r2 : Int32) (md_thrown1 : Int32) (md_far1 : Nat → Int32) (md_queue1 : Nat → Int32) (md_from1 : Nat → Int32) (md_by1 : Nat → Int32) (md_many1 : Int32) => K ans r2 o f c r l ov v rr gr ba n fz b a e m md_thrown1 md_far1 md_queue1 md_from1 md_by1 md_many1) := by
      intro ans R2 o f c r l ov v rr gr ba n fz b a e m hR2 hCB2 hans
      have hR3 : REL (N + 1) tx_bytes tx_length md_text md_textSize lw_told lw_parts lw_hangMasks lw_hangValues lw_ownSeats md_forms md_formMany md_seats sl_state md_now sl_rolled md_rolls sl_rollSets sl_rollActs md_rollSet md_rollAct sl_kept md_slots md_isKept md_barAlways md_noPut c r := ⟨hRT, ⟨t, G, hLa, s, hs, es, en⟩, hRo, hKe, hBa, R2, by omega, hCB2⟩
      unfold wp_X8_who
      refine sp8_noGoal hp hg (y0' ?_)
      have main : ∀ q i, i ≤ 16 → 16 < q + i → ∀ (found fewest : Int32), ((found = -9 ∧ fewest = 5 ∧ ∀ x, x < i → rchB t lw_parts G s g x = false) ∨ ∃ bb, bb < i ∧ found = nI bb ∧ fewest = nI (pc4 bb) ∧ rchB t lw_parts G s g bb = true ∧ ∀ x, x < i → rchB t lw_parts G s g x = true → pc4 bb < pc4 x ∨ (pc4 bb = pc4 x ∧ bb ≤ x)) → ∀ fa8 q8 f8 b8 m8, wpL_X8_who_23 md_forms md_formMany md_seats md_now md_barAlways md_noPut (fun (r2 : Int32) (md_thrown1 : Int32) (md_far1 : Nat → Int32) (md_queue1 : Nat → Int32) (md_from1 : Nat → Int32) (md_by1 : Nat → Int32) (md_many1 : Int32) => K ans r2 o f c r l ov v rr gr ba n fz b a e m md_thrown1 md_far1 md_queue1 md_from1 md_by1 md_many1) q 0 fa8 q8 f8 b8 m8 p0 found fewest (nI i) := by
        intro q
        induction q with
        | zero => intro i h1 h2; omega
        | succ q ih =>
          intro i h1 h2 found fewest hinv fa8 q8 f8 b8 m8
          rw [wpL_X8_who_23]
          refine pk_lt 15 i (fun h5 => ?_) (fun h5 => ?_)
          · have h16 : i = 16 := by omega
            subst h16
            have : whoA (rchB t lw_parts G s g) found := by
              rcases hinv with ⟨e1, -, e3⟩ | ⟨bb, w1, w2, -, w4, w5⟩
              · exact Or.inl ⟨e3, e1⟩
              · exact Or.inr ⟨bb, ⟨w1, w4, w5⟩, w2⟩
            rw [whoA_uniq hans this]
            exact h _ _ _ _ _ _ _ _ _ _ _ _ _ _ _ _ _ _ _ _ _ _ _ hR3
          · have h6 : i < 16 := by omega
            refine nm_r (w8_pc h6) ?_
            have hpi := pc4_le i
            -- fewest is a small number
            obtain ⟨fw, hfw, efw⟩ : ∃ fw, fw ≤ 5 ∧ fewest = nI fw := by
              rcases hinv with ⟨-, e2, -⟩ | ⟨bb, -, -, w3, -⟩
              · exact ⟨5, by omega, e2⟩
              · exact ⟨_, by have := pc4_le bb; omega, w3⟩
            rw [efw]
            refine pk_le fw (pc4 i) (fun w => ?_) (fun w => ?_)
            · rw [← efw]
              refine nm_r (nI_1 i) (ih (i + 1) (by omega) (by omega) _ _ ?_ _ _ _ _ _)
              rcases hinv with ⟨e1, e2, e3⟩ | ⟨bb, w1, w2, w3, w4, w5⟩
              · rw [e2] at efw
                have : fw = 5 := ((nI_eq (a := 5) (by decide) (by omega)).mp efw).symm
                omega
              · have hfe : fw = pc4 bb := by
                  rw [w3] at efw
                  exact ((nI_eq (by have := pc4_le bb; omega) (by omega)).mp efw).symm
                refine Or.inr ⟨bb, by omega, w2, w3, w4, fun x hx hfx => ?_⟩
                by_cases z : x = i
                · subst z; omega
                · exact w5 x (by omega) hfx
            · refine sp8_wave hML (ba0 hBa.1) (np5 hBa.2) h6 h6 hs en rfl rfl (fun fa qu fr b2 m2 hM => ?_)
              rw [umv_same] at hM
              have hGL := bfs_GL (cmv_ok hLW.1 (G := G) (set := i) (bars := 0) (np := 5)) hs
              refine sp8_firstSo hM hGL hg hp (fun hno => ⟨fun _ => ?_, fun z => absurd rfl z⟩) (fun j e3 he3 hs3 _ => ⟨fun z => ?_, fun _ => ?_⟩)
              · have hfi : rchB t lw_parts G s g i = false := by
                  unfold rchB
                  rw [List.any_eq_false]
                  intro x hx
                  rw [hno x hx]
                  decide
                rw [← efw]
                refine nm_r (nI_1 i) (ih (i + 1) (by omega) (by omega) _ _ ?_ _ _ _ _ _)
                rcases hinv with ⟨e1, e2, e3⟩ | ⟨bb, w1, w2, w3, w4, w5⟩
                · refine Or.inl ⟨e1, e2, fun x hx => ?_⟩
                  by_cases z : x = i
                  · subst z; exact hfi
                  · exact e3 x (by omega)
                · refine Or.inr ⟨bb, by omega, w2, w3, w4, fun x hx hfx => ?_⟩
                  by_cases z : x = i
                  · subst z; rw [hfi] at hfx; exact absurd hfx (by decide)
                  · exact w5 x (by omega) hfx
              · have hv := (hGL.2.1 _ (List.mem_of_getElem? he3)).1
                have := ph_lt hv
                exact absurd z (neg9 (by omega))
              · have hfi : rchB t lw_parts G s g i = true := by
                  unfold rchB
                  rw [List.any_eq_true]
                  exact ⟨e3, List.mem_of_getElem? he3, hs3⟩
                refine nm_r (nI_1 i) (ih (i + 1) (by omega) (by omega) _ _ ?_ _ _ _ _ _)
                refine Or.inr ⟨i, by omega, rfl, rfl, hfi, fun x hx hfx => ?_⟩
                by_cases z : x = i
                · subst z; exact Or.inr ⟨rfl, Nat.le_refl _⟩
                · rcases hinv with ⟨e1, e2, e3⟩ | ⟨bb, w1, w2, w3, w4, w5⟩
                  · rw [e3 x (by omega)] at hfx; exact absurd hfx (by decide)
                  · have hfe : fw = pc4 bb := by
                      rw [w3] at efw
                      exact ((nI_eq (by have := pc4_le bb; omega) (by omega)).mp efw).symm
                    have := w5 x (by omega) hfx
                    omega
      exact ⟨17, main 17 0 (by omega) (by omega) _ _ (Or.inl ⟨rfl, rfl, fun x hx => absurd hx (Nat.not_lt_zero x)⟩) _ _ _ _ _⟩
    -- the class: groups, then sets
    have inner : ∀ (Kc : (Nat → Int32) → (Nat → Int32) → (Nat → Int32) → Int32 → Int32 → (Nat → Int32) → (Nat → Int32) → (Nat → Int32) → Int32 → Int32 → Int32 → Int32 → Int32 → (Nat → Int32) → (Nat → Int32) → Int32 → Int32 → Int32 → Prop) (gr0 : Nat), gr0 ≤ 4 → (∀ R2 o f c r l ov v rr gr ba n fz b a e m, R2 ≤ R + 16 * (gr0 + 1) → CB c r R2 → (∀ x, x < 16 → rchB t lw_parts G s g x = true → gr0 < pc4 x) → Kc o f c r l ov v rr gr ba n fz b a e m p0 (nI (gr0 + 1))) → ∀ q i, i ≤ 16 → 16 < q + i → (∀ x, x < 16 → rchB t lw_parts G s g x = true → gr0 < pc4 x ∨ (gr0 = pc4 x ∧ i ≤ x)) → ∀ R2 o f c r l ov v rr gr ba n fz b a e m, R2 ≤ R + 16 * gr0 + i → CB c r R2 → wpL_X7_who_19 sl_state lw_told lw_parts lw_hangMasks lw_hangValues lw_ownSeats Kc (fun (r1 : Int32) (se_order1 : Nat → Int32) (se_from1 : Nat → Int32) (se_cameBy1 : Nat → Int32) (se_runs1 : Int32) (se_length1 : Int32) (sg_ownVotes1 : Nat → Int32) (sg_votes1 : Nat → Int32) (sg_rows1 : Nat → Int32) (sg_groups1 : Int32) (sg_bars1 : Int32) (sg_now1 : Int32) (sg_forced1 : Int32) (sg_barred1 : Int32) (sg_mayActs1 : Nat → Int32) (sg_mayEnds1 : Nat → Int32) (sg_mays1 : Int32) => wp_X8_who md_thrown md_forms md_formMany md_seats md_now md_barAlways md_noPut md_far md_queue md_from md_by md_many p0 (fun (r2 : Int32) (md_thrown1 : Int32) (md_far1 : Nat → Int32) (md_queue1 : Nat → Int32) (md_from1 : Nat → Int32) (md_by1 : Nat → Int32) (md_many1 : Int32) => K r1 r2 se_order1 se_from1 se_cameBy1 se_runs1 se_length1 sg_ownVotes1 sg_votes1 sg_rows1 sg_groups1 sg_bars1 sg_now1 sg_forced1 sg_barred1 sg_mayActs1 sg_mayEnds1 sg_mays1 md_thrown1 md_far1 md_queue1 md_from1 md_by1 md_many1)) q o f c r l ov v rr gr ba n fz b a e m p0 (nI gr0) (nI i) := by
      intro Kc gr0 hg0 hK q
      induction q with
      | zero => intro i h1 h2; omega
      | succ q ih =>
        intro i h1 h2 hinv R2 o f c r l ov v rr gr ba n fz b a e m hR2 hC
        rw [wpL_X7_who_19]
        refine pk_le 16 i (fun h5 => ?_) (fun h5 => ?_)
        · refine nm_r (nI_1 gr0) (hK R2 _ _ _ _ _ _ _ _ _ _ _ _ _ _ _ _ (by omega) hC (fun x hx hf => ?_))
          rcases hinv x hx hf with z | z
          · exact z
          · omega
        · have hpi := pc4_le i
          refine sp_bitCount rfl h5 ?_
          refine pk_eq' (pc4 i) gr0 (fun w => ?_) (fun w => ?_)
          · refine nm_r (nI_1 i) (ih (i + 1) (by omega) (by omega) (fun x hx hf => ?_) R2 _ _ _ _ _ _ _ _ _ _ _ _ _ _ _ _ (by omega) hC)
            rcases hinv x hx hf with z | z
            · exact Or.inl z
            · by_cases y : x = i
              · subst y; omega
              · exact Or.inr ⟨z.1, by omega⟩
          · refine sp_findAs hLW hSD hC (by omega) hs es h5 rfl hg hp ?_
            intro L ans o2 f2 c2 r2 l2 ov2 v2 rr2 gr2 ba2 n2 fz2 b2 a2 e2 m2 hF hC2
            obtain ⟨hGL2, hpre, hcase⟩ := hF
            rcases hcase with ⟨ha, hL, hall⟩ | ⟨j, e3, he3, ha, hso, -⟩
            · have hfi : rchB t lw_parts G s g i = false := by
                unfold rchB
                rw [List.any_eq_false]
                intro x hx
                exact hall x (hL ▸ hx)
              rw [ha]
              refine ⟨fun _ => nm_r (nI_1 i) (ih (i + 1) (by omega) (by omega) (fun x hx hf => ?_) (R2 + 1) _ _ _ _ _ _ _ _ _ _ _ _ _ _ _ _ (by omega) (hC2.cb (by omega))), fun z => absurd rfl z⟩
              rcases hinv x hx hf with z | z
              · exact Or.inl z
              · by_cases y : x = i
                · subst y; rw [hfi] at hf; exact absurd hf (by decide)
                · exact Or.inr ⟨z.1, by omega⟩
            · have hfi : rchB t lw_parts G s g i = true := by
                unfold rchB
                rw [List.any_eq_true]
                exact ⟨e3, List.mem_of_getElem? (pre_get hpre he3), hso⟩
              have hv := (hGL2.2.1 _ (List.mem_of_getElem? he3)).1
              rw [ha]
              refine ⟨fun z => absurd z (neg9 (by omega)), fun _ => ?_⟩
              refine m8 _ (R2 + 1) _ _ _ _ _ _ _ _ _ _ _ _ _ _ _ _ (by omega) (hC2.cb (by omega)) (Or.inr ⟨i, ⟨h5, hfi, fun x hx hf => ?_⟩, rfl⟩)
              rw [w]
              exact hinv x hx hf
    have outer : ∀ q i, i ≤ 5 → 5 < q + i → (∀ x, x < 16 → rchB t lw_parts G s g x = true → i ≤ pc4 x) → ∀ R2 o f c r l ov v rr gr ba n fz b a e m, R2 ≤ R + 16 * i → CB c r R2 → wpL_X7_who_12 sl_state lw_told lw_parts lw_hangMasks lw_hangValues lw_ownSeats (fun (r1 : Int32) (se_order1 : Nat → Int32) (se_from1 : Nat → Int32) (se_cameBy1 : Nat → Int32) (se_runs1 : Int32) (se_length1 : Int32) (sg_ownVotes1 : Nat → Int32) (sg_votes1 : Nat → Int32) (sg_rows1 : Nat → Int32) (sg_groups1 : Int32) (sg_bars1 : Int32) (sg_now1 : Int32) (sg_forced1 : Int32) (sg_barred1 : Int32) (sg_mayActs1 : Nat → Int32) (sg_mayEnds1 : Nat → Int32) (sg_mays1 : Int32) => wp_X8_who md_thrown md_forms md_formMany md_seats md_now md_barAlways md_noPut md_far md_queue md_from md_by md_many p0 (fun (r2 : Int32) (md_thrown1 : Int32) (md_far1 : Nat → Int32) (md_queue1 : Nat → Int32) (md_from1 : Nat → Int32) (md_by1 : Nat → Int32) (md_many1 : Int32) => K r1 r2 se_order1 se_from1 se_cameBy1 se_runs1 se_length1 sg_ownVotes1 sg_votes1 sg_rows1 sg_groups1 sg_bars1 sg_now1 sg_forced1 sg_barred1 sg_mayActs1 sg_mayEnds1 sg_mays1 md_thrown1 md_far1 md_queue1 md_from1 md_by1 md_many1)) q o f c r l ov v rr gr ba n fz b a e m p0 (nI i) := by
      intro q
      induction q with
      | zero => intro i h1 h2; omega
      | succ q ih =>
        intro i h1 h2 hinv R2 o f c r l ov v rr gr ba n fz b a e m hR2 hC
        rw [wpL_X7_who_12]
        refine pk_lt 4 i (fun h5 => ?_) (fun h5 => ⟨17, ?_⟩)
        · refine m8 _ R2 _ _ _ _ _ _ _ _ _ _ _ _ _ _ _ _ (by omega) hC (Or.inl ⟨fun x hx => ?_, rfl⟩)
          cases hf : rchB t lw_parts G s g x
          · rfl
          · have h8 := hinv x hx hf
            have h9 := pc4_le x
            omega
        · refine inner _ i h5 (fun R3 o3 f3 c3 r3 l3 ov3 v3 rr3 gr3 ba3 n3 fz3 b3 a3 e3 m3 h8 h9 h10 => ih (i + 1) (by omega) (by omega) (fun x hx hf => h10 x hx hf) R3 _ _ _ _ _ _ _ _ _ _ _ _ _ _ _ _ (by omega) h9) 17 0 (by omega) (by omega) (fun x hx hf => ?_) R2 _ _ _ _ _ _ _ _ _ _ _ _ _ _ _ _ (by omega) hC
          have := hinv x hx hf
          omega
    exact ⟨6, outer 6 0 (by omega) (by omega) (fun x hx hf => Nat.zero_le _) R _ _ _ _ _ _ _ _ _ _ _ _ _ _ _ _ (by omega) hCB⟩
  · refine sp_goalExists_bad hb (y0 ?_)
    unfold wp_X8_who
    exact sp8_noGoal_bad hb (y1' (h _ _ _ _ _ _ _ _ _ _ _ _ _ _ _ _ _ _ _ _ _ _ _ hR.succ))
