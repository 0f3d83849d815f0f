def wgN (t : Nat → Nat) (k : Nat) : Nat → Nat
  | 0 => k
  | i + 1 => if fo k i ≤ t i then wgN t k i else pu (wgN t k i) i 0
theorem wg_lt {t : Nat → Nat} {k : Nat} (hk : k < 16384) : ∀ i, i ≤ 5 → wgN t k i < 16384 := by
  intro i
  induction i with
  | zero => intro _; exact hk
  | succ i ih =>
    intro h
    show (if _ then _ else _) < 16384
    split
    · exact ih (by omega)
    · exact pu_lt (ih (by omega)) (by omega) (by omega)
theorem wg_fo {t : Nat → Nat} {k : Nat} (hk : k < 16384) : ∀ i, i ≤ 5 → ∀ d, d < 5 → fo (wgN t k i) d = if d < i ∧ t d < fo k d then 0 else fo k d := by
  intro i
  induction i with
  | zero => intro _ d _; rw [if_neg (by omega)]; rfl
  | succ i ih =>
    intro h d hd
    have e := ih (by omega) d hd
    show fo (if fo k i ≤ t i then wgN t k i else pu (wgN t k i) i 0) d = _
    by_cases q : fo k i ≤ t i
    · rw [if_pos q, e]
      by_cases w : d = i
      · subst w
        rw [if_neg (by omega), if_neg (by omega)]
      · by_cases z : d < i ∧ t d < fo k d
        · rw [if_pos z, if_pos ⟨by omega, z.2⟩]
        · rw [if_neg z, if_neg (fun y => z ⟨by omega, y.2⟩)]
    · rw [if_neg q, fo_pu (wg_lt hk i (by omega)) (by omega) (by omega) hd]
      by_cases w : d = i
      · subst w
        rw [if_pos rfl, if_pos ⟨by omega, by omega⟩]
      · rw [if_neg w, e]
        by_cases z : d < i ∧ t d < fo k d
        · rw [if_pos z, if_pos ⟨by omega, z.2⟩]
        · rw [if_neg z, if_neg (fun y => z ⟨by omega, y.2⟩)]
theorem wg_sv {t : Nat → Nat} {k : Nat} (hk : k < 16384) : SV t (wgN t k 5) := by
  refine ⟨wg_lt hk 5 (by omega), fun c hc => ?_⟩
  rw [wg_fo hk 5 (by omega) c hc]
  split
  · omega
  · rename_i q
    exact Nat.le_of_not_lt (fun z => q ⟨hc, z⟩)
def dfF (s k c : Nat) : Nat := if fo s c = fo k c then 0 else 1
def dtF (s k t : Nat) : Nat := if th s t = th k t then 0 else 1
theorem xr16 : ∀ a, a < 16 → ∀ b, b < 16 → sm (fun t => if b / 2 ^ t % 2 = a / 2 ^ t % 2 then 0 else 1) 4 = pc4 (Nat.xor a b) ∧ Nat.xor a b < 16 := by decide +kernel
theorem sm_dt {s k : Nat} (hs : s < 16384) (hk : k < 16384) : sm (dtF k s) 4 = pc4 (Nat.xor (s / 1024) (k / 1024)) := by
  have e : dtF k s = fun t => if k / 1024 / 2 ^ t % 2 = s / 1024 / 2 ^ t % 2 then 0 else 1 := by
    funext t
    unfold dtF
    rw [th_div, th_div]
  rw [e]
  exact (xr16 _ (by omega) _ (by omega)).1
theorem sp_without {t : Nat → Nat} {told : Nat → Int32} (hT : TD t told) (ht : ∀ c, c < 5 → t c ≤ 3) {x : Int32} {k : Nat} (hx : x = nI k) (hk : k < 16384) {post : Int32 → Prop} (h : post (nI (wgN t k 5))) : wp_X2_withoutGoneForms told x post := by
  unfold wp_X2_withoutGoneForms
  have main : ∀ q i, i ≤ 5 → 5 < q + i → wpL_X2_withoutGoneForms_4 told post q x (nI (wgN t k i)) (nI i) := by
    intro q
    induction q with
    | zero => intro i h1 h2; omega
    | succ q ih =>
      intro i h1 h2
      rw [wpL_X2_withoutGoneForms_4]
      refine pk_le 5 i (fun h5 => ?_) (fun h5 => ?_)
      · have : i = 5 := by omega
        subst this
        exact h
      · have next := ih (i + 1) (by omega) (by omega)
        have ex : wgN t k (i + 1) = if fo k i ≤ t i then wgN t k i else pu (wgN t k i) i 0 := rfl
        rw [ex] at next
        have htc := ht i h5
        refine sp_X5_formOf hx rfl (by omega) h5 ⟨pk_in i 5 h5, ?_⟩
        rw [nI_clamp (by omega), hT i h5]
        have hf := fo_lt k i
        refine pk_le (fo k i) (t i) (fun w => ?_) (fun w => ?_)
        · rw [if_pos w] at next
          exact nm_r (nI_1 i) next
        · rw [if_neg (by omega)] at next
          exact sp_X5_put rfl rfl (f := 0) rfl (wg_lt hk i (by omega)) h5 (by decide) (nm_r (nI_1 i) next)
  exact ⟨6, by rw [show wpL_X2_withoutGoneForms_4 told post 6 x x 0 = wpL_X2_withoutGoneForms_4 told post 6 x (nI (wgN t k 0)) (nI 0) from by rw [hx]; rfl]; exact main 6 0 (by omega) (by omega)⟩
theorem sp_differences {x y : Int32} {s k : Nat} (hx : x = nI s) (hs : s < 16384) (hy : y = nI k) (hk : k < 16384) {post : Int32 → Prop} (h : post (nI (pc4 (Nat.xor (s / 1024) (k / 1024)) + sm (dfF s k) 5))) : wp_X5_differences x y post := by
  unfold wp_X5_differences wp_X5_thingsOf
  rw [hx, w_thingsOf hs, hy, w_thingsOf hk]
  show wp_J6_bitCount_0f7a4 (nI (s / 1024) ^^^ nI (k / 1024)) _
  rw [nb_xor (by omega) (by omega)]
  have x16 := (xr16 (s / 1024) (by omega) (k / 1024) (by omega)).2
  refine sp_bitCount rfl x16 ?_
  have hp := pc4_le (Nat.xor (s / 1024) (k / 1024))
  revert hp h
  generalize pc4 (Nat.xor (s / 1024) (k / 1024)) = a
  intro h hp
  have main : ∀ q i, i ≤ 5 → 5 < q + i → wpL_X5_differences_15 post q (nI s) (nI k) (nI (a + sm (dfF s k) i)) (nI i) := by
    intro q
    induction q with
    | zero => intro i h1 h2; omega
    | succ q ih =>
      intro i h1 h2
      rw [wpL_X5_differences_15]
      refine pk_le 5 i (fun h5 => ?_) (fun h5 => ?_)
      · have : i = 5 := by omega
        subst this
        exact h
      · have next := ih (i + 1) (by omega) (by omega)
        have ex : sm (dfF s k) (i + 1) = sm (dfF s k) i + dfF s k i := rfl
        rw [ex, ← Nat.add_assoc] at next
        refine sp_X5_formOf rfl rfl (by omega) h5 ?_
        refine sp_X5_formOf rfl rfl (by omega) h5 ?_
        have hf := fo_lt s i
        have hf2 := fo_lt k i
        refine pk_eq (fo s i) (fo k i) (fun w => ?_) (fun w => ?_)
        · have : dfF s k i = 0 := by unfold dfF; rw [if_pos w]
          rw [this] at next
          exact nm_r (by exact nI_add _ 0) (nm_r (nI_1 i) next)
        · have : dfF s k i = 1 := by unfold dfF; rw [if_neg w]
          rw [this] at next
          exact nm_r (by exact nI_add _ 1) (nm_r (nI_1 i) next)
  exact ⟨6, main 6 0 (by omega) (by omega)⟩
theorem sim_again {N : Nat} (hN : N < 600) {tx_bytes : Nat → Int32} {tx_length : Int32} {md_text : Nat → Int32} {md_textSize : Int32} {lw_told : Nat → Int32} {lw_parts : Nat → Int32} {lw_hangMasks : Nat → Int32} {lw_hangValues : Nat → Int32} {lw_ownSeats : Nat → Int32} {md_forms : Nat → Int32} {md_formMany : Nat → Int32} {md_seats : Nat → Int32} {sl_state : Int32} {md_now : Int32} {sl_rolled : Int32} {md_rolls : Int32} {sl_rollSets : Nat → Int32} {sl_rollActs : Nat → Int32} {md_rollSet : Nat → Int32} {md_rollAct : Nat → Int32} {sl_kept : Nat → Int32} {md_slots : Nat → Int32} {md_isKept : Nat → Int32} {md_barAlways : Int32} {md_noPut : Int32} {se_cameBy : Nat → Int32} {se_runs : Int32} {md_thrown : Int32} (hR : REL N tx_bytes tx_length md_text md_textSize lw_told lw_parts lw_hangMasks lw_hangValues lw_ownSeats md_forms md_formMany md_seats sl_state md_now sl_rolled md_rolls sl_rollSets sl_rollActs md_rollSet md_rollAct sl_kept md_slots md_isKept md_barAlways md_noPut se_cameBy se_runs) (p0 : Int32) {K : Int32 → Int32 → Int32 → Int32 → Int32 → Prop} (h : ∀ (r : Int32) (sl_state1 : Int32) (md_thrown1 : Int32) (md_now1 : Int32), REL (N + 1) tx_bytes tx_length md_text md_textSize lw_told lw_parts lw_hangMasks lw_hangValues lw_ownSeats md_forms md_formMany md_seats sl_state1 md_now1 sl_rolled md_rolls sl_rollSets sl_rollActs md_rollSet md_rollAct sl_kept md_slots md_isKept md_barAlways md_noPut se_cameBy se_runs → K r r sl_state1 md_thrown1 md_now1) : wp_X7_again sl_kept sl_state lw_told p0 (fun (r1 : Int32) (sl_state1 : Int32) => wp_X8_again md_thrown md_formMany md_now md_slots md_isKept p0 (fun (r2 : Int32) (md_thrown1 : Int32) (md_now1 : Int32) => K r1 r2 sl_state1 md_thrown1 md_now1)) := by
  unfold wp_X7_again
  obtain ⟨hRT, ⟨t, G, hLa, s, hs, es, en⟩, hRo, hKe, hBa, hCb⟩ := id hR
  obtain ⟨⟨hP, hH, hT, hG⟩, hSD, hM, hP2, hT2, hD2, hG2⟩ := id hLa
  have hs1 := hs.1
  rcases range_cases p0 3 (by decide) with ⟨c, hc, hp⟩ | hb
  · have hcl : p0.toNatClampNeg = c := by rw [hp]; exact nI_clamp (by omega)
    refine pk_lt c 0 (fun z => by omega) (fun _ => pk_lt c 3 (fun _ => ⟨pk_in c 3 hc hp, ?_⟩) (fun z => by omega) hp) hp
    rw [hcl]
    rcases hKe c hc with ⟨w1, w2⟩ | ⟨w1, k, hk, w2, w3⟩
    · refine ⟨fun q => absurd w2 q, fun _ => ?_⟩
      unfold wp_X8_again
      refine in_yes hp (by omega) 0 2 (by decide) (by decide) (by omega) (by omega) (y1 ⟨pk_in c 3 hc hp, ?_⟩)
      rw [hcl]
      exact ⟨fun q => absurd w1 q, fun _ => h _ _ _ _ hR.succ⟩
    · refine ⟨fun _ => ⟨pk_in c 3 hc hp, ?_⟩, fun q => ?_⟩
      · have hwl := wg_lt (t := t) hk 5 (by omega)
        refine sp_without hT hP.1 w2 hk (sp_differences es hs1 rfl hwl ?_)
        unfold wp_X8_again
        refine in_yes hp (by omega) 0 2 (by decide) (by decide) (by omega) (by omega) (y1 ⟨pk_in c 3 hc hp, ?_⟩)
        rw [hcl]
        refine ⟨fun _ => ⟨pk_in c 3 hc hp, nm_e ?_⟩, fun q => absurd (q ▸ w1) (by decide)⟩
        rw [w3, en]
        have fin := fun r => h r _ 0 _ (show REL (N + 1) tx_bytes tx_length md_text md_textSize lw_told lw_parts lw_hangMasks lw_hangValues lw_ownSeats md_forms md_formMany md_seats (nI (wgN t k 5)) (nI (ph (wgN t k 5))) sl_rolled md_rolls sl_rollSets sl_rollActs md_rollSet md_rollAct sl_kept md_slots md_isKept md_barAlways md_noPut se_cameBy se_runs from ⟨hRT, ⟨t, G, hLa, _, wg_sv hk, rfl, rfl⟩, hRo, hKe, hBa, hCb.succ⟩)
        have loop2 : ∀ q i, i ≤ 4 → 4 < q + i → wpL_X8_again_112 md_formMany md_slots md_isKept (fun (r2 : Int32) (md_thrown1 : Int32) (md_now1 : Int32) => K (nI (pc4 (Nat.xor (s / 1024) (wgN t k 5 / 1024)) + sm (dfF s (wgN t k 5)) 5)) r2 (nI (wgN t k 5)) md_thrown1 md_now1) q 0 (nI (ph s)) (nI (ph (wgN t k 5))) (nI (sm (dfF s (wgN t k 5)) 5 + sm (dtF (wgN t k 5) s) i)) (nI i) := by
          intro q
          induction q with
          | zero => intro i h1 h2; omega
          | succ q ih =>
            intro i h1 h2
            rw [wpL_X8_again_112]
            refine pk_le 4 i (fun h5 => ?_) (fun h5 => ?_)
            · have : i = 4 := by omega
              subst this
              rw [sm_dt hs1 hwl, Nat.add_comm]
              exact fin _
            · have next := ih (i + 1) (by omega) (by omega)
              have ex : sm (dtF (wgN t k 5) s) (i + 1) = sm (dtF (wgN t k 5) s) i + dtF (wgN t k 5) s i := rfl
              rw [ex, ← Nat.add_assoc] at next
              rw [w8_thing hwl h5, w8_thing hs1 h5]
              have b1 : th (wgN t k 5) i < 2 := Nat.mod_lt _ (by decide)
              have b2 : th s i < 2 := Nat.mod_lt _ (by decide)
              refine pk_eq' (th (wgN t k 5) i) (th s i) (fun w => ?_) (fun w => ?_)
              · have : dtF (wgN t k 5) s i = 1 := by unfold dtF; rw [if_neg w]
                rw [this] at next
                exact nm_r (by exact nI_add _ 1) (nm_r (nI_1 i) next)
              · have : dtF (wgN t k 5) s i = 0 := by unfold dtF; rw [if_pos w]
                rw [this] at next
                exact nm_r (by exact nI_add _ 0) (nm_r (nI_1 i) next)
        have loop1 : ∀ q i, i ≤ 5 → 5 < q + i → wpL_X8_again_43 md_formMany md_slots md_isKept (fun (r2 : Int32) (md_thrown1 : Int32) (md_now1 : Int32) => K (nI (pc4 (Nat.xor (s / 1024) (wgN t k 5 / 1024)) + sm (dfF s (wgN t k 5)) 5)) r2 (nI (wgN t k 5)) md_thrown1 md_now1) q 0 (nI (ph s)) (nI (ph (wgN t k i))) (nI (sm (dfF s (wgN t k 5)) i)) (nI i) := by
          intro q
          induction q with
          | zero => intro i h1 h2; omega
          | succ q ih =>
            intro i h1 h2
            rw [wpL_X8_again_43]
            refine pk_le 5 i (fun h5 => ?_) (fun h5 => ?_)
            · have : i = 5 := by omega
              subst this
              exact ⟨5, loop2 5 0 (by omega) (by omega)⟩
            · have next := ih (i + 1) (by omega) (by omega)
              have ex : sm (dfF s (wgN t k 5)) (i + 1) = sm (dfF s (wgN t k 5)) i + dfF s (wgN t k 5) i := rfl
              rw [ex] at next
              have hwi := wg_lt (t := t) hk i (by omega)
              have hwi1 := wg_lt (t := t) hk (i + 1) (by omega)
              have htc := hP.1 i h5
              have J : wpJ_X8_again_76 md_formMany md_slots md_isKept (fun y0 y1 y2 y3 y4 => wpL_X8_again_43 md_formMany md_slots md_isKept (fun (r2 : Int32) (md_thrown1 : Int32) (md_now1 : Int32) => K (nI (pc4 (Nat.xor (s / 1024) (wgN t k 5 / 1024)) + sm (dfF s (wgN t k 5)) 5)) r2 (nI (wgN t k 5)) md_thrown1 md_now1) q y0 y1 y2 y3 y4) (fun (r2 : Int32) (md_thrown1 : Int32) (md_now1 : Int32) => K (nI (pc4 (Nat.xor (s / 1024) (wgN t k 5 / 1024)) + sm (dfF s (wgN t k 5)) 5)) r2 (nI (wgN t k 5)) md_thrown1 md_now1) 0 (nI (ph s)) (nI (sm (dfF s (wgN t k 5)) i)) (nI i) (nI (ph (wgN t k (i + 1)))) := by
                unfold wpJ_X8_again_76
                refine sp8_formOf rfl rfl hwi1 h5 (sp8_formOf rfl rfl hs1 h5 ?_)
                have ee : fo (wgN t k (i + 1)) i = fo (wgN t k 5) i := by
                  rw [wg_fo hk _ (by omega) i h5, wg_fo hk _ (by omega) i h5]
                  by_cases z : t i < fo k i
                  · rw [if_pos ⟨by omega, z⟩, if_pos ⟨by omega, z⟩]
                  · rw [if_neg (fun y => z y.2), if_neg (fun y => z y.2)]
                have hf := fo_lt s i
                have hf2 := fo_lt (wgN t k (i + 1)) i
                refine pk_eq' (fo (wgN t k (i + 1)) i) (fo s i) (fun w => ?_) (fun w => ?_)
                · have : dfF s (wgN t k 5) i = 1 := by unfold dfF; rw [if_neg (by omega)]
                  rw [this] at next
                  exact nm_r (by exact nI_add _ 1) (nm_r (nI_1 i) next)
                · have : dfF s (wgN t k 5) i = 0 := by unfold dfF; rw [if_pos (by omega)]
                  rw [this] at next
                  exact nm_r (by exact nI_add _ 0) (nm_r (nI_1 i) next)
              have ex2 : wgN t k (i + 1) = if fo k i ≤ t i then wgN t k i else pu (wgN t k i) i 0 := rfl
              rw [ex2] at J
              have e3 : fo (wgN t k i) i = fo k i := by
                rw [wg_fo hk _ (by omega) i h5, if_neg (by omega)]
              refine sp8_formOf rfl rfl hwi h5 ⟨pk_in i 5 h5, ?_⟩
              rw [nI_clamp (by omega), hT2 i h5]
              have hf := fo_lt (wgN t k i) i
              refine pk_le (fo (wgN t k i) i) (t i) (fun w => ?_) (fun w => ?_)
              · rw [if_pos (by omega)] at J
                exact J
              · rw [if_neg (by omega)] at J
                unfold wp_X8_put
                have e8 : (nI (ph (wgN t k i)) &&& (((3 : Int32) <<< (((4 : Int32) + ((2 : Int32) * nI i)) &&& 31)) ^^^ (-1 : Int32))) ||| ((0 : Int32) <<< (((4 : Int32) + ((2 : Int32) * nI i)) &&& 31)) = nI (ph (pu (wgN t k i) i 0)) := w8_put hwi h5 (f := 0) (by decide)
                rw [e8]
                exact J
        exact ⟨6, loop1 6 0 (by omega) (by omega)⟩
      · rw [w2] at q
        exact absurd (q ▸ nI_pos' (n := k) (by omega)) (by decide)
  · have m8 : wp_X8_again md_thrown md_formMany md_now md_slots md_isKept p0 (fun (r2 : Int32) (md_thrown1 : Int32) (md_now1 : Int32) => K (-1) r2 sl_state md_thrown1 md_now1) := by
      unfold wp_X8_again
      exact in_no 3 (by decide) hb 0 (by decide) (by decide) (y0 (h _ _ _ _ hR.succ))
    exact ntest hb m8 m8
