def tN (t : Nat → Nat) (c x : Nat) : Nat := if x = c then t c + 1 else t x
theorem tN_le {t : Nat → Nat} {c x : Nat} : t x ≤ tN t c x := by
  unfold tN
  split
  · rename_i e; subst e; omega
  · omega
theorem LWP_add {t : Nat → Nat} {P : Nat → Int32} (hP : LWP t P) {c : Nat} (hc : c < 5) (w : t c < 3) {pa : Nat → Int32} {tt : Int32 × Int32 × Int32 × Int32 × Int32} {g : Int32} (hF : FT tt) (hg : g = -9 ∨ ∃ k, g = nI k ∧ goalN k) (ha : P6 pa tt g) : LWP (tN t c) (rowP P pa ((c * 4 + (t c + 1)) * 6) 6) := by
  obtain ⟨a0, a1, a2, a3, a4, a5⟩ := ha
  refine ⟨fun x hx => ?_, fun x f hx h1 h2 => ?_, fun x i hx hi => ?_⟩
  · unfold tN
    split
    · omega
    · exact hP.1 x hx
  · by_cases e : x = c ∧ f = t c + 1
    · obtain ⟨rfl, rfl⟩ := e
      exact hF.wf hg (by rw [← a0]; exact rowP_in (i := 0) (by decide)) (by rw [← a1]; exact rowP_in (by decide)) (by rw [← a2]; exact rowP_in (by decide)) (by rw [← a3]; exact rowP_in (by decide)) (by rw [← a4]; exact rowP_in (by decide)) (by rw [← a5]; exact rowP_in (by decide))
    · have hf : f ≤ t x := by
        unfold tN at h2
        split at h2
        · rename_i e2; subst e2; omega
        · exact h2
      have hf3 := hP.1 x hx
      exact (hP.2.1 x f hx h1 hf).congr (fun i hi => rowP_out (by omega))
  · rw [rowP_out (by omega)]
    exact hP.2.2 x i hx hi
theorem LH_add {t : Nat → Nat} {P hm hv : Nat → Int32} (hP : LWP t P) (hH : LH t P hm hv) {c : Nat} (hc : c < 5) (w : t c < 3) {pa : Nat → Int32} {g m v : Int32} (a5 : pa 5 = g) (hS : HS g m v) : LH (tN t c) (rowP P pa ((c * 4 + (t c + 1)) * 6) 6) (upd hm (c * 4 + (t c + 1)) m) (upd hv (c * 4 + (t c + 1)) v) := by
  intro x f hx h1 h2 s hs
  by_cases e : x = c ∧ f = t c + 1
  · obtain ⟨rfl, rfl⟩ := e
    rw [pk_us, pk_us]
    unfold hgB Pn
    rw [rowP_in (by decide), a5]
    exact hS s hs
  · have hf : f ≤ t x := by
      unfold tN at h2
      split at h2
      · rename_i e2; subst e2; omega
      · exact h2
    have hf3 := hP.1 x hx
    rw [pk_un (by omega), pk_un (by omega)]
    unfold hgB Pn
    rw [rowP_out (by omega)]
    exact hH x f hx h1 hf s hs
theorem TD_add {t : Nat → Nat} {told : Nat → Int32} (hT : TD t told) {c : Nat} : TD (tN t c) (upd told c (nI (t c + 1))) := by
  intro x hx
  unfold tN
  by_cases e : x = c
  · subst e
    rw [pk_us, if_pos rfl]
  · rw [pk_un e, if_neg e]
    exact hT x hx
def fm6 (f : Nat → Int32) (a : Nat) (v0 v1 v2 v3 v4 v5 : Int32) : Nat → Int32 := upd (upd (upd (upd (upd (upd f a v0) (a + 1) v1) (a + 2) v2) (a + 3) v3) (a + 4) v4) (a + 5) v5
theorem fm6_out {f : Nat → Int32} {a : Nat} {v0 v1 v2 v3 v4 v5 : Int32} {j : Nat} (h : j < a ∨ a + 6 ≤ j) : fm6 f a v0 v1 v2 v3 v4 v5 j = f j := by
  unfold fm6
  rw [pk_un (by omega), pk_un (by omega), pk_un (by omega), pk_un (by omega), pk_un (by omega), pk_un (by omega)]
theorem fm6_in {f : Nat → Int32} {a : Nat} {pa : Nat → Int32} {i : Nat} (h : i < 6) : fm6 f a (pa 0) (pa 1) (pa 2) (pa 3) (pa 4) (pa 5) (a + i) = pa i := by
  unfold fm6
  have hi : i = 0 ∨ i = 1 ∨ i = 2 ∨ i = 3 ∨ i = 4 ∨ i = 5 := by omega
  rcases hi with rfl | rfl | rfl | rfl | rfl | rfl
  · rw [pk_un (by omega), pk_un (by omega), pk_un (by omega), pk_un (by omega), pk_un (by omega), Nat.add_zero, pk_us]
  · rw [pk_un (by omega), pk_un (by omega), pk_un (by omega), pk_un (by omega), pk_us]
  · rw [pk_un (by omega), pk_un (by omega), pk_un (by omega), pk_us]
  · rw [pk_un (by omega), pk_un (by omega), pk_us]
  · rw [pk_un (by omega), pk_us]
  · rw [pk_us]
theorem MF_add {t : Nat → Nat} {P forms : Nat → Int32} (hP : LWP t P) (hM : MF t P forms) {c : Nat} (hc : c < 5) (w : t c < 3) {pa : Nat → Int32} : MF (tN t c) (rowP P pa ((c * 4 + (t c + 1)) * 6) 6) (fm6 forms (18 * c + 6 * t c) (pa 0) (pa 1) (pa 2) (pa 3) (pa 4) (pa 5)) := by
  intro x f i hx h1 h2 hi
  by_cases e : x = c ∧ f = t c + 1
  · obtain ⟨rfl, rfl⟩ := e
    rw [rowP_in hi, Nat.add_sub_cancel, fm6_in hi]
  · have hf : f ≤ t x := by
      unfold tN at h2
      split at h2
      · rename_i e2; subst e2; omega
      · exact h2
    have hf3 := hP.1 x hx
    rw [rowP_out (by omega), fm6_out (by omega)]
    exact hM x f i hx h1 hf hi
theorem w_at (c f : Nat) : ((18 : Int32) * nI c) + ((6 : Int32) * nI f) = nI (18 * c + 6 * f) := by
  rw [show (18 : Int32) * nI c = nI (18 * c) from pk_mul 18 c, show (6 : Int32) * nI f = nI (6 * f) from pk_mul 6 f, nI_add]
theorem sp8_lay {forms many : Nat → Int32} {t : Nat → Nat} (hT : TD t many) {c : Nat} (hc : c < 5) (w : t c < 3) {v0 v1 v2 v3 v4 v5 : Int32} {post : Int32 → (Nat → Int32) → (Nat → Int32) → Prop} (h : post (nI (t c + 1)) (fm6 forms (18 * c + 6 * t c) v0 v1 v2 v3 v4 v5) (upd many c (nI (t c + 1)))) : ∀ x2_13 : Int32, x2_13 = (((18 : Int32)) * nI c) + (((6 : Int32)) * (many (nI c).toNatClampNeg)) → vp_in x2_13 90 ∧ ∀ md_forms_14 : Nat → Int32, md_forms_14 = upd forms x2_13.toNatClampNeg v0 → vp_in (x2_13 + ((1 : Int32))) 90 ∧ ∀ md_forms_15 : Nat → Int32, md_forms_15 = upd md_forms_14 (x2_13 + ((1 : Int32))).toNatClampNeg v1 → vp_in (x2_13 + ((2 : Int32))) 90 ∧ ∀ md_forms_16 : Nat → Int32, md_forms_16 = upd md_forms_15 (x2_13 + ((2 : Int32))).toNatClampNeg v2 → vp_in (x2_13 + ((3 : Int32))) 90 ∧ ∀ md_forms_17 : Nat → Int32, md_forms_17 = upd md_forms_16 (x2_13 + ((3 : Int32))).toNatClampNeg v3 → vp_in (x2_13 + ((4 : Int32))) 90 ∧ ∀ md_forms_18 : Nat → Int32, md_forms_18 = upd md_forms_17 (x2_13 + ((4 : Int32))).toNatClampNeg v4 → vp_in (x2_13 + ((5 : Int32))) 90 ∧ ∀ md_forms_19 : Nat → Int32, md_forms_19 = upd md_forms_18 (x2_13 + ((5 : Int32))).toNatClampNeg v5 → vp_in (nI c) 5 ∧ (vp_in (nI c) 5 ∧ ∀ md_formMany_20 : Nat → Int32, md_formMany_20 = upd many (nI c).toNatClampNeg ((many (nI c).toNatClampNeg) + ((1 : Int32))) → vp_in (nI c) 5 ∧ (post (md_formMany_20 (nI c).toNatClampNeg) md_forms_19 md_formMany_20)) := by
  rw [nI_clamp (by omega), hT c hc]
  refine nm_r (w_at c (t c)) ?_
  have ha : 18 * c + 6 * t c < 85 := by omega
  generalize 18 * c + 6 * t c = a at h ha ⊢
  have k1 : nI a + (1 : Int32) = nI (a + 1) := nI_add a 1
  have k2 : nI a + (2 : Int32) = nI (a + 2) := nI_add a 2
  have k3 : nI a + (3 : Int32) = nI (a + 3) := nI_add a 3
  have k4 : nI a + (4 : Int32) = nI (a + 4) := nI_add a 4
  have k5 : nI a + (5 : Int32) = nI (a + 5) := nI_add a 5
  rw [k1, k2, k3, k4, k5, nI_1]
  rw [nI_clamp (show a < 2 ^ 31 by omega), nI_clamp (show a + 1 < 2 ^ 31 by omega), nI_clamp (show a + 2 < 2 ^ 31 by omega), nI_clamp (show a + 3 < 2 ^ 31 by omega), nI_clamp (show a + 4 < 2 ^ 31 by omega), nI_clamp (show a + 5 < 2 ^ 31 by omega)]
  refine ⟨pk_in a 90 (by omega), nm_e ⟨pk_in (a + 1) 90 (by omega), nm_e ⟨pk_in (a + 2) 90 (by omega), nm_e ⟨pk_in (a + 3) 90 (by omega), nm_e ⟨pk_in (a + 4) 90 (by omega), nm_e ⟨pk_in (a + 5) 90 (by omega), nm_e ⟨pk_in c 5 hc, pk_in c 5 hc, nm_e ⟨pk_in c 5 hc, ?_⟩⟩⟩⟩⟩⟩⟩⟩
  rw [pk_us]
  exact h
theorem sim_form {N : Nat} (hN : N < 600) {tx_bytes : Nat → Int32} {tx_length : Int32} {md_text : Nat → Int32} {md_textSize : Int32} {lw_told : Nat → Int32} {lw_parts : Nat → Int32} {lw_hangMasks : Nat → Int32} {lw_hangValues : Nat → Int32} {lw_ownSeats : Nat → Int32} {md_forms : Nat → Int32} {md_formMany : Nat → Int32} {md_seats : Nat → Int32} {sl_state : Int32} {md_now : Int32} {sl_rolled : Int32} {md_rolls : Int32} {sl_rollSets : Nat → Int32} {sl_rollActs : Nat → Int32} {md_rollSet : Nat → Int32} {md_rollAct : Nat → Int32} {sl_kept : Nat → Int32} {md_slots : Nat → Int32} {md_isKept : Nat → Int32} {md_barAlways : Int32} {md_noPut : Int32} {se_cameBy : Nat → Int32} {se_runs : Int32} {tx_parts : Nat → Int32} {tx_place : Int32} {tx_firstFault : Int32} {md_thrown : Int32} {md_place : Int32} {md_letter : Int32} {md_first : Int32} {md_second : Int32} {md_third : Int32} {md_side : Int32} {md_hang : Int32} (hR : REL N tx_bytes tx_length md_text md_textSize lw_told lw_parts lw_hangMasks lw_hangValues lw_ownSeats md_forms md_formMany md_seats sl_state md_now sl_rolled md_rolls sl_rollSets sl_rollActs md_rollSet md_rollAct sl_kept md_slots md_isKept md_barAlways md_noPut se_cameBy se_runs) (p0 : Int32) {K : Int32 → Int32 → (Nat → Int32) → (Nat → Int32) → (Nat → Int32) → (Nat → Int32) → (Nat → Int32) → Int32 → Int32 → Int32 → Int32 → Int32 → Int32 → Int32 → Int32 → Int32 → Int32 → (Nat → Int32) → (Nat → Int32) → Prop} (h : ∀ (r : Int32) (lw_told1 : Nat → Int32) (lw_parts1 : Nat → Int32) (lw_hangMasks1 : Nat → Int32) (lw_hangValues1 : Nat → Int32) (tx_parts1 : Nat → Int32) (tx_place1 : Int32) (tx_firstFault1 : Int32) (md_thrown1 : Int32) (md_place1 : Int32) (md_letter1 : Int32) (md_first1 : Int32) (md_second1 : Int32) (md_third1 : Int32) (md_side1 : Int32) (md_hang1 : Int32) (md_forms1 : Nat → Int32) (md_formMany1 : Nat → Int32), REL (N + 1) tx_bytes tx_length md_text md_textSize lw_told1 lw_parts1 lw_hangMasks1 lw_hangValues1 lw_ownSeats md_forms1 md_formMany1 md_seats sl_state md_now sl_rolled md_rolls sl_rollSets sl_rollActs md_rollSet md_rollAct sl_kept md_slots md_isKept md_barAlways md_noPut se_cameBy se_runs → K r r lw_told1 lw_parts1 lw_hangMasks1 lw_hangValues1 tx_parts1 tx_place1 tx_firstFault1 md_thrown1 md_place1 md_letter1 md_first1 md_second1 md_third1 md_side1 md_hang1 md_forms1 md_formMany1) : wp_X7_form lw_told lw_parts lw_hangMasks lw_hangValues tx_bytes tx_length tx_parts tx_place tx_firstFault p0 (fun (r1 : Int32) (lw_told1 : Nat → Int32) (lw_parts1 : Nat → Int32) (lw_hangMasks1 : Nat → Int32) (lw_hangValues1 : Nat → Int32) (tx_parts1 : Nat → Int32) (tx_place1 : Int32) (tx_firstFault1 : Int32) => wp_X8_form md_thrown md_text md_textSize md_place md_letter md_first md_second md_third md_side md_hang md_forms md_formMany p0 (fun (r2 : Int32) (md_thrown1 : Int32) (md_place1 : Int32) (md_letter1 : Int32) (md_first1 : Int32) (md_second1 : Int32) (md_third1 : Int32) (md_side1 : Int32) (md_hang1 : Int32) (md_forms1 : Nat → Int32) (md_formMany1 : Nat → Int32) => K r1 r2 lw_told1 lw_parts1 lw_hangMasks1 lw_hangValues1 tx_parts1 tx_place1 tx_firstFault1 md_thrown1 md_place1 md_letter1 md_first1 md_second1 md_third1 md_side1 md_hang1 md_forms1 md_formMany1)) := by
  unfold wp_X7_form
  obtain ⟨hRT, ⟨t, G, hLa, s, hs, es, en⟩, hRo, hKe, hBa, hCb⟩ := id hR
  obtain ⟨⟨hP, hH, hT, hG⟩, hSD, hM, hP2, hT2, hD2, hG2⟩ := id hLa
  obtain ⟨T, n, hX, hX8⟩ := hRT.tx
  rcases range_cases p0 5 (by decide) with ⟨c, hc, hp⟩ | hb
  · subst hp
    have htc := hP.1 c hc
    refine sp_isClause rfl hc (y1 ?_)
    refine sp_read hX (fun tt g e pa pl hPa => ⟨fun _ => ?_, fun z => absurd rfl z⟩) (fun k e hk pa pl => ⟨fun z => absurd z (neg9 (by omega)), fun _ => ?_⟩)
    · obtain ⟨hF, hg⟩ := rd_inv e
      refine sp_add hT hc htc hPa.2.2.2.2.2 hg (fun w => ?_) (fun w m v hS => ?_)
      · unfold wp_X8_form
        refine sp8_noClause rfl hc (y0' ?_)
        refine sp8_read hX8 (fun t2 g2 e2 pl2 => ⟨fun _ => ⟨pk_in c 5 hc, ?_⟩, fun z => absurd rfl z⟩) (fun k2 e2 _ _ _ _ _ _ _ _ => ?_)
        · rw [nI_clamp (by omega), hT2 c hc, w]
          exact ⟨fun z => absurd rfl z, fun _ => h _ _ _ _ _ _ _ _ _ _ _ _ _ _ _ _ _ _ hR.succ⟩
        · rw [e] at e2
          exact absurd e2 (by simp)
      · unfold wp_X8_form
        refine sp8_noClause rfl hc (y0' ?_)
        refine sp8_read hX8 (fun t2 g2 e2 pl2 => ⟨fun _ => ⟨pk_in c 5 hc, ?_⟩, fun z => absurd rfl z⟩) (fun k2 e2 _ _ _ _ _ _ _ _ => ?_)
        case refine_2 =>
          rw [e] at e2
          exact absurd e2 (by simp)
        rw [e] at e2
        injection e2 with e2
        injection e2 with e2 e3
        subst e2 e3
        refine pk_eq' (t c) 3 (fun _ => ⟨pk_in c 5 hc, ?_⟩) (fun z => by omega) (by rw [nI_clamp (by omega)]; exact hT2 c hc)
        obtain ⟨a0, a1, a2, a3, a4, a5⟩ := id hPa
        rw [← a0, ← a1, ← a2, ← a3, ← a4, ← a5]
        have hP' := LWP_add hP hc w hF hg hPa
        refine sp8_lay (post := fun rr ff mm => K (nI (t c + 1)) rr (upd lw_told c (nI (t c + 1))) (rowP lw_parts pa ((c * 4 + (t c + 1)) * 6) 6) (upd lw_hangMasks (c * 4 + (t c + 1)) m) (upd lw_hangValues (c * 4 + (t c + 1)) v) pa pl (-9) 0 pl2 (pa 0) (pa 1) (pa 2) (pa 3) (pa 4) (pa 5) ff mm) hT2 hc w ?_
        exact h _ _ _ _ _ _ _ _ _ _ _ _ _ _ _ _ _ _ ⟨hRT, ⟨tN t c, G, ⟨⟨hP', LH_add hP hH hc w a5 hS, TD_add hT, hG⟩, hSD, MF_add hP hM hc w, hP', TD_add hT2, hD2, hG2⟩, s, ⟨hs.1, fun x hx => Nat.le_trans (hs.2 x hx) tN_le⟩, es, en⟩, hRo, hKe, hBa, hCb.succ⟩
    · unfold wp_X8_form
      refine sp8_noClause rfl hc (y0' ?_)
      refine sp8_read hX8 (fun t2 g2 e2 pl2 => ?_) (fun k2 e2 hk2 _ _ _ _ _ _ _ => ⟨fun z => absurd z (neg9 (by omega)), fun _ => h _ _ _ _ _ _ _ _ _ _ _ _ _ _ _ _ _ _ hR.succ⟩)
      rw [e] at e2
      exact absurd e2 (by simp)
  · refine sp_isClause_bad hb (y0 ?_)
    unfold wp_X8_form
    exact sp8_noClause_bad hb (y1' (h _ _ _ _ _ _ _ _ _ _ _ _ _ _ _ _ _ _ hR.succ))
