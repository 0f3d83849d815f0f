theorem RT.tx {b : Nat → Int32} {l : Int32} {x : Nat → Int32} {z : Int32} (h : RT b l x z) : ∃ T n, TX b l T n ∧ TX x z T n := by
  obtain ⟨n, hn, e1, e2, hj⟩ := h
  have key : ∀ j, j < n → b j = nI (b j).toNatClampNeg ∧ (b j).toNatClampNeg < 256 := by
    intro j hjn
    obtain ⟨-, v, hv, e⟩ := hj j hjn
    rw [e, nI_clamp (by omega)]
    exact ⟨rfl, hv⟩
  refine ⟨fun j => (b j).toNatClampNeg, n, ⟨hn, e1, key⟩, hn, e2, fun j hjn => ?_⟩
  rw [← (hj j hjn).1]
  exact key j hjn
theorem w_m64 : ∀ j, j < 64 → (255#64).getLsbD j = decide (j < 8) := by decide +kernel
theorem w_m32 : ∀ j, j < 32 → (255#32).getLsbD j = decide (j < 8) := by decide +kernel
theorem w_sel (x : BitVec 64) {k : Nat} (hk : k ≤ 56) : ((x >>> k) &&& 255#64).signExtend 32 = (x.sshiftRight k).signExtend 32 &&& 255#32 := by
  apply BitVec.eq_of_getLsbD_eq
  intro j hj
  rw [BitVec.getLsbD_and, BitVec.getLsbD_signExtend, BitVec.getLsbD_signExtend, if_pos (show j < 64 by omega), if_pos (show j < 64 by omega), BitVec.getLsbD_and, BitVec.getLsbD_ushiftRight, BitVec.getLsbD_sshiftRight, w_m64 j (by omega), w_m32 j hj]
  by_cases w : j < 8
  · rw [if_pos (show k + j < 64 by omega)]
    simp [w, hj, show ¬ 64 ≤ j by omega]
  · simp [w]
theorem w_s1 : ∀ i, i < 8 → (UInt64.mod (((8 : Int32) * nI i).toInt64.toUInt64 &&& Int64.toUInt64 63) 64).toBitVec.toNat = 8 * i := by decide +kernel
theorem w_s2 : ∀ i, i < 8 → (((((8 : Int32) * nI i).toInt64 &&& 63)).toBitVec.smod 64).toNat = 8 * i := by decide +kernel
theorem w_byte (x : Int64) {i : Nat} (hi : i < 8) : (((x.toUInt64 >>> ((((8 : Int32)) * nI i).toInt64.toUInt64 &&& Int64.toUInt64 63)).toInt64) &&& ((255 : Int64))).toInt32 = ((x >>> ((((8 : Int32)) * nI i).toInt64 &&& 63)).toInt32) &&& ((255 : Int32)) := by
  apply Int32.toBitVec_inj.mp
  rw [Int32.toBitVec_and]
  show ((x.toBitVec >>> (UInt64.mod (((8 : Int32) * nI i).toInt64.toUInt64 &&& Int64.toUInt64 63) 64).toBitVec.toNat) &&& 255#64).signExtend 32 = (x.toBitVec.sshiftRight (((((8 : Int32) * nI i).toInt64 &&& 63)).toBitVec.smod 64).toNat).signExtend 32 &&& 255#32
  rw [w_s1 i hi, w_s2 i hi]
  exact w_sel _ (by omega)
def byI (x : Int64) (i : Nat) : Int32 := ((x >>> ((((8 : Int32)) * nI i).toInt64 &&& 63)).toInt32) &&& ((255 : Int32))
def apN (x : Int64) : Nat → (Nat → Int32) → Nat → (Nat → Int32)
  | 0, f, _ => f
  | m + 1, f, p => apN x m (upd f p (byI x m)) (p + 1)
theorem w_minus (a : Int32) : a + (-1 : Int32) = a - 1 := by rw [Int32.sub_eq_add_neg]
theorem lp_append {x : Int64} {post : Int32 → (Nat → Int32) → Int32 → Prop} : ∀ m q f p, m < q → p + m ≤ 20 → m ≤ 8 → post (nI (p + m)) (apN x m f p) (nI (p + m)) → wpL_X6_append_19 post q f (nI p) x (nI m - 1) := by
  intro m
  induction m with
  | zero =>
    intro q f p h1 h2 h3 h
    obtain ⟨q, rfl⟩ : ∃ r, q = r + 1 := ⟨q - 1, by omega⟩
    rw [wpL_X6_append_19]
    exact ⟨fun _ => h, fun z => absurd (by decide) z⟩
  | succ m ih =>
    intro q f p h1 h2 h3 h
    obtain ⟨q, rfl⟩ : ∃ r, q = r + 1 := ⟨q - 1, by omega⟩
    rw [wpL_X6_append_19, nI_prd (by omega)]
    refine ⟨fun z => absurd z (nI_pos (by omega)), fun _ => pk_le 20 p (fun z => by omega) (fun _ => ⟨pk_in p 20 (by omega), nm_e (nm_r (nI_1 p) (nm_r (w_minus _) ?_))⟩)⟩
    rw [nI_clamp (by omega), w_byte x (by omega)]
    refine ih q _ (p + 1) (by omega) (by omega) (by omega) ?_
    rw [show p + 1 + m = p + (m + 1) by omega]
    exact h
theorem lp_write {x : Int64} {th : Int32} {post : Int32 → Int32 → (Nat → Int32) → Int32 → Prop} : ∀ m q f p, m < q → p + m ≤ 20 → m ≤ 8 → post (nI (p + m)) th (apN x m f p) (nI (p + m)) → wpL_X8_write_39 post q th f (nI p) x (nI m - 1) := by
  intro m
  induction m with
  | zero =>
    intro q f p h1 h2 h3 h
    obtain ⟨q, rfl⟩ : ∃ r, q = r + 1 := ⟨q - 1, by omega⟩
    rw [wpL_X8_write_39]
    exact ⟨fun _ => h, fun z => absurd (by decide) z⟩
  | succ m ih =>
    intro q f p h1 h2 h3 h
    obtain ⟨q, rfl⟩ : ∃ r, q = r + 1 := ⟨q - 1, by omega⟩
    rw [wpL_X8_write_39, nI_prd (by omega)]
    refine ⟨fun z => absurd z (nI_pos (by omega)), fun _ => ⟨pk_in p 20 (by omega), nm_e (nm_r (nI_1 p) (nm_r (w_minus _) ?_))⟩⟩
    rw [nI_clamp (by omega)]
    refine ih q _ (p + 1) (by omega) (by omega) (by omega) ?_
    rw [show p + 1 + m = p + (m + 1) by omega]
    exact h
theorem ap_eq {x : Int64} : ∀ m f g p, (∀ j, j < p → f j = g j ∧ ∃ v, v < 256 ∧ f j = nI v) → ∀ j, j < p + m → apN x m f p j = apN x m g p j ∧ ∃ v, v < 256 ∧ apN x m f p j = nI v := by
  intro m
  induction m with
  | zero => intro f g p h j hj; exact h j hj
  | succ m ih =>
    intro f g p h j hj
    refine ih (upd f p (byI x m)) (upd g p (byI x m)) (p + 1) (fun i hi => ?_) j (by omega)
    by_cases w : i = p
    · subst w
      rw [pk_us, pk_us]
      obtain ⟨v, hv, e⟩ := pk_andE ((x >>> ((((8 : Int32)) * nI m).toInt64 &&& 63)).toInt32) (m := 255) 8 (by decide)
      exact ⟨rfl, v, hv, e⟩
    · rw [pk_un w, pk_un w]
      exact h i (by omega)
theorem sim_write {N : Nat} (hN : N < 600) {tx_bytes : Nat → Int32} {tx_length : Int32} {md_text : Nat → Int32} {md_textSize : Int32} {lw_told : Nat → Int32} {lw_parts : Nat → Int32} {lw_hangMasks : Nat → Int32} {lw_hangValues : Nat → Int32} {lw_ownSeats : Nat → Int32} {md_forms : Nat → Int32} {md_formMany : Nat → Int32} {md_seats : Nat → Int32} {sl_state : Int32} {md_now : Int32} {sl_rolled : Int32} {md_rolls : Int32} {sl_rollSets : Nat → Int32} {sl_rollActs : Nat → Int32} {md_rollSet : Nat → Int32} {md_rollAct : Nat → Int32} {sl_kept : Nat → Int32} {md_slots : Nat → Int32} {md_isKept : Nat → Int32} {md_barAlways : Int32} {md_noPut : Int32} {se_cameBy : Nat → Int32} {se_runs : Int32} {md_thrown : Int32} (hR : REL N tx_bytes tx_length md_text md_textSize lw_told lw_parts lw_hangMasks lw_hangValues lw_ownSeats md_forms md_formMany md_seats sl_state md_now sl_rolled md_rolls sl_rollSets sl_rollActs md_rollSet md_rollAct sl_kept md_slots md_isKept md_barAlways md_noPut se_cameBy se_runs) (p0 : Int32) (p1 : Int64) {K : Int32 → Int32 → (Nat → Int32) → Int32 → Int32 → (Nat → Int32) → Int32 → Prop} (h : ∀ (r : Int32) (tx_bytes1 : Nat → Int32) (tx_length1 : Int32) (md_thrown1 : Int32) (md_text1 : Nat → Int32) (md_textSize1 : Int32), REL (N + 1) tx_bytes1 tx_length1 md_text1 md_textSize1 lw_told lw_parts lw_hangMasks lw_hangValues lw_ownSeats md_forms md_formMany md_seats sl_state md_now sl_rolled md_rolls sl_rollSets sl_rollActs md_rollSet md_rollAct sl_kept md_slots md_isKept md_barAlways md_noPut se_cameBy se_runs → K r r tx_bytes1 tx_length1 md_thrown1 md_text1 md_textSize1) : wp_X7_write tx_bytes tx_length p0 p1 (fun (r1 : Int32) (tx_bytes1 : Nat → Int32) (tx_length1 : Int32) => wp_X8_write md_thrown md_text md_textSize p0 p1 (fun (r2 : Int32) (md_thrown1 : Int32) (md_text1 : Nat → Int32) (md_textSize1 : Int32) => K r1 r2 tx_bytes1 tx_length1 md_thrown1 md_text1 md_textSize1)) := by
  unfold wp_X7_write
  obtain ⟨⟨n, hn, el, et, hj⟩, hLa, hRo, hKe, hBa, hCb⟩ := id hR
  subst el et
  rcases range_cases p0 9 (by decide) with ⟨c, hc, hp⟩ | hb
  · by_cases h1 : c = 0
    · subst h1
      refine pk_lt 0 1 (fun _ => ?_) (fun z => by omega) hp
      unfold wp_X8_write
      refine sp8_in (fun g1 _ => ?_) (fun _ => y0 (h _ _ _ _ _ _ hR.succ))
      rw [i64, hp, nI_toInt (by decide)] at g1
      exact absurd g1 (by decide)
    · subst hp
      refine pk_lt c 1 (fun z => by omega) (fun _ => pk_le c 8 (fun _ => ?_) (fun z => by omega))
      unfold wp_X6_append
      rw [nI_add]
      refine pk_le (n + c) 20 (fun w => nm_e ?_) (fun w => ?_)
      · refine ⟨c + 1, lp_append c (c + 1) _ n (by omega) w (by omega) ?_⟩
        unfold wp_X8_write
        refine in_yes rfl (by omega) 1 8 (by decide) (by decide) (by omega) (by omega) (y1 ?_)
        rw [nI_add]
        refine pk_le (n + c) 20 (fun _ => nm_e ?_) (fun z => by omega)
        refine ⟨c + 1, lp_write c (c + 1) _ n (by omega) w (by omega) ?_⟩
        exact h _ _ _ _ _ _ ⟨⟨n + c, w, rfl, rfl, ap_eq c _ _ n hj⟩, hLa, hRo, hKe, hBa, hCb.succ⟩
      · unfold wp_X8_write
        refine in_yes rfl (by omega) 1 8 (by decide) (by decide) (by omega) (by omega) (y1 ?_)
        rw [nI_add]
        exact pk_le (n + c) 20 (fun z => by omega) (fun _ => h _ _ _ _ _ _ hR.succ)
  · have hno := neg_or (B := 9) (by decide) hb
    have e1 : (1 : Int32).toInt = 1 := by decide
    have e8 : (8 : Int32).toInt = 8 := by decide
    have m8 : wp_X8_write md_thrown md_text (nI n) p0 p1 (fun (r2 : Int32) (md_thrown1 : Int32) (md_text1 : Nat → Int32) (md_textSize1 : Int32) => K (-2) r2 tx_bytes (nI n) md_thrown1 md_text1 md_textSize1) := by
      unfold wp_X8_write
      refine sp8_in (fun g1 g2 => ?_) (fun _ => y0 (h _ _ _ _ _ _ hR.succ))
      rw [i64] at g1 g2
      have f1 : (1 : Int64).toInt = 1 := by decide
      have f8 : (8 : Int64).toInt = 8 := by decide
      rw [f1] at g1
      rw [f8] at g2
      omega
    refine ⟨fun _ => m8, fun q => ⟨fun w => ?_, fun _ => m8⟩⟩
    have h1 := Int32.le_iff_toInt_le.mp w
    rw [e8] at h1
    have h2 : ¬ p0.toInt < 1 := fun z => q (Int32.lt_iff_toInt_lt.mpr (by rw [e1]; exact z))
    omega
theorem sim_fault {N : Nat} (hN : N < 600) {tx_bytes : Nat → Int32} {tx_length : Int32} {md_text : Nat → Int32} {md_textSize : Int32} {lw_told : Nat → Int32} {lw_parts : Nat → Int32} {lw_hangMasks : Nat → Int32} {lw_hangValues : Nat → Int32} {lw_ownSeats : Nat → Int32} {md_forms : Nat → Int32} {md_formMany : Nat → Int32} {md_seats : Nat → Int32} {sl_state : Int32} {md_now : Int32} {sl_rolled : Int32} {md_rolls : Int32} {sl_rollSets : Nat → Int32} {sl_rollActs : Nat → Int32} {md_rollSet : Nat → Int32} {md_rollAct : Nat → Int32} {sl_kept : Nat → Int32} {md_slots : Nat → Int32} {md_isKept : Nat → Int32} {md_barAlways : Int32} {md_noPut : Int32} {se_cameBy : Nat → Int32} {se_runs : Int32} {tx_parts : Nat → Int32} {tx_place : Int32} {tx_firstFault : Int32} {md_thrown : Int32} {md_place : Int32} {md_letter : Int32} {md_first : Int32} {md_second : Int32} {md_third : Int32} {md_side : Int32} {md_hang : Int32} (hR : REL N tx_bytes tx_length md_text md_textSize lw_told lw_parts lw_hangMasks lw_hangValues lw_ownSeats md_forms md_formMany md_seats sl_state md_now sl_rolled md_rolls sl_rollSets sl_rollActs md_rollSet md_rollAct sl_kept md_slots md_isKept md_barAlways md_noPut se_cameBy se_runs)  {K : Int32 → Int32 → (Nat → Int32) → Int32 → Int32 → Int32 → Int32 → Int32 → Int32 → Int32 → Int32 → Int32 → Int32 → Prop} (h : ∀ (r : Int32) (tx_parts1 : Nat → Int32) (tx_place1 : Int32) (tx_firstFault1 : Int32) (md_thrown1 : Int32) (md_place1 : Int32) (md_letter1 : Int32) (md_first1 : Int32) (md_second1 : Int32) (md_third1 : Int32) (md_side1 : Int32) (md_hang1 : Int32), REL (N + 1) tx_bytes tx_length md_text md_textSize lw_told lw_parts lw_hangMasks lw_hangValues lw_ownSeats md_forms md_formMany md_seats sl_state md_now sl_rolled md_rolls sl_rollSets sl_rollActs md_rollSet md_rollAct sl_kept md_slots md_isKept md_barAlways md_noPut se_cameBy se_runs → K r r tx_parts1 tx_place1 tx_firstFault1 md_thrown1 md_place1 md_letter1 md_first1 md_second1 md_third1 md_side1 md_hang1) : wp_X7_fault tx_bytes tx_length tx_parts tx_place tx_firstFault  (fun (r1 : Int32) (tx_parts1 : Nat → Int32) (tx_place1 : Int32) (tx_firstFault1 : Int32) => wp_X8_fault md_thrown md_text md_textSize md_place md_letter md_first md_second md_third md_side md_hang  (fun (r2 : Int32) (md_thrown1 : Int32) (md_place1 : Int32) (md_letter1 : Int32) (md_first1 : Int32) (md_second1 : Int32) (md_third1 : Int32) (md_side1 : Int32) (md_hang1 : Int32) => K r1 r2 tx_parts1 tx_place1 tx_firstFault1 md_thrown1 md_place1 md_letter1 md_first1 md_second1 md_third1 md_side1 md_hang1)) := by
  unfold wp_X7_fault
  obtain ⟨hRT, hLa, hRo, hKe, hBa, hCb⟩ := id hR
  obtain ⟨T, n, hT, hT8⟩ := hRT.tx
  refine sp_read hT (fun t g e pa pl hP => ?_) (fun k e hk pa pl => ?_)
  · unfold wp_X8_fault
    refine sp8_read hT8 (fun t2 g2 e2 pl2 => h _ _ _ _ _ _ _ _ _ _ _ _ hR.succ) (fun k2 e2 _ _ _ _ _ _ _ _ => ?_)
    rw [e] at e2
    exact absurd e2 (by simp)
  · unfold wp_X8_fault
    refine sp8_read hT8 (fun t2 g2 e2 pl2 => ?_) (fun k2 e2 _ _ _ _ _ _ _ _ => ?_)
    · rw [e] at e2
      exact absurd e2 (by simp)
    · rw [e] at e2
      injection e2 with e2
      subst e2
      exact h _ _ _ _ _ _ _ _ _ _ _ _ hR.succ
