def wpL_X6_append_19   (post : Int32 → (Nat → Int32) → Int32 → Prop) : Nat → (Nat → Int32) → Int32 → Int64 → Int32 → Prop
  | 0, _, _, _, _ => False
  | n + 1, tx_bytes_3, tx_length_4, x2_5, x4_6 => (x4_6 < 0 → post tx_length_4 tx_bytes_3 tx_length_4) ∧ (¬ x4_6 < 0 → (((20 : Int32)) ≤ tx_length_4 → post tx_length_4 tx_bytes_3 tx_length_4) ∧ (¬ ((20 : Int32)) ≤ tx_length_4 → vp_in tx_length_4 20 ∧ ∀ tx_bytes_9 : Nat → Int32, tx_bytes_9 = upd tx_bytes_3 tx_length_4.toNatClampNeg ((((x2_5.toUInt64 >>> ((((8 : Int32)) * x4_6).toInt64.toUInt64 &&& Int64.toUInt64 63)).toInt64) &&& ((255 : Int64))).toInt32) → ∀ v_10 : Int32, v_10 = tx_length_4 + ((1 : Int32)) → ∀ x4_11 : Int32, x4_11 = x4_6 + (-1 : Int32) → (wpL_X6_append_19   post n) tx_bytes_9 v_10 x2_5 x4_11))
def wp_X6_append (tx_bytes : Nat → Int32) (tx_length : Int32) (p0 : Int32) (p1 : Int64) (post : Int32 → (Nat → Int32) → Int32 → Prop) : Prop := ((tx_length + p0) ≤ ((20 : Int32)) → ∀ x4_2 : Int32, x4_2 = p0 - ((1 : Int32)) → ∃ k19, wpL_X6_append_19   post k19 tx_bytes tx_length p1 x4_2) ∧ (¬ (tx_length + p0) ≤ ((20 : Int32)) → post ((-4 : Int32)) tx_bytes tx_length)
set_option maxHeartbeats 4000000 in
set_option maxRecDepth 100000 in
theorem c_X6_append (l : Launch) (D : va_G) (cI cZ : ClassId) (tx : Nat → Nat) (tx_bytes : Nat → Int32) (tx_length : Int32) (tx_parts : Nat → Int32) (tx_place : Int32) (tx_firstFault : Int32) (p0 : Int32) (p1 : Int64) (post : Int32 → (Nat → Int32) → Int32 → Prop) (hm : wp_X6_append tx_bytes tx_length p0 p1 post) : Mi l D cI cZ yX6_append cX6_append 5 .int 0 0 [.ref (tx 0), .int p0, .long p1] (W_tx cI tx tx_bytes tx_length tx_parts tx_place tx_firstFault) (S := (Nat → Int32) × Int32) (fun u => W_tx cI tx (u.1) (u.2) tx_parts tx_place tx_firstFault) (fun r u => post r u.1 u.2) := by
  refine mk_Mi (by decide +kernel) (Nat.le_of_ble_eq_true rfl) ?_
  intro Γ hl0 hD0 hC hR
  subst hl0
  subst hD0
  have hC : CX Γ cI cZ cX6_append RX6 5 0 0 := hC
  show VV Γ (W_tx cI tx tx_bytes tx_length tx_parts tx_place tx_firstFault) [(0, .ref (tx 0)), (1, .int p0), (2, .long p1)] 0 []
  have B_19 : ∀ (n : Nat) (tx_bytes_3 : Nat → Int32) (tx_length_4 : Int32) (x2_5 : Int64) (x4_6 : Int32), wpL_X6_append_19   post n tx_bytes_3 tx_length_4 x2_5 x4_6 → VV Γ (W_tx cI tx tx_bytes_3 tx_length_4 tx_parts tx_place tx_firstFault) [(0, .ref (tx 0)), (2, .long x2_5), (4, .int x4_6)] 19 [] := by
    intro  n
    induction n with
    | zero => intro tx_bytes_3 tx_length_4 x2_5 x4_6 hm; rw [wpL_X6_append_19] at hm; exact hm.elim
    | succ n ih =>
      intro tx_bytes_3 tx_length_4 x2_5 x4_6 hm
      rw [wpL_X6_append_19] at hm
      refine x_iload hC 2 dX6_append_19 rfl ?_
      refine x_if_lt hC 70 dX6_append_21 (by decide) (fun c_7 => ?_) (fun c_7 => ?_)
      · replace hm := hm.1 c_7
        refine x_aload_n hC 0 dX6_append_70 rfl ?_
        refine x_get hC 3 inX6g 0 rfl rfl 1 (by decide) fl_X6_18 rfl dX6_append_71 ?_
        exact hR tx_length_4 (tx_bytes_3, tx_length_4) [(0, .ref (tx 0)), (2, .long x2_5), (4, .int x4_6)] 74 hm rfl dX6_append_74
      · replace hm := hm.2 c_7
        refine x_aload_n hC 0 dX6_append_24 rfl ?_
        refine x_get hC 3 inX6g 0 rfl rfl 1 (by decide) fl_X6_18 rfl dX6_append_25 ?_
        refine x_bipush hC (20 : Int32) dX6_append_28 (by decide) ?_
        refine x_icmp_ge hC 70 dX6_append_30 (by decide) (fun c_8 => ?_) (fun c_8 => ?_)
        · replace hm := hm.1 c_8
          refine x_aload_n hC 0 dX6_append_70 rfl ?_
          refine x_get hC 3 inX6g 0 rfl rfl 1 (by decide) fl_X6_18 rfl dX6_append_71 ?_
          exact hR tx_length_4 (tx_bytes_3, tx_length_4) [(0, .ref (tx 0)), (2, .long x2_5), (4, .int x4_6)] 74 hm rfl dX6_append_74
        · replace hm := hm.2 c_8
          refine x_aload_n hC 0 dX6_append_33 rfl ?_
          refine x_get hC 3 inX6g 0 rfl rfl 0 (by decide) fl_X6_11 rfl dX6_append_34 ?_
          refine x_aload_n hC 0 dX6_append_37 rfl ?_
          refine x_get hC 3 inX6g 0 rfl rfl 1 (by decide) fl_X6_18 rfl dX6_append_38 ?_
          refine x_lload_n hC 1 dX6_append_41 rfl ?_
          refine x_bipush hC (8 : Int32) dX6_append_42 (by decide) ?_
          refine x_iload hC 2 dX6_append_44 rfl ?_
          refine x_imul hC dX6_append_46 ?_
          refine x_lushr hC dX6_append_47 ?_
          refine x_ldc2 hC kl_X6_22 dX6_append_48 ?_
          refine x_land hC dX6_append_51 ?_
          refine x_l2i hC dX6_append_52 ?_
          refine x_iastN hC 1 rfl hm.1 (fun tx_bytes_9 => W_tx cI tx tx_bytes_9 tx_length_4 tx_parts tx_place tx_firstFault) (fun _ => rfl) dX6_append_53 (fun tx_bytes_9 etx_bytes_9 => ?_)
          replace hm := hm.2 tx_bytes_9 etx_bytes_9
          refine x_aload_n hC 0 dX6_append_54 rfl ?_
          refine x_dup hC dX6_append_55 rfl ?_
          refine x_get hC 3 inX6g 0 rfl rfl 1 (by decide) fl_X6_18 rfl dX6_append_56 ?_
          refine x_iconst hC (1 : Int32) dX6_append_59 (by decide) ?_
          refine x_iadd hC dX6_append_60 ?_
          refine x_top (fun v_10 ev_10 => ?_)
          replace hm := hm v_10 ev_10
          refine x_put hC 3 tyX6_ok nmX6 inX6g 0 rfl rfl 1 (by decide) fl_X6_18 rfl (ty := .int) (by decide +kernel) rfl rfl (Nat.le_of_ble_eq_true rfl) (W_tx cI tx tx_bytes_9 v_10 tx_parts tx_place tx_firstFault) rfl dX6_append_61 ?_
          obtain ⟨x4_11, ex4_11⟩ : ∃ y : Int32, y = x4_6 + (-1 : Int32) := ⟨_, rfl⟩
          replace hm := hm x4_11 ex4_11
          refine x_iinc hC 2 x4_11 [(0, .ref (tx 0)), (2, .long x2_5), (4, .int x4_11)] [1, 2, 0] dX6_append_64 rfl (by rw [ex4_11]; rfl) (by decide) rfl ?_
          refine x_goto hC 19 dX6_append_67 (by decide) ?_
          exact ih tx_bytes_9 v_10 x2_5 x4_11 hm
  unfold wp_X6_append at hm
  refine x_aload_n hC 0 dX6_append_0 rfl ?_
  refine x_get hC 3 inX6g 0 rfl rfl 1 (by decide) fl_X6_18 rfl dX6_append_1 ?_
  refine x_iload_n hC 1 dX6_append_4 rfl ?_
  refine x_iadd hC dX6_append_5 ?_
  refine x_bipush hC (20 : Int32) dX6_append_6 (by decide) ?_
  refine x_icmp_le hC 14 dX6_append_8 (by decide) (fun c_1 => ?_) (fun c_1 => ?_)
  · replace hm := hm.1 c_1
    refine x_iload_n hC 1 dX6_append_14 rfl ?_
    refine x_iconst hC (1 : Int32) dX6_append_15 (by decide) ?_
    refine x_isub hC dX6_append_16 ?_
    refine x_top (fun x4_2 ex4_2 => ?_)
    replace hm := hm x4_2 ex4_2
    refine x_istore hC [(0, .ref (tx 0)), (1, .int p0), (2, .long p1), (4, .int x4_2)] [1, 2, 3, 0] dX6_append_17 (by decide) rfl ?_
    obtain ⟨n_12, hm⟩ := hm
    refine x_lsub [0, 2, 3] rfl ?_
    exact B_19  n_12 tx_bytes tx_length p1 x4_2 hm
  · replace hm := hm.2 c_1
    refine x_bipush hC (-4 : Int32) dX6_append_11 (by decide) ?_
    exact hR ((-4 : Int32)) (tx_bytes, tx_length) [(0, .ref (tx 0)), (1, .int p0), (2, .long p1)] 13 hm rfl dX6_append_13

def wp_X6_clear (tx_length : Int32)  (post : Int32 → Int32 → Prop) : Prop := post tx_length ((0 : Int32))
set_option maxHeartbeats 4000000 in
set_option maxRecDepth 100000 in
theorem c_X6_clear (l : Launch) (D : va_G) (cI cZ : ClassId) (tx : Nat → Nat) (tx_bytes : Nat → Int32) (tx_length : Int32) (tx_parts : Nat → Int32) (tx_place : Int32) (tx_firstFault : Int32)  (post : Int32 → Int32 → Prop) (hm : wp_X6_clear tx_length  post) : Mi l D cI cZ yX6_clear cX6_clear 2 .int 0 0 [.ref (tx 0)] (W_tx cI tx tx_bytes tx_length tx_parts tx_place tx_firstFault) (S := Int32) (fun u => W_tx cI tx tx_bytes u tx_parts tx_place tx_firstFault) (fun r u => post r u) := by
  refine mk_Mi (by decide +kernel) (Nat.le_of_ble_eq_true rfl) ?_
  intro Γ hl0 hD0 hC hR
  subst hl0
  subst hD0
  have hC : CX Γ cI cZ cX6_clear RX6 2 0 0 := hC
  show VV Γ (W_tx cI tx tx_bytes tx_length tx_parts tx_place tx_firstFault) [(0, .ref (tx 0))] 0 []
  unfold wp_X6_clear at hm
  refine x_aload_n hC 0 dX6_clear_0 rfl ?_
  refine x_get hC 3 inX6g 0 rfl rfl 1 (by decide) fl_X6_18 rfl dX6_clear_1 ?_
  refine x_istore_n hC [(0, .ref (tx 0)), (1, .int tx_length)] [1, 0] dX6_clear_4 (by decide) rfl ?_
  refine x_aload_n hC 0 dX6_clear_5 rfl ?_
  refine x_iconst hC (0 : Int32) dX6_clear_6 (by decide) ?_
  refine x_put hC 3 tyX6_ok nmX6 inX6g 0 rfl rfl 1 (by decide) fl_X6_18 rfl (ty := .int) (by decide +kernel) rfl rfl (Nat.le_of_ble_eq_true rfl) (W_tx cI tx tx_bytes ((0 : Int32)) tx_parts tx_place tx_firstFault) rfl dX6_clear_7 ?_
  refine x_iload_n hC 1 dX6_clear_10 rfl ?_
  exact hR tx_length (0 : Int32) [(0, .ref (tx 0)), (1, .int tx_length)] 11 hm rfl dX6_clear_11

def wp_X6_failAt (tx_firstFault : Int32) (p0 : Int32) (post : Int32 → Prop) : Prop := (¬ tx_firstFault = ((-9 : Int32)) → post tx_firstFault) ∧ (tx_firstFault = ((-9 : Int32)) → post p0)
set_option maxHeartbeats 4000000 in
set_option maxRecDepth 100000 in
theorem c_X6_failAt (l : Launch) (D : va_G) (cI cZ : ClassId) (tx : Nat → Nat) (tx_bytes : Nat → Int32) (tx_length : Int32) (tx_parts : Nat → Int32) (tx_place : Int32) (tx_firstFault : Int32) (p0 : Int32) (post : Int32 → Prop) (hm : wp_X6_failAt tx_firstFault p0 post) : Mv l D cI cZ yX6_failAt cX6_failAt 2 0 0 [.ref (tx 0), .int p0] (W_tx cI tx tx_bytes tx_length tx_parts tx_place tx_firstFault) (S := Int32) (fun u => W_tx cI tx tx_bytes tx_length tx_parts tx_place u) (fun u => post u) := by
  refine mk_Mv (by decide +kernel) (Nat.le_of_ble_eq_true rfl) ?_
  intro Γ hl0 hD0 hC hR
  subst hl0
  subst hD0
  have hC : CX Γ cI cZ cX6_failAt RX6 2 0 0 := hC
  show VV Γ (W_tx cI tx tx_bytes tx_length tx_parts tx_place tx_firstFault) [(0, .ref (tx 0)), (1, .int p0)] 0 []
  unfold wp_X6_failAt at hm
  refine x_aload_n hC 0 dX6_failAt_0 rfl ?_
  refine x_get hC 3 inX6g 0 rfl rfl 4 (by decide) fl_X6_33 rfl dX6_failAt_1 ?_
  refine x_bipush hC (-9 : Int32) dX6_failAt_4 (by decide) ?_
  refine x_icmp_ne hC 14 dX6_failAt_6 (by decide) (fun c_1 => ?_) (fun c_1 => ?_)
  · replace hm := hm.1 c_1
    exact hR tx_firstFault [(0, .ref (tx 0)), (1, .int p0)] 14 hm dX6_failAt_14
  · replace hm := hm.2 c_1
    refine x_aload_n hC 0 dX6_failAt_9 rfl ?_
    refine x_iload_n hC 1 dX6_failAt_10 rfl ?_
    refine x_put hC 3 tyX6_ok nmX6 inX6g 0 rfl rfl 4 (by decide) fl_X6_33 rfl (ty := .int) (by decide +kernel) rfl rfl (Nat.le_of_ble_eq_true rfl) (W_tx cI tx tx_bytes tx_length tx_parts tx_place p0) rfl dX6_failAt_11 ?_
    exact hR p0 [(0, .ref (tx 0)), (1, .int p0)] 14 hm dX6_failAt_14

def wp_X6_isFigure  (p0 : Int32) (post : Int32 → Prop) : Prop := (p0 < ((48 : Int32)) → post ((0 : Int32)) ) ∧ (¬ p0 < ((48 : Int32)) → (((57 : Int32)) < p0 → post ((0 : Int32)) ) ∧ (¬ ((57 : Int32)) < p0 → post ((1 : Int32)) ))
set_option maxHeartbeats 4000000 in
set_option maxRecDepth 100000 in
theorem c_X6_isFigure (l : Launch) (D : va_G) (cI cZ : ClassId)   (p0 : Int32) (post : Int32 → Prop) (hm : wp_X6_isFigure  p0 post) : Mi l D cI cZ yX6_isFigure cX6_isFigure 1 .boolean 0 0 [.int p0] (([] : va_W)) (S := Unit) (fun _ => ([] : va_W)) (fun r _ => post r ) := by
  refine mk_Mi (by decide +kernel) (Nat.le_of_ble_eq_true rfl) ?_
  intro Γ hl0 hD0 hC hR
  subst hl0
  subst hD0
  have hC : CX Γ cI cZ cX6_isFigure RX6 1 0 0 := hC
  show VV Γ (([] : va_W)) [(0, .int p0)] 0 []
  unfold wp_X6_isFigure at hm
  refine x_iload_n hC 0 dX6_isFigure_0 rfl ?_
  refine x_bipush hC (48 : Int32) dX6_isFigure_1 (by decide) ?_
  refine x_icmp_lt hC 16 dX6_isFigure_3 (by decide) (fun c_1 => ?_) (fun c_1 => ?_)
  · replace hm := hm.1 c_1
    refine x_iconst hC (0 : Int32) dX6_isFigure_16 (by decide) ?_
    exact hR ((0 : Int32)) () [(0, .int p0)] 17 hm rfl dX6_isFigure_17
  · replace hm := hm.2 c_1
    refine x_iload_n hC 0 dX6_isFigure_6 rfl ?_
    refine x_bipush hC (57 : Int32) dX6_isFigure_7 (by decide) ?_
    refine x_icmp_gt hC 16 dX6_isFigure_9 (by decide) (fun c_2 => ?_) (fun c_2 => ?_)
    · replace hm := hm.1 c_2
      refine x_iconst hC (0 : Int32) dX6_isFigure_16 (by decide) ?_
      exact hR ((0 : Int32)) () [(0, .int p0)] 17 hm rfl dX6_isFigure_17
    · replace hm := hm.2 c_2
      refine x_iconst hC (1 : Int32) dX6_isFigure_12 (by decide) ?_
      refine x_goto hC 17 dX6_isFigure_13 (by decide) ?_
      exact hR ((1 : Int32)) () [(0, .int p0)] 17 hm rfl dX6_isFigure_17

def wp_X6_next (tx_bytes : Nat → Int32) (tx_length : Int32) (tx_place : Int32)  (post : Int32 → Prop) : Prop := (tx_place < 0 → post ((-1 : Int32)) ) ∧ (¬ tx_place < 0 → (tx_length ≤ tx_place → post ((-1 : Int32)) ) ∧ (¬ tx_length ≤ tx_place → (tx_place < ((20 : Int32)) → vp_in tx_place 20 ∧ (post (tx_bytes tx_place.toNatClampNeg) )) ∧ (¬ tx_place < ((20 : Int32)) → post ((-1 : Int32)) )))
set_option maxHeartbeats 4000000 in
set_option maxRecDepth 100000 in
theorem c_X6_next (l : Launch) (D : va_G) (cI cZ : ClassId) (tx : Nat → Nat) (tx_bytes : Nat → Int32) (tx_length : Int32) (tx_parts : Nat → Int32) (tx_place : Int32) (tx_firstFault : Int32)  (post : Int32 → Prop) (hm : wp_X6_next tx_bytes tx_length tx_place  post) : Mi l D cI cZ yX6_next cX6_next 1 .int 0 0 [.ref (tx 0)] (W_tx cI tx tx_bytes tx_length tx_parts tx_place tx_firstFault) (S := Unit) (fun _ => W_tx cI tx tx_bytes tx_length tx_parts tx_place tx_firstFault) (fun r _ => post r ) := by
  refine mk_Mi (by decide +kernel) (Nat.le_of_ble_eq_true rfl) ?_
  intro Γ hl0 hD0 hC hR
  subst hl0
  subst hD0
  have hC : CX Γ cI cZ cX6_next RX6 1 0 0 := hC
  show VV Γ (W_tx cI tx tx_bytes tx_length tx_parts tx_place tx_firstFault) [(0, .ref (tx 0))] 0 []
  unfold wp_X6_next at hm
  refine x_aload_n hC 0 dX6_next_0 rfl ?_
  refine x_get hC 3 inX6g 0 rfl rfl 3 (by decide) fl_X6_30 rfl dX6_next_1 ?_
  refine x_if_lt hC 27 dX6_next_4 (by decide) (fun c_1 => ?_) (fun c_1 => ?_)
  · replace hm := hm.1 c_1
    refine x_iconst hC (-1 : Int32) dX6_next_27 (by decide) ?_
    refine x_goto hC 40 dX6_next_28 (by decide) ?_
    exact hR ((-1 : Int32)) () [(0, .ref (tx 0))] 40 hm rfl dX6_next_40
  · replace hm := hm.2 c_1
    refine x_aload_n hC 0 dX6_next_7 rfl ?_
    refine x_get hC 3 inX6g 0 rfl rfl 3 (by decide) fl_X6_30 rfl dX6_next_8 ?_
    refine x_aload_n hC 0 dX6_next_11 rfl ?_
    refine x_get hC 3 inX6g 0 rfl rfl 1 (by decide) fl_X6_18 rfl dX6_next_12 ?_
    refine x_icmp_ge hC 27 dX6_next_15 (by decide) (fun c_2 => ?_) (fun c_2 => ?_)
    · replace hm := hm.1 c_2
      refine x_iconst hC (-1 : Int32) dX6_next_27 (by decide) ?_
      refine x_goto hC 40 dX6_next_28 (by decide) ?_
      exact hR ((-1 : Int32)) () [(0, .ref (tx 0))] 40 hm rfl dX6_next_40
    · replace hm := hm.2 c_2
      refine x_aload_n hC 0 dX6_next_18 rfl ?_
      refine x_get hC 3 inX6g 0 rfl rfl 3 (by decide) fl_X6_30 rfl dX6_next_19 ?_
      refine x_bipush hC (20 : Int32) dX6_next_22 (by decide) ?_
      refine x_icmp_lt hC 31 dX6_next_24 (by decide) (fun c_3 => ?_) (fun c_3 => ?_)
      · replace hm := hm.1 c_3
        refine x_aload_n hC 0 dX6_next_31 rfl ?_
        refine x_get hC 3 inX6g 0 rfl rfl 0 (by decide) fl_X6_11 rfl dX6_next_32 ?_
        refine x_aload_n hC 0 dX6_next_35 rfl ?_
        refine x_get hC 3 inX6g 0 rfl rfl 3 (by decide) fl_X6_30 rfl dX6_next_36 ?_
        refine x_iald hC 1 rfl hm.1 dX6_next_39 ?_
        replace hm := hm.2
        exact hR (tx_bytes tx_place.toNatClampNeg) () [(0, .ref (tx 0))] 40 hm rfl dX6_next_40
      · replace hm := hm.2 c_3
        refine x_iconst hC (-1 : Int32) dX6_next_27 (by decide) ?_
        refine x_goto hC 40 dX6_next_28 (by decide) ?_
        exact hR ((-1 : Int32)) () [(0, .ref (tx 0))] 40 hm rfl dX6_next_40

def wp_X6_part (tx_parts : Nat → Int32) (p0 : Int32) (post : Int32 → Prop) : Prop := (p0 < 0 → post ((-9 : Int32)) ) ∧ (¬ p0 < 0 → (p0 < ((6 : Int32)) → vp_in p0 6 ∧ (post (tx_parts p0.toNatClampNeg) )) ∧ (¬ p0 < ((6 : Int32)) → post ((-9 : Int32)) ))
set_option maxHeartbeats 4000000 in
set_option maxRecDepth 100000 in
theorem c_X6_part (l : Launch) (D : va_G) (cI cZ : ClassId) (tx : Nat → Nat) (tx_bytes : Nat → Int32) (tx_length : Int32) (tx_parts : Nat → Int32) (tx_place : Int32) (tx_firstFault : Int32) (p0 : Int32) (post : Int32 → Prop) (hm : wp_X6_part tx_parts p0 post) : Mi l D cI cZ yX6_part cX6_part 2 .int 0 0 [.ref (tx 0), .int p0] (W_tx cI tx tx_bytes tx_length tx_parts tx_place tx_firstFault) (S := Unit) (fun _ => W_tx cI tx tx_bytes tx_length tx_parts tx_place tx_firstFault) (fun r _ => post r ) := by
  refine mk_Mi (by decide +kernel) (Nat.le_of_ble_eq_true rfl) ?_
  intro Γ hl0 hD0 hC hR
  subst hl0
  subst hD0
  have hC : CX Γ cI cZ cX6_part RX6 2 0 0 := hC
  show VV Γ (W_tx cI tx tx_bytes tx_length tx_parts tx_place tx_firstFault) [(0, .ref (tx 0)), (1, .int p0)] 0 []
  unfold wp_X6_part at hm
  refine x_iload_n hC 1 dX6_part_0 rfl ?_
  refine x_if_lt hC 10 dX6_part_1 (by decide) (fun c_1 => ?_) (fun c_1 => ?_)
  · replace hm := hm.1 c_1
    refine x_bipush hC (-9 : Int32) dX6_part_10 (by decide) ?_
    refine x_goto hC 21 dX6_part_12 (by decide) ?_
    exact hR ((-9 : Int32)) () [(0, .ref (tx 0)), (1, .int p0)] 21 hm rfl dX6_part_21
  · replace hm := hm.2 c_1
    refine x_iload_n hC 1 dX6_part_4 rfl ?_
    refine x_bipush hC (6 : Int32) dX6_part_5 (by decide) ?_
    refine x_icmp_lt hC 15 dX6_part_7 (by decide) (fun c_2 => ?_) (fun c_2 => ?_)
    · replace hm := hm.1 c_2
      refine x_aload_n hC 0 dX6_part_15 rfl ?_
      refine x_get hC 3 inX6g 0 rfl rfl 2 (by decide) fl_X6_15 rfl dX6_part_16 ?_
      refine x_iload_n hC 1 dX6_part_19 rfl ?_
      refine x_iald hC 2 rfl hm.1 dX6_part_20 ?_
      replace hm := hm.2
      exact hR (tx_parts p0.toNatClampNeg) () [(0, .ref (tx 0)), (1, .int p0)] 21 hm rfl dX6_part_21
    · replace hm := hm.2 c_2
      refine x_bipush hC (-9 : Int32) dX6_part_10 (by decide) ?_
      refine x_goto hC 21 dX6_part_12 (by decide) ?_
      exact hR ((-9 : Int32)) () [(0, .ref (tx 0)), (1, .int p0)] 21 hm rfl dX6_part_21

def wpJ_X6_readLetter_115 (tx_bytes : Nat → Int32) (tx_length : Int32)  (post : (Nat → Int32) → Int32 → Int32 → Prop) (tx_parts_8 : Nat → Int32) (tx_place_9 : Int32) (tx_firstFault_10 : Int32) : Prop := ∀ v_11 : Int32, v_11 = tx_place_9 + ((1 : Int32)) → post tx_parts_8 v_11 tx_firstFault_10
def wp_X6_readLetter (tx_bytes : Nat → Int32) (tx_length : Int32) (tx_parts : Nat → Int32) (tx_place : Int32) (tx_firstFault : Int32)  (post : (Nat → Int32) → Int32 → Int32 → Prop) : Prop := wp_X6_next tx_bytes tx_length tx_place  (fun (r_1 : Int32) => (r_1 = (66 : Int32) → vp_in ((0 : Int32)) 6 ∧ ∀ tx_parts_7 : Nat → Int32, tx_parts_7 = upd tx_parts ((0 : Int32)).toNatClampNeg ((3 : Int32)) → wpJ_X6_readLetter_115 tx_bytes tx_length  post tx_parts_7 tx_place tx_firstFault) ∧ (¬ r_1 = (66 : Int32) → (r_1 = (67 : Int32) → vp_in ((0 : Int32)) 6 ∧ ∀ tx_parts_12 : Nat → Int32, tx_parts_12 = upd tx_parts ((0 : Int32)).toNatClampNeg ((0 : Int32)) → wpJ_X6_readLetter_115 tx_bytes tx_length  post tx_parts_12 tx_place tx_firstFault) ∧ (¬ r_1 = (67 : Int32) → (r_1 = (68 : Int32) → vp_in ((0 : Int32)) 6 ∧ ∀ tx_parts_13 : Nat → Int32, tx_parts_13 = upd tx_parts ((0 : Int32)).toNatClampNeg ((2 : Int32)) → wpJ_X6_readLetter_115 tx_bytes tx_length  post tx_parts_13 tx_place tx_firstFault) ∧ (¬ r_1 = (68 : Int32) → (r_1 = (83 : Int32) → vp_in ((0 : Int32)) 6 ∧ ∀ tx_parts_14 : Nat → Int32, tx_parts_14 = upd tx_parts ((0 : Int32)).toNatClampNeg ((1 : Int32)) → wpJ_X6_readLetter_115 tx_bytes tx_length  post tx_parts_14 tx_place tx_firstFault) ∧ (¬ r_1 = (83 : Int32) → (r_1 = (86 : Int32) → vp_in ((0 : Int32)) 6 ∧ ∀ tx_parts_15 : Nat → Int32, tx_parts_15 = upd tx_parts ((0 : Int32)).toNatClampNeg ((4 : Int32)) → wpJ_X6_readLetter_115 tx_bytes tx_length  post tx_parts_15 tx_place tx_firstFault) ∧ (¬ r_1 = (86 : Int32) → wp_X6_failAt tx_firstFault tx_place (fun (tx_firstFault_16 : Int32) => post tx_parts tx_place tx_firstFault_16)))))))
set_option maxHeartbeats 4000000 in
set_option maxRecDepth 100000 in
theorem c_X6_readLetter (l : Launch) (D : va_G) (cI cZ : ClassId) (tx : Nat → Nat) (tx_bytes : Nat → Int32) (tx_length : Int32) (tx_parts : Nat → Int32) (tx_place : Int32) (tx_firstFault : Int32)  (post : (Nat → Int32) → Int32 → Int32 → Prop) (hm : wp_X6_readLetter tx_bytes tx_length tx_parts tx_place tx_firstFault  post) : Mv l D cI cZ yX6_readLetter cX6_readLetter 1 1 21 [.ref (tx 0)] (W_tx cI tx tx_bytes tx_length tx_parts tx_place tx_firstFault) (S := (Nat → Int32) × Int32 × Int32) (fun u => W_tx cI tx tx_bytes tx_length (u.1) (u.2.1) (u.2.2)) (fun u => post u.1 u.2.1 u.2.2) := by
  refine mk_Mv (by decide +kernel) (Nat.le_of_ble_eq_true rfl) ?_
  intro Γ hl0 hD0 hC hR
  subst hl0
  subst hD0
  have hC : CX Γ cI cZ cX6_readLetter RX6 1 1 21 := hC
  show VV Γ (W_tx cI tx tx_bytes tx_length tx_parts tx_place tx_firstFault) [(0, .ref (tx 0))] 0 []
  have B_115 : ∀ (tx_parts_8 : Nat → Int32) (tx_place_9 : Int32) (tx_firstFault_10 : Int32), wpJ_X6_readLetter_115 tx_bytes tx_length  post tx_parts_8 tx_place_9 tx_firstFault_10 → VV Γ (W_tx cI tx tx_bytes tx_length tx_parts_8 tx_place_9 tx_firstFault_10) [(0, .ref (tx 0))] 115 [] := by
    intro  tx_parts_8 tx_place_9 tx_firstFault_10 hm
    unfold wpJ_X6_readLetter_115 at hm
    refine x_aload_n hC 0 dX6_readLetter_115 rfl ?_
    refine x_dup hC dX6_readLetter_116 rfl ?_
    refine x_get hC 3 inX6g 0 rfl rfl 3 (by decide) fl_X6_30 rfl dX6_readLetter_117 ?_
    refine x_iconst hC (1 : Int32) dX6_readLetter_120 (by decide) ?_
    refine x_iadd hC dX6_readLetter_121 ?_
    refine x_top (fun v_11 ev_11 => ?_)
    replace hm := hm v_11 ev_11
    refine x_put hC 3 tyX6_ok nmX6 inX6g 0 rfl rfl 3 (by decide) fl_X6_30 rfl (ty := .int) (by decide +kernel) rfl rfl (Nat.le_of_ble_eq_true rfl) (W_tx cI tx tx_bytes tx_length tx_parts_8 v_11 tx_firstFault_10) rfl dX6_readLetter_122 ?_
    exact hR (tx_parts_8, v_11, tx_firstFault_10) [(0, .ref (tx 0))] 125 hm dX6_readLetter_125
  unfold wp_X6_readLetter at hm
  refine x_aload_n hC 0 dX6_readLetter_0 rfl ?_
  refine x_callVi hC _ [0, 1, 2] [] [0, 1, 2] (([] : va_W)) (fun _ => W_tx cI tx tx_bytes tx_length tx_parts tx_place tx_firstFault) ok_X6_next ml_X6_49 0 3 (c_X6_next (gl Γ) (gD Γ) cI cZ tx tx_bytes tx_length tx_parts tx_place tx_firstFault  _ hm) (by decide) (by decide) rfl (Nat.le_of_ble_eq_true rfl) rfl rfl rfl rfl (by decide) rfl (fun _ => rfl) rfl rfl rfl rfl dX6_readLetter_1 ?_
  rintro r_1 _ hm
  by_cases c_2 : r_1 = (66 : Int32)
  · replace hm := hm.1 c_2
    refine x_look hC (off := 82) 86 dX6_readLetter_4 (by decide) (by rw [c_2]; decide) (by decide) ?_
    refine x_aload_n hC 0 dX6_readLetter_86 rfl ?_
    refine x_get hC 3 inX6g 0 rfl rfl 2 (by decide) fl_X6_15 rfl dX6_readLetter_87 ?_
    refine x_iconst hC (0 : Int32) dX6_readLetter_90 (by decide) ?_
    refine x_iconst hC (3 : Int32) dX6_readLetter_91 (by decide) ?_
    refine x_iastN hC 2 rfl hm.1 (fun tx_parts_7 => W_tx cI tx tx_bytes tx_length tx_parts_7 tx_place tx_firstFault) (fun _ => rfl) dX6_readLetter_92 (fun tx_parts_7 etx_parts_7 => ?_)
    replace hm := hm.2 tx_parts_7 etx_parts_7
    refine x_goto hC 115 dX6_readLetter_93 (by decide) ?_
    exact B_115   tx_parts_7 tx_place tx_firstFault hm
  · replace hm := hm.2 c_2
    by_cases c_3 : r_1 = (67 : Int32)
    · replace hm := hm.1 c_3
      refine x_look hC (off := 52) 56 dX6_readLetter_4 (by decide) (by rw [c_3]; decide) (by decide) ?_
      refine x_aload_n hC 0 dX6_readLetter_56 rfl ?_
      refine x_get hC 3 inX6g 0 rfl rfl 2 (by decide) fl_X6_15 rfl dX6_readLetter_57 ?_
      refine x_iconst hC (0 : Int32) dX6_readLetter_60 (by decide) ?_
      refine x_iconst hC (0 : Int32) dX6_readLetter_61 (by decide) ?_
      refine x_iastN hC 2 rfl hm.1 (fun tx_parts_12 => W_tx cI tx tx_bytes tx_length tx_parts_12 tx_place tx_firstFault) (fun _ => rfl) dX6_readLetter_62 (fun tx_parts_12 etx_parts_12 => ?_)
      replace hm := hm.2 tx_parts_12 etx_parts_12
      refine x_goto hC 115 dX6_readLetter_63 (by decide) ?_
      exact B_115   tx_parts_12 tx_place tx_firstFault hm
    · replace hm := hm.2 c_3
      by_cases c_4 : r_1 = (68 : Int32)
      · replace hm := hm.1 c_4
        refine x_look hC (off := 72) 76 dX6_readLetter_4 (by decide) (by rw [c_4]; decide) (by decide) ?_
        refine x_aload_n hC 0 dX6_readLetter_76 rfl ?_
        refine x_get hC 3 inX6g 0 rfl rfl 2 (by decide) fl_X6_15 rfl dX6_readLetter_77 ?_
        refine x_iconst hC (0 : Int32) dX6_readLetter_80 (by decide) ?_
        refine x_iconst hC (2 : Int32) dX6_readLetter_81 (by decide) ?_
        refine x_iastN hC 2 rfl hm.1 (fun tx_parts_13 => W_tx cI tx tx_bytes tx_length tx_parts_13 tx_place tx_firstFault) (fun _ => rfl) dX6_readLetter_82 (fun tx_parts_13 etx_parts_13 => ?_)
        replace hm := hm.2 tx_parts_13 etx_parts_13
        refine x_goto hC 115 dX6_readLetter_83 (by decide) ?_
        exact B_115   tx_parts_13 tx_place tx_firstFault hm
      · replace hm := hm.2 c_4
        by_cases c_5 : r_1 = (83 : Int32)
        · replace hm := hm.1 c_5
          refine x_look hC (off := 62) 66 dX6_readLetter_4 (by decide) (by rw [c_5]; decide) (by decide) ?_
          refine x_aload_n hC 0 dX6_readLetter_66 rfl ?_
          refine x_get hC 3 inX6g 0 rfl rfl 2 (by decide) fl_X6_15 rfl dX6_readLetter_67 ?_
          refine x_iconst hC (0 : Int32) dX6_readLetter_70 (by decide) ?_
          refine x_iconst hC (1 : Int32) dX6_readLetter_71 (by decide) ?_
          refine x_iastN hC 2 rfl hm.1 (fun tx_parts_14 => W_tx cI tx tx_bytes tx_length tx_parts_14 tx_place tx_firstFault) (fun _ => rfl) dX6_readLetter_72 (fun tx_parts_14 etx_parts_14 => ?_)
          replace hm := hm.2 tx_parts_14 etx_parts_14
          refine x_goto hC 115 dX6_readLetter_73 (by decide) ?_
          exact B_115   tx_parts_14 tx_place tx_firstFault hm
        · replace hm := hm.2 c_5
          by_cases c_6 : r_1 = (86 : Int32)
          · replace hm := hm.1 c_6
            refine x_look hC (off := 92) 96 dX6_readLetter_4 (by decide) (by rw [c_6]; decide) (by decide) ?_
            refine x_aload_n hC 0 dX6_readLetter_96 rfl ?_
            refine x_get hC 3 inX6g 0 rfl rfl 2 (by decide) fl_X6_15 rfl dX6_readLetter_97 ?_
            refine x_iconst hC (0 : Int32) dX6_readLetter_100 (by decide) ?_
            refine x_iconst hC (4 : Int32) dX6_readLetter_101 (by decide) ?_
            refine x_iastN hC 2 rfl hm.1 (fun tx_parts_15 => W_tx cI tx tx_bytes tx_length tx_parts_15 tx_place tx_firstFault) (fun _ => rfl) dX6_readLetter_102 (fun tx_parts_15 etx_parts_15 => ?_)
            replace hm := hm.2 tx_parts_15 etx_parts_15
            refine x_goto hC 115 dX6_readLetter_103 (by decide) ?_
            exact B_115   tx_parts_15 tx_place tx_firstFault hm
          · replace hm := hm.2 c_6
            refine x_look hC (off := 102) 106 dX6_readLetter_4 (by decide) (by show Op.lookupswitch.offset [(66, 82), (67, 52), (68, 72), (83, 62), (86, 92)] _ _ = _; rw [lv_osw (a := 66) c_2 (by decide), lv_osw (a := 67) c_3 (by decide), lv_osw (a := 68) c_4 (by decide), lv_osw (a := 83) c_5 (by decide), lv_osw (a := 86) c_6 (by decide)]; rfl) (by decide) ?_
            refine x_aload_n hC 0 dX6_readLetter_106 rfl ?_
            refine x_aload_n hC 0 dX6_readLetter_107 rfl ?_
            refine x_get hC 3 inX6g 0 rfl rfl 3 (by decide) fl_X6_30 rfl dX6_readLetter_108 ?_
            refine x_callVv hC _ [0, 1, 2] [] [0, 1, 2] (([] : va_W)) (fun u => W_tx cI tx tx_bytes tx_length tx_parts tx_place u) ok_X6_failAt ml_X6_45 0 3 (c_X6_failAt (gl Γ) (gD Γ) cI cZ tx tx_bytes tx_length tx_parts tx_place tx_firstFault tx_place _ hm) (by decide) (by decide) rfl (Nat.le_of_ble_eq_true rfl) rfl rfl rfl rfl (by decide) rfl (fun _ => rfl) rfl rfl rfl rfl dX6_readLetter_111 ?_
            rintro tx_firstFault_16 hm
            exact hR (tx_parts, tx_place, tx_firstFault_16) [(0, .ref (tx 0))] 114 hm dX6_readLetter_114

def wpJ_X6_readNumber_74 (tx_bytes : Nat → Int32) (tx_length : Int32)  (post : Int32 → Int32 → Int32 → Prop) (tx_place_9 : Int32) (tx_firstFault_10 : Int32) (x1_11 : Int32) (x3_12 : Int32) (x4_13 : Int32) : Prop := (¬ tx_place_9 = x3_12 → (x1_11 ≤ x4_13 → post x4_13 tx_place_9 tx_firstFault_10) ∧ (¬ x1_11 ≤ x4_13 → (¬ tx_place_9 = (x3_12 + ((1 : Int32))) → wp_X6_failAt tx_firstFault_10 x3_12 (fun (tx_firstFault_17 : Int32) => post x4_13 tx_place_9 tx_firstFault_17)) ∧ (tx_place_9 = (x3_12 + ((1 : Int32))) → (tx_place_9 < tx_length → wp_X6_failAt tx_firstFault_10 x3_12 (fun (tx_firstFault_19 : Int32) => post x4_13 tx_place_9 tx_firstFault_19)) ∧ (¬ tx_place_9 < tx_length → wp_X6_failAt tx_firstFault_10 tx_place_9 (fun (tx_firstFault_20 : Int32) => post x4_13 tx_place_9 tx_firstFault_20))))) ∧ (tx_place_9 = x3_12 → wp_X6_failAt tx_firstFault_10 tx_place_9 (fun (tx_firstFault_21 : Int32) => post x4_13 tx_place_9 tx_firstFault_21))
def wpL_X6_readNumber_11 (tx_bytes : Nat → Int32) (tx_length : Int32)  (post : Int32 → Int32 → Int32 → Prop) : Nat → Int32 → Int32 → Int32 → Int32 → Int32 → Int32 → Int32 → Prop
  | 0, _, _, _, _, _, _, _ => False
  | n + 1, tx_place_1, tx_firstFault_2, x1_3, x2_4, x3_5, x4_6, x5_7 => (((2 : Int32)) ≤ x5_7 → wpJ_X6_readNumber_74 tx_bytes tx_length  post tx_place_1 tx_firstFault_2 x1_3 x3_5 x4_6) ∧ (¬ ((2 : Int32)) ≤ x5_7 → wp_X6_next tx_bytes tx_length tx_place_1  (fun (r_22 : Int32) => wp_X6_isFigure  r_22 (fun (r_23 : Int32) => (r_23 = 0 → wpJ_X6_readNumber_74 tx_bytes tx_length  post tx_place_1 tx_firstFault_2 x1_3 x3_5 x4_6) ∧ (¬ r_23 = 0 → wp_X6_next tx_bytes tx_length tx_place_1  (fun (r_25 : Int32) => ∀ x4_26 : Int32, x4_26 = ((((10 : Int32)) * x4_6) + r_25) - ((48 : Int32)) → (x4_26 ≤ x2_4 → ∀ v_28 : Int32, v_28 = tx_place_1 + ((1 : Int32)) → ∀ x5_29 : Int32, x5_29 = x5_7 + (1 : Int32) → (wpL_X6_readNumber_11 tx_bytes tx_length  post n) v_28 tx_firstFault_2 x1_3 x2_4 x3_5 x4_26 x5_29) ∧ (¬ x4_26 ≤ x2_4 → wp_X6_failAt tx_firstFault_2 tx_place_1 (fun (tx_firstFault_30 : Int32) => post ((0 : Int32)) tx_place_1 tx_firstFault_30)))))))
def wp_X6_readNumber (tx_bytes : Nat → Int32) (tx_length : Int32) (tx_place : Int32) (tx_firstFault : Int32) (p0 : Int32) (p1 : Int32) (post : Int32 → Int32 → Int32 → Prop) : Prop := ∃ k11, wpL_X6_readNumber_11 tx_bytes tx_length  post k11 tx_place tx_firstFault p0 p1 tx_place ((0 : Int32)) ((0 : Int32))
set_option maxHeartbeats 4000000 in
set_option maxRecDepth 100000 in
theorem c_X6_readNumber (l : Launch) (D : va_G) (cI cZ : ClassId) (tx : Nat → Nat) (tx_bytes : Nat → Int32) (tx_length : Int32) (tx_parts : Nat → Int32) (tx_place : Int32) (tx_firstFault : Int32) (p0 : Int32) (p1 : Int32) (post : Int32 → Int32 → Int32 → Prop) (hm : wp_X6_readNumber tx_bytes tx_length tx_place tx_firstFault p0 p1 post) : Mi l D cI cZ yX6_readNumber cX6_readNumber 6 .int 1 21 [.ref (tx 0), .int p0, .int p1] (W_tx cI tx tx_bytes tx_length tx_parts tx_place tx_firstFault) (S := Int32 × Int32) (fun u => W_tx cI tx tx_bytes tx_length tx_parts (u.1) (u.2)) (fun r u => post r u.1 u.2) := by
  refine mk_Mi (by decide +kernel) (Nat.le_of_ble_eq_true rfl) ?_
  intro Γ hl0 hD0 hC hR
  subst hl0
  subst hD0
  have hC : CX Γ cI cZ cX6_readNumber RX6 6 1 21 := hC
  show VV Γ (W_tx cI tx tx_bytes tx_length tx_parts tx_place tx_firstFault) [(0, .ref (tx 0)), (1, .int p0), (2, .int p1)] 0 []
  have B_74 : ∀ (tx_place_9 : Int32) (tx_firstFault_10 : Int32) (x1_11 : Int32) (x3_12 : Int32) (x4_13 : Int32), wpJ_X6_readNumber_74 tx_bytes tx_length  post tx_place_9 tx_firstFault_10 x1_11 x3_12 x4_13 → VV Γ (W_tx cI tx tx_bytes tx_length tx_parts tx_place_9 tx_firstFault_10) [(0, .ref (tx 0)), (1, .int x1_11), (3, .int x3_12), (4, .int x4_13)] 74 [] := by
    intro  tx_place_9 tx_firstFault_10 x1_11 x3_12 x4_13 hm
    unfold wpJ_X6_readNumber_74 at hm
    refine x_aload_n hC 0 dX6_readNumber_74 rfl ?_
    refine x_get hC 3 inX6g 0 rfl rfl 3 (by decide) fl_X6_30 rfl dX6_readNumber_75 ?_
    refine x_iload_n hC 2 dX6_readNumber_78 rfl ?_
    refine x_icmp_ne hC 93 dX6_readNumber_79 (by decide) (fun c_14 => ?_) (fun c_14 => ?_)
    · replace hm := hm.1 c_14
      refine x_iload hC 3 dX6_readNumber_93 rfl ?_
      refine x_iload_n hC 1 dX6_readNumber_95 rfl ?_
      refine x_icmp_ge hC 132 dX6_readNumber_96 (by decide) (fun c_15 => ?_) (fun c_15 => ?_)
      · replace hm := hm.1 c_15
        refine x_iload hC 3 dX6_readNumber_132 rfl ?_
        exact hR x4_13 (tx_place_9, tx_firstFault_10) [(0, .ref (tx 0)), (1, .int x1_11), (3, .int x3_12), (4, .int x4_13)] 134 hm rfl dX6_readNumber_134
      · replace hm := hm.2 c_15
        refine x_aload_n hC 0 dX6_readNumber_99 rfl ?_
        refine x_aload_n hC 0 dX6_readNumber_100 rfl ?_
        refine x_get hC 3 inX6g 0 rfl rfl 3 (by decide) fl_X6_30 rfl dX6_readNumber_101 ?_
        refine x_iload_n hC 2 dX6_readNumber_104 rfl ?_
        refine x_iconst hC (1 : Int32) dX6_readNumber_105 (by decide) ?_
        refine x_iadd hC dX6_readNumber_106 ?_
        refine x_icmp_ne hC 128 dX6_readNumber_107 (by decide) (fun c_16 => ?_) (fun c_16 => ?_)
        · replace hm := hm.1 c_16
          refine x_iload_n hC 2 dX6_readNumber_128 rfl ?_
          refine x_callVv hC _ [0, 1, 2] [] [0, 1, 2] (([] : va_W)) (fun u => W_tx cI tx tx_bytes tx_length tx_parts tx_place_9 u) ok_X6_failAt ml_X6_45 0 3 (c_X6_failAt (gl Γ) (gD Γ) cI cZ tx tx_bytes tx_length tx_parts tx_place_9 tx_firstFault_10 x3_12 _ hm) (by decide) (by decide) rfl (Nat.le_of_ble_eq_true rfl) rfl rfl rfl rfl (by decide) rfl (fun _ => rfl) rfl rfl rfl rfl dX6_readNumber_129 ?_
          rintro tx_firstFault_17 hm
          refine x_iload hC 3 dX6_readNumber_132 rfl ?_
          exact hR x4_13 (tx_place_9, tx_firstFault_17) [(0, .ref (tx 0)), (1, .int x1_11), (3, .int x3_12), (4, .int x4_13)] 134 hm rfl dX6_readNumber_134
        · replace hm := hm.2 c_16
          refine x_aload_n hC 0 dX6_readNumber_110 rfl ?_
          refine x_get hC 3 inX6g 0 rfl rfl 3 (by decide) fl_X6_30 rfl dX6_readNumber_111 ?_
          refine x_aload_n hC 0 dX6_readNumber_114 rfl ?_
          refine x_get hC 3 inX6g 0 rfl rfl 1 (by decide) fl_X6_18 rfl dX6_readNumber_115 ?_
          refine x_icmp_lt hC 128 dX6_readNumber_118 (by decide) (fun c_18 => ?_) (fun c_18 => ?_)
          · replace hm := hm.1 c_18
            refine x_iload_n hC 2 dX6_readNumber_128 rfl ?_
            refine x_callVv hC _ [0, 1, 2] [] [0, 1, 2] (([] : va_W)) (fun u => W_tx cI tx tx_bytes tx_length tx_parts tx_place_9 u) ok_X6_failAt ml_X6_45 0 3 (c_X6_failAt (gl Γ) (gD Γ) cI cZ tx tx_bytes tx_length tx_parts tx_place_9 tx_firstFault_10 x3_12 _ hm) (by decide) (by decide) rfl (Nat.le_of_ble_eq_true rfl) rfl rfl rfl rfl (by decide) rfl (fun _ => rfl) rfl rfl rfl rfl dX6_readNumber_129 ?_
            rintro tx_firstFault_19 hm
            refine x_iload hC 3 dX6_readNumber_132 rfl ?_
            exact hR x4_13 (tx_place_9, tx_firstFault_19) [(0, .ref (tx 0)), (1, .int x1_11), (3, .int x3_12), (4, .int x4_13)] 134 hm rfl dX6_readNumber_134
          · replace hm := hm.2 c_18
            refine x_aload_n hC 0 dX6_readNumber_121 rfl ?_
            refine x_get hC 3 inX6g 0 rfl rfl 3 (by decide) fl_X6_30 rfl dX6_readNumber_122 ?_
            refine x_goto hC 129 dX6_readNumber_125 (by decide) ?_
            refine x_callVv hC _ [0, 1, 2] [] [0, 1, 2] (([] : va_W)) (fun u => W_tx cI tx tx_bytes tx_length tx_parts tx_place_9 u) ok_X6_failAt ml_X6_45 0 3 (c_X6_failAt (gl Γ) (gD Γ) cI cZ tx tx_bytes tx_length tx_parts tx_place_9 tx_firstFault_10 tx_place_9 _ hm) (by decide) (by decide) rfl (Nat.le_of_ble_eq_true rfl) rfl rfl rfl rfl (by decide) rfl (fun _ => rfl) rfl rfl rfl rfl dX6_readNumber_129 ?_
            rintro tx_firstFault_20 hm
            refine x_iload hC 3 dX6_readNumber_132 rfl ?_
            exact hR x4_13 (tx_place_9, tx_firstFault_20) [(0, .ref (tx 0)), (1, .int x1_11), (3, .int x3_12), (4, .int x4_13)] 134 hm rfl dX6_readNumber_134
    · replace hm := hm.2 c_14
      refine x_aload_n hC 0 dX6_readNumber_82 rfl ?_
      refine x_aload_n hC 0 dX6_readNumber_83 rfl ?_
      refine x_get hC 3 inX6g 0 rfl rfl 3 (by decide) fl_X6_30 rfl dX6_readNumber_84 ?_
      refine x_callVv hC _ [0, 1, 2] [] [0, 1, 2] (([] : va_W)) (fun u => W_tx cI tx tx_bytes tx_length tx_parts tx_place_9 u) ok_X6_failAt ml_X6_45 0 3 (c_X6_failAt (gl Γ) (gD Γ) cI cZ tx tx_bytes tx_length tx_parts tx_place_9 tx_firstFault_10 tx_place_9 _ hm) (by decide) (by decide) rfl (Nat.le_of_ble_eq_true rfl) rfl rfl rfl rfl (by decide) rfl (fun _ => rfl) rfl rfl rfl rfl dX6_readNumber_87 ?_
      rintro tx_firstFault_21 hm
      refine x_goto hC 132 dX6_readNumber_90 (by decide) ?_
      refine x_iload hC 3 dX6_readNumber_132 rfl ?_
      exact hR x4_13 (tx_place_9, tx_firstFault_21) [(0, .ref (tx 0)), (1, .int x1_11), (3, .int x3_12), (4, .int x4_13)] 134 hm rfl dX6_readNumber_134
  have B_11 : ∀ (n : Nat) (tx_place_1 : Int32) (tx_firstFault_2 : Int32) (x1_3 : Int32) (x2_4 : Int32) (x3_5 : Int32) (x4_6 : Int32) (x5_7 : Int32), wpL_X6_readNumber_11 tx_bytes tx_length  post n tx_place_1 tx_firstFault_2 x1_3 x2_4 x3_5 x4_6 x5_7 → VV Γ (W_tx cI tx tx_bytes tx_length tx_parts tx_place_1 tx_firstFault_2) [(0, .ref (tx 0)), (1, .int x1_3), (2, .int x2_4), (3, .int x3_5), (4, .int x4_6), (5, .int x5_7)] 11 [] := by
    intro  n
    induction n with
    | zero => intro tx_place_1 tx_firstFault_2 x1_3 x2_4 x3_5 x4_6 x5_7 hm; rw [wpL_X6_readNumber_11] at hm; exact hm.elim
    | succ n ih =>
      intro tx_place_1 tx_firstFault_2 x1_3 x2_4 x3_5 x4_6 x5_7 hm
      rw [wpL_X6_readNumber_11] at hm
      refine x_iload hC 5 dX6_readNumber_11 rfl ?_
      refine x_iconst hC (2 : Int32) dX6_readNumber_13 (by decide) ?_
      refine x_icmp_ge hC 74 dX6_readNumber_14 (by decide) (fun c_8 => ?_) (fun c_8 => ?_)
      · replace hm := hm.1 c_8
        refine x_lsub [0, 1, 3, 4] rfl ?_
        exact B_74   tx_place_1 tx_firstFault_2 x1_3 x3_5 x4_6 hm
      · replace hm := hm.2 c_8
        refine x_aload_n hC 0 dX6_readNumber_17 rfl ?_
        refine x_callVi hC _ [0, 1, 2] [] [0, 1, 2] (([] : va_W)) (fun _ => W_tx cI tx tx_bytes tx_length tx_parts tx_place_1 tx_firstFault_2) ok_X6_next ml_X6_49 0 3 (c_X6_next (gl Γ) (gD Γ) cI cZ tx tx_bytes tx_length tx_parts tx_place_1 tx_firstFault_2  _ hm) (by decide) (by decide) rfl (Nat.le_of_ble_eq_true rfl) rfl rfl rfl rfl (by decide) rfl (fun _ => rfl) rfl rfl rfl rfl dX6_readNumber_18 ?_
        rintro r_22 _ hm
        refine x_callSi hC _ [] [0, 1, 2] [0, 1, 2] (W_tx cI tx tx_bytes tx_length tx_parts tx_place_1 tx_firstFault_2) (fun _ => W_tx cI tx tx_bytes tx_length tx_parts tx_place_1 tx_firstFault_2) ok_X6_isFigure ml_X6_63 (c_X6_isFigure (gl Γ) (gD Γ) cI cZ   r_22 _ hm) (by decide) (by decide) rfl (Nat.le_of_ble_eq_true rfl) rfl rfl rfl rfl (by decide) rfl (fun _ => rfl) rfl dX6_readNumber_21 ?_
        rintro r_23 _ hm
        refine x_if_eq hC 74 dX6_readNumber_24 (by decide) (fun c_24 => ?_) (fun c_24 => ?_)
        · replace hm := hm.1 c_24
          refine x_lsub [0, 1, 3, 4] rfl ?_
          exact B_74   tx_place_1 tx_firstFault_2 x1_3 x3_5 x4_6 hm
        · replace hm := hm.2 c_24
          refine x_bipush hC (10 : Int32) dX6_readNumber_27 (by decide) ?_
          refine x_iload hC 4 dX6_readNumber_29 rfl ?_
          refine x_imul hC dX6_readNumber_31 ?_
          refine x_aload_n hC 0 dX6_readNumber_32 rfl ?_
          refine x_callVi hC _ [0, 1, 2] [] [0, 1, 2] (([] : va_W)) (fun _ => W_tx cI tx tx_bytes tx_length tx_parts tx_place_1 tx_firstFault_2) ok_X6_next ml_X6_49 0 3 (c_X6_next (gl Γ) (gD Γ) cI cZ tx tx_bytes tx_length tx_parts tx_place_1 tx_firstFault_2  _ hm) (by decide) (by decide) rfl (Nat.le_of_ble_eq_true rfl) rfl rfl rfl rfl (by decide) rfl (fun _ => rfl) rfl rfl rfl rfl dX6_readNumber_33 ?_
          rintro r_25 _ hm
          refine x_iadd hC dX6_readNumber_36 ?_
          refine x_bipush hC (48 : Int32) dX6_readNumber_37 (by decide) ?_
          refine x_isub hC dX6_readNumber_39 ?_
          refine x_top (fun x4_26 ex4_26 => ?_)
          replace hm := hm x4_26 ex4_26
          refine x_istore hC [(0, .ref (tx 0)), (1, .int x1_3), (2, .int x2_4), (3, .int x3_5), (4, .int x4_26), (5, .int x5_7)] [1, 2, 3, 4, 0, 5] dX6_readNumber_40 (by decide) rfl ?_
          refine x_iload hC 4 dX6_readNumber_42 rfl ?_
          refine x_iload_n hC 2 dX6_readNumber_44 rfl ?_
          refine x_icmp_le hC 58 dX6_readNumber_45 (by decide) (fun c_27 => ?_) (fun c_27 => ?_)
          · replace hm := hm.1 c_27
            refine x_aload_n hC 0 dX6_readNumber_58 rfl ?_
            refine x_dup hC dX6_readNumber_59 rfl ?_
            refine x_get hC 3 inX6g 0 rfl rfl 3 (by decide) fl_X6_30 rfl dX6_readNumber_60 ?_
            refine x_iconst hC (1 : Int32) dX6_readNumber_63 (by decide) ?_
            refine x_iadd hC dX6_readNumber_64 ?_
            refine x_top (fun v_28 ev_28 => ?_)
            replace hm := hm v_28 ev_28
            refine x_put hC 3 tyX6_ok nmX6 inX6g 0 rfl rfl 3 (by decide) fl_X6_30 rfl (ty := .int) (by decide +kernel) rfl rfl (Nat.le_of_ble_eq_true rfl) (W_tx cI tx tx_bytes tx_length tx_parts v_28 tx_firstFault_2) rfl dX6_readNumber_65 ?_
            obtain ⟨x5_29, ex5_29⟩ : ∃ y : Int32, y = x5_7 + (1 : Int32) := ⟨_, rfl⟩
            replace hm := hm x5_29 ex5_29
            refine x_iinc hC 5 x5_29 [(0, .ref (tx 0)), (1, .int x1_3), (2, .int x2_4), (3, .int x3_5), (4, .int x4_26), (5, .int x5_29)] [1, 2, 3, 4, 5, 0] dX6_readNumber_68 rfl (by rw [ex5_29]; rfl) (by decide) rfl ?_
            refine x_goto hC 11 dX6_readNumber_71 (by decide) ?_
            exact ih v_28 tx_firstFault_2 x1_3 x2_4 x3_5 x4_26 x5_29 hm
          · replace hm := hm.2 c_27
            refine x_aload_n hC 0 dX6_readNumber_48 rfl ?_
            refine x_aload_n hC 0 dX6_readNumber_49 rfl ?_
            refine x_get hC 3 inX6g 0 rfl rfl 3 (by decide) fl_X6_30 rfl dX6_readNumber_50 ?_
            refine x_callVv hC _ [0, 1, 2] [] [0, 1, 2] (([] : va_W)) (fun u => W_tx cI tx tx_bytes tx_length tx_parts tx_place_1 u) ok_X6_failAt ml_X6_45 0 3 (c_X6_failAt (gl Γ) (gD Γ) cI cZ tx tx_bytes tx_length tx_parts tx_place_1 tx_firstFault_2 tx_place_1 _ hm) (by decide) (by decide) rfl (Nat.le_of_ble_eq_true rfl) rfl rfl rfl rfl (by decide) rfl (fun _ => rfl) rfl rfl rfl rfl dX6_readNumber_53 ?_
            rintro tx_firstFault_30 hm
            refine x_iconst hC (0 : Int32) dX6_readNumber_56 (by decide) ?_
            exact hR ((0 : Int32)) (tx_place_1, tx_firstFault_30) [(0, .ref (tx 0)), (1, .int x1_3), (2, .int x2_4), (3, .int x3_5), (4, .int x4_26), (5, .int x5_7)] 57 hm rfl dX6_readNumber_57
  unfold wp_X6_readNumber at hm
  refine x_aload_n hC 0 dX6_readNumber_0 rfl ?_
  refine x_get hC 3 inX6g 0 rfl rfl 3 (by decide) fl_X6_30 rfl dX6_readNumber_1 ?_
  refine x_istore_n hC [(0, .ref (tx 0)), (1, .int p0), (2, .int p1), (3, .int tx_place)] [1, 2, 3, 0] dX6_readNumber_4 (by decide) rfl ?_
  refine x_iconst hC (0 : Int32) dX6_readNumber_5 (by decide) ?_
  refine x_istore hC [(0, .ref (tx 0)), (1, .int p0), (2, .int p1), (3, .int tx_place), (4, .int ((0 : Int32)))] [1, 2, 3, 4, 0] dX6_readNumber_6 (by decide) rfl ?_
  refine x_iconst hC (0 : Int32) dX6_readNumber_8 (by decide) ?_
  refine x_istore hC [(0, .ref (tx 0)), (1, .int p0), (2, .int p1), (3, .int tx_place), (4, .int ((0 : Int32))), (5, .int ((0 : Int32)))] [1, 2, 3, 4, 5, 0] dX6_readNumber_9 (by decide) rfl ?_
  obtain ⟨n_31, hm⟩ := hm
  exact B_11  n_31 tx_place tx_firstFault p0 p1 tx_place ((0 : Int32)) ((0 : Int32)) hm

def wp_X6_readSign (tx_bytes : Nat → Int32) (tx_length : Int32) (tx_place : Int32) (tx_firstFault : Int32) (p0 : Int32) (post : Int32 → Int32 → Prop) : Prop := wp_X6_next tx_bytes tx_length tx_place  (fun (r_1 : Int32) => (¬ r_1 = p0 → wp_X6_failAt tx_firstFault tx_place (fun (tx_firstFault_3 : Int32) => post tx_place tx_firstFault_3)) ∧ (r_1 = p0 → ∀ v_4 : Int32, v_4 = tx_place + ((1 : Int32)) → post v_4 tx_firstFault))
set_option maxHeartbeats 4000000 in
set_option maxRecDepth 100000 in
theorem c_X6_readSign (l : Launch) (D : va_G) (cI cZ : ClassId) (tx : Nat → Nat) (tx_bytes : Nat → Int32) (tx_length : Int32) (tx_parts : Nat → Int32) (tx_place : Int32) (tx_firstFault : Int32) (p0 : Int32) (post : Int32 → Int32 → Prop) (hm : wp_X6_readSign tx_bytes tx_length tx_place tx_firstFault p0 post) : Mv l D cI cZ yX6_readSign cX6_readSign 2 1 21 [.ref (tx 0), .int p0] (W_tx cI tx tx_bytes tx_length tx_parts tx_place tx_firstFault) (S := Int32 × Int32) (fun u => W_tx cI tx tx_bytes tx_length tx_parts (u.1) (u.2)) (fun u => post u.1 u.2) := by
  refine mk_Mv (by decide +kernel) (Nat.le_of_ble_eq_true rfl) ?_
  intro Γ hl0 hD0 hC hR
  subst hl0
  subst hD0
  have hC : CX Γ cI cZ cX6_readSign RX6 2 1 21 := hC
  show VV Γ (W_tx cI tx tx_bytes tx_length tx_parts tx_place tx_firstFault) [(0, .ref (tx 0)), (1, .int p0)] 0 []
  unfold wp_X6_readSign at hm
  refine x_aload_n hC 0 dX6_readSign_0 rfl ?_
  refine x_callVi hC _ [0, 1, 2] [] [0, 1, 2] (([] : va_W)) (fun _ => W_tx cI tx tx_bytes tx_length tx_parts tx_place tx_firstFault) ok_X6_next ml_X6_49 0 3 (c_X6_next (gl Γ) (gD Γ) cI cZ tx tx_bytes tx_length tx_parts tx_place tx_firstFault  _ hm) (by decide) (by decide) rfl (Nat.le_of_ble_eq_true rfl) rfl rfl rfl rfl (by decide) rfl (fun _ => rfl) rfl rfl rfl rfl dX6_readSign_1 ?_
  rintro r_1 _ hm
  refine x_iload_n hC 1 dX6_readSign_4 rfl ?_
  refine x_icmp_ne hC 21 dX6_readSign_5 (by decide) (fun c_2 => ?_) (fun c_2 => ?_)
  · replace hm := hm.1 c_2
    refine x_aload_n hC 0 dX6_readSign_21 rfl ?_
    refine x_aload_n hC 0 dX6_readSign_22 rfl ?_
    refine x_get hC 3 inX6g 0 rfl rfl 3 (by decide) fl_X6_30 rfl dX6_readSign_23 ?_
    refine x_callVv hC _ [0, 1, 2] [] [0, 1, 2] (([] : va_W)) (fun u => W_tx cI tx tx_bytes tx_length tx_parts tx_place u) ok_X6_failAt ml_X6_45 0 3 (c_X6_failAt (gl Γ) (gD Γ) cI cZ tx tx_bytes tx_length tx_parts tx_place tx_firstFault tx_place _ hm) (by decide) (by decide) rfl (Nat.le_of_ble_eq_true rfl) rfl rfl rfl rfl (by decide) rfl (fun _ => rfl) rfl rfl rfl rfl dX6_readSign_26 ?_
    rintro tx_firstFault_3 hm
    exact hR (tx_place, tx_firstFault_3) [(0, .ref (tx 0)), (1, .int p0)] 29 hm dX6_readSign_29
  · replace hm := hm.2 c_2
    refine x_aload_n hC 0 dX6_readSign_8 rfl ?_
    refine x_dup hC dX6_readSign_9 rfl ?_
    refine x_get hC 3 inX6g 0 rfl rfl 3 (by decide) fl_X6_30 rfl dX6_readSign_10 ?_
    refine x_iconst hC (1 : Int32) dX6_readSign_13 (by decide) ?_
    refine x_iadd hC dX6_readSign_14 ?_
    refine x_top (fun v_4 ev_4 => ?_)
    replace hm := hm v_4 ev_4
    refine x_put hC 3 tyX6_ok nmX6 inX6g 0 rfl rfl 3 (by decide) fl_X6_30 rfl (ty := .int) (by decide +kernel) rfl rfl (Nat.le_of_ble_eq_true rfl) (W_tx cI tx tx_bytes tx_length tx_parts v_4 tx_firstFault) rfl dX6_readSign_15 ?_
    refine x_goto hC 29 dX6_readSign_18 (by decide) ?_
    exact hR (v_4, tx_firstFault) [(0, .ref (tx 0)), (1, .int p0)] 29 hm dX6_readSign_29

def wpJ_X6_readPlusOrMinus_27 (tx_bytes : Nat → Int32) (tx_length : Int32)  (post : Int32 → Int32 → Int32 → Prop) (tx_place_3 : Int32) (tx_firstFault_4 : Int32) (x1_5 : Int32) : Prop := ∀ v_6 : Int32, v_6 = tx_place_3 + ((1 : Int32)) → (¬ x1_5 = ((43 : Int32)) → post ((0 : Int32)) v_6 tx_firstFault_4) ∧ (x1_5 = ((43 : Int32)) → post ((1 : Int32)) v_6 tx_firstFault_4)
def wp_X6_readPlusOrMinus (tx_bytes : Nat → Int32) (tx_length : Int32) (tx_place : Int32) (tx_firstFault : Int32)  (post : Int32 → Int32 → Int32 → Prop) : Prop := wp_X6_next tx_bytes tx_length tx_place  (fun (r_1 : Int32) => (r_1 = ((43 : Int32)) → wpJ_X6_readPlusOrMinus_27 tx_bytes tx_length  post tx_place tx_firstFault r_1) ∧ (¬ r_1 = ((43 : Int32)) → (r_1 = ((45 : Int32)) → wpJ_X6_readPlusOrMinus_27 tx_bytes tx_length  post tx_place tx_firstFault r_1) ∧ (¬ r_1 = ((45 : Int32)) → wp_X6_failAt tx_firstFault tx_place (fun (tx_firstFault_9 : Int32) => post ((0 : Int32)) tx_place tx_firstFault_9))))
set_option maxHeartbeats 4000000 in
set_option maxRecDepth 100000 in
theorem c_X6_readPlusOrMinus (l : Launch) (D : va_G) (cI cZ : ClassId) (tx : Nat → Nat) (tx_bytes : Nat → Int32) (tx_length : Int32) (tx_parts : Nat → Int32) (tx_place : Int32) (tx_firstFault : Int32)  (post : Int32 → Int32 → Int32 → Prop) (hm : wp_X6_readPlusOrMinus tx_bytes tx_length tx_place tx_firstFault  post) : Mi l D cI cZ yX6_readPlusOrMinus cX6_readPlusOrMinus 2 .int 1 21 [.ref (tx 0)] (W_tx cI tx tx_bytes tx_length tx_parts tx_place tx_firstFault) (S := Int32 × Int32) (fun u => W_tx cI tx tx_bytes tx_length tx_parts (u.1) (u.2)) (fun r u => post r u.1 u.2) := by
  refine mk_Mi (by decide +kernel) (Nat.le_of_ble_eq_true rfl) ?_
  intro Γ hl0 hD0 hC hR
  subst hl0
  subst hD0
  have hC : CX Γ cI cZ cX6_readPlusOrMinus RX6 2 1 21 := hC
  show VV Γ (W_tx cI tx tx_bytes tx_length tx_parts tx_place tx_firstFault) [(0, .ref (tx 0))] 0 []
  have B_27 : ∀ (tx_place_3 : Int32) (tx_firstFault_4 : Int32) (x1_5 : Int32), wpJ_X6_readPlusOrMinus_27 tx_bytes tx_length  post tx_place_3 tx_firstFault_4 x1_5 → VV Γ (W_tx cI tx tx_bytes tx_length tx_parts tx_place_3 tx_firstFault_4) [(0, .ref (tx 0)), (1, .int x1_5)] 27 [] := by
    intro  tx_place_3 tx_firstFault_4 x1_5 hm
    unfold wpJ_X6_readPlusOrMinus_27 at hm
    refine x_aload_n hC 0 dX6_readPlusOrMinus_27 rfl ?_
    refine x_dup hC dX6_readPlusOrMinus_28 rfl ?_
    refine x_get hC 3 inX6g 0 rfl rfl 3 (by decide) fl_X6_30 rfl dX6_readPlusOrMinus_29 ?_
    refine x_iconst hC (1 : Int32) dX6_readPlusOrMinus_32 (by decide) ?_
    refine x_iadd hC dX6_readPlusOrMinus_33 ?_
    refine x_top (fun v_6 ev_6 => ?_)
    replace hm := hm v_6 ev_6
    refine x_put hC 3 tyX6_ok nmX6 inX6g 0 rfl rfl 3 (by decide) fl_X6_30 rfl (ty := .int) (by decide +kernel) rfl rfl (Nat.le_of_ble_eq_true rfl) (W_tx cI tx tx_bytes tx_length tx_parts v_6 tx_firstFault_4) rfl dX6_readPlusOrMinus_34 ?_
    refine x_iload_n hC 1 dX6_readPlusOrMinus_37 rfl ?_
    refine x_bipush hC (43 : Int32) dX6_readPlusOrMinus_38 (by decide) ?_
    refine x_icmp_ne hC 47 dX6_readPlusOrMinus_40 (by decide) (fun c_7 => ?_) (fun c_7 => ?_)
    · replace hm := hm.1 c_7
      refine x_iconst hC (0 : Int32) dX6_readPlusOrMinus_47 (by decide) ?_
      exact hR ((0 : Int32)) (v_6, tx_firstFault_4) [(0, .ref (tx 0)), (1, .int x1_5)] 48 hm rfl dX6_readPlusOrMinus_48
    · replace hm := hm.2 c_7
      refine x_iconst hC (1 : Int32) dX6_readPlusOrMinus_43 (by decide) ?_
      refine x_goto hC 48 dX6_readPlusOrMinus_44 (by decide) ?_
      exact hR ((1 : Int32)) (v_6, tx_firstFault_4) [(0, .ref (tx 0)), (1, .int x1_5)] 48 hm rfl dX6_readPlusOrMinus_48
  unfold wp_X6_readPlusOrMinus at hm
  refine x_aload_n hC 0 dX6_readPlusOrMinus_0 rfl ?_
  refine x_callVi hC _ [0, 1, 2] [] [0, 1, 2] (([] : va_W)) (fun _ => W_tx cI tx tx_bytes tx_length tx_parts tx_place tx_firstFault) ok_X6_next ml_X6_49 0 3 (c_X6_next (gl Γ) (gD Γ) cI cZ tx tx_bytes tx_length tx_parts tx_place tx_firstFault  _ hm) (by decide) (by decide) rfl (Nat.le_of_ble_eq_true rfl) rfl rfl rfl rfl (by decide) rfl (fun _ => rfl) rfl rfl rfl rfl dX6_readPlusOrMinus_1 ?_
  rintro r_1 _ hm
  refine x_istore_n hC [(0, .ref (tx 0)), (1, .int r_1)] [1, 0] dX6_readPlusOrMinus_4 (by decide) rfl ?_
  refine x_iload_n hC 1 dX6_readPlusOrMinus_5 rfl ?_
  refine x_bipush hC (43 : Int32) dX6_readPlusOrMinus_6 (by decide) ?_
  refine x_icmp_eq hC 27 dX6_readPlusOrMinus_8 (by decide) (fun c_2 => ?_) (fun c_2 => ?_)
  · replace hm := hm.1 c_2
    exact B_27   tx_place tx_firstFault r_1 hm
  · replace hm := hm.2 c_2
    refine x_iload_n hC 1 dX6_readPlusOrMinus_11 rfl ?_
    refine x_bipush hC (45 : Int32) dX6_readPlusOrMinus_12 (by decide) ?_
    refine x_icmp_eq hC 27 dX6_readPlusOrMinus_14 (by decide) (fun c_8 => ?_) (fun c_8 => ?_)
    · replace hm := hm.1 c_8
      exact B_27   tx_place tx_firstFault r_1 hm
    · replace hm := hm.2 c_8
      refine x_aload_n hC 0 dX6_readPlusOrMinus_17 rfl ?_
      refine x_aload_n hC 0 dX6_readPlusOrMinus_18 rfl ?_
      refine x_get hC 3 inX6g 0 rfl rfl 3 (by decide) fl_X6_30 rfl dX6_readPlusOrMinus_19 ?_
      refine x_callVv hC _ [0, 1, 2] [] [0, 1, 2] (([] : va_W)) (fun u => W_tx cI tx tx_bytes tx_length tx_parts tx_place u) ok_X6_failAt ml_X6_45 0 3 (c_X6_failAt (gl Γ) (gD Γ) cI cZ tx tx_bytes tx_length tx_parts tx_place tx_firstFault tx_place _ hm) (by decide) (by decide) rfl (Nat.le_of_ble_eq_true rfl) rfl rfl rfl rfl (by decide) rfl (fun _ => rfl) rfl rfl rfl rfl dX6_readPlusOrMinus_22 ?_
      rintro tx_firstFault_9 hm
      refine x_iconst hC (0 : Int32) dX6_readPlusOrMinus_25 (by decide) ?_
      exact hR ((0 : Int32)) (tx_place, tx_firstFault_9) [(0, .ref (tx 0)), (1, .int r_1)] 26 hm rfl dX6_readPlusOrMinus_26

def wpJ_X6_readNumbers_145 (tx_bytes : Nat → Int32) (tx_length : Int32)  (post : (Nat → Int32) → Int32 → Int32 → Prop) (tx_parts_46 : Nat → Int32) (tx_place_47 : Int32) (tx_firstFault_48 : Int32) (x2_49 : Int32) : Prop := (x2_49 = 0 → post tx_parts_46 tx_place_47 tx_firstFault_48) ∧ (¬ x2_49 = 0 → wp_X6_readPlusOrMinus tx_bytes tx_length tx_place_47 tx_firstFault_48  (fun (r_53 : Int32) (tx_place_51 : Int32) (tx_firstFault_52 : Int32) => vp_in ((4 : Int32)) 6 ∧ ∀ tx_parts_54 : Nat → Int32, tx_parts_54 = upd tx_parts_46 ((4 : Int32)).toNatClampNeg r_53 → post tx_parts_54 tx_place_51 tx_firstFault_52))
def wpJ_X6_readNumbers_141 (tx_bytes : Nat → Int32) (tx_length : Int32)  (post : (Nat → Int32) → Int32 → Int32 → Prop) (tx_parts_35 : Nat → Int32) (tx_place_36 : Int32) (tx_firstFault_37 : Int32) (x2_38 : Int32) (s1_39 : Int32) (s3_40 : Int32) (s4_41 : Int32) : Prop := wp_X6_readNumber tx_bytes tx_length tx_place_36 tx_firstFault_37 s3_40 s4_41 (fun (r_44 : Int32) (tx_place_42 : Int32) (tx_firstFault_43 : Int32) => vp_in s1_39 6 ∧ ∀ tx_parts_45 : Nat → Int32, tx_parts_45 = upd tx_parts_35 s1_39.toNatClampNeg r_44 → wpJ_X6_readNumbers_145 tx_bytes tx_length  post tx_parts_45 tx_place_42 tx_firstFault_43 x2_38)
def wpJ_X6_readNumbers_98 (tx_bytes : Nat → Int32) (tx_length : Int32)  (post : (Nat → Int32) → Int32 → Int32 → Prop) (tx_parts_23 : Nat → Int32) (tx_place_24 : Int32) (tx_firstFault_25 : Int32) (x1_26 : Int32) (x2_27 : Int32) (s1_28 : Int32) (s2_29 : Int32) : Prop := vp_in s1_28 6 ∧ ∀ tx_parts_30 : Nat → Int32, tx_parts_30 = upd tx_parts_23 s1_28.toNatClampNeg s2_29 → wp_X6_readSign tx_bytes tx_length tx_place_24 tx_firstFault_25 ((44 : Int32)) (fun (tx_place_31 : Int32) (tx_firstFault_32 : Int32) => (x1_26 = 0 → (x2_27 = 0 → wpJ_X6_readNumbers_141 tx_bytes tx_length  post tx_parts_30 tx_place_31 tx_firstFault_32 x2_27 ((3 : Int32)) ((0 : Int32)) ((4 : Int32))) ∧ (¬ x2_27 = 0 → wpJ_X6_readNumbers_141 tx_bytes tx_length  post tx_parts_30 tx_place_31 tx_firstFault_32 x2_27 ((3 : Int32)) ((0 : Int32)) ((3 : Int32)))) ∧ (¬ x1_26 = 0 → wp_X6_readNumber tx_bytes tx_length tx_place_31 tx_firstFault_32 ((1 : Int32)) ((99 : Int32)) (fun (r_57 : Int32) (tx_place_55 : Int32) (tx_firstFault_56 : Int32) => vp_in ((3 : Int32)) 6 ∧ ∀ tx_parts_58 : Nat → Int32, tx_parts_58 = upd tx_parts_30 ((3 : Int32)).toNatClampNeg r_57 → wpJ_X6_readNumbers_145 tx_bytes tx_length  post tx_parts_58 tx_place_55 tx_firstFault_56 x2_27)))
def wpJ_X6_readNumbers_54 (tx_bytes : Nat → Int32) (tx_length : Int32)  (post : (Nat → Int32) → Int32 → Int32 → Prop) (tx_parts_8 : Nat → Int32) (tx_place_9 : Int32) (tx_firstFault_10 : Int32) (x1_11 : Int32) (s0_12 : Int32) : Prop := wp_X6_readNumber tx_bytes tx_length tx_place_9 tx_firstFault_10 ((0 : Int32)) ((2 : Int32)) (fun (r_15 : Int32) (tx_place_13 : Int32) (tx_firstFault_14 : Int32) => vp_in ((1 : Int32)) 6 ∧ ∀ tx_parts_16 : Nat → Int32, tx_parts_16 = upd tx_parts_8 ((1 : Int32)).toNatClampNeg r_15 → wp_X6_readSign tx_bytes tx_length tx_place_13 tx_firstFault_14 ((44 : Int32)) (fun (tx_place_17 : Int32) (tx_firstFault_18 : Int32) => (x1_11 = 0 → wp_X6_readNumber tx_bytes tx_length tx_place_17 tx_firstFault_18 ((1 : Int32)) ((99 : Int32)) (fun (r_22 : Int32) (tx_place_20 : Int32) (tx_firstFault_21 : Int32) => wpJ_X6_readNumbers_98 tx_bytes tx_length  post tx_parts_16 tx_place_20 tx_firstFault_21 x1_11 s0_12 ((2 : Int32)) r_22)) ∧ (¬ x1_11 = 0 → wp_X6_readNumber tx_bytes tx_length tx_place_17 tx_firstFault_18 ((0 : Int32)) ((3 : Int32)) (fun (r_61 : Int32) (tx_place_59 : Int32) (tx_firstFault_60 : Int32) => wpJ_X6_readNumbers_98 tx_bytes tx_length  post tx_parts_16 tx_place_59 tx_firstFault_60 x1_11 s0_12 ((2 : Int32)) r_61))))
def wpJ_X6_readNumbers_38 (tx_bytes : Nat → Int32) (tx_length : Int32)  (post : (Nat → Int32) → Int32 → Int32 → Prop) (tx_parts_3 : Nat → Int32) (tx_place_4 : Int32) (tx_firstFault_5 : Int32) (s0_6 : Int32) : Prop := vp_in ((0 : Int32)) 6 ∧ ((¬ (tx_parts_3 ((0 : Int32)).toNatClampNeg) = ((2 : Int32)) → wpJ_X6_readNumbers_54 tx_bytes tx_length  post tx_parts_3 tx_place_4 tx_firstFault_5 s0_6 ((0 : Int32))) ∧ ((tx_parts_3 ((0 : Int32)).toNatClampNeg) = ((2 : Int32)) → wpJ_X6_readNumbers_54 tx_bytes tx_length  post tx_parts_3 tx_place_4 tx_firstFault_5 s0_6 ((1 : Int32))))
def wp_X6_readNumbers (tx_bytes : Nat → Int32) (tx_length : Int32) (tx_parts : Nat → Int32) (tx_place : Int32) (tx_firstFault : Int32)  (post : (Nat → Int32) → Int32 → Int32 → Prop) : Prop := vp_in ((0 : Int32)) 6 ∧ ((¬ (tx_parts ((0 : Int32)).toNatClampNeg) = ((3 : Int32)) → vp_in ((0 : Int32)) 6 ∧ ((¬ (tx_parts ((0 : Int32)).toNatClampNeg) = ((4 : Int32)) → wpJ_X6_readNumbers_38 tx_bytes tx_length  post tx_parts tx_place tx_firstFault ((0 : Int32))) ∧ ((tx_parts ((0 : Int32)).toNatClampNeg) = ((4 : Int32)) → wpJ_X6_readNumbers_38 tx_bytes tx_length  post tx_parts tx_place tx_firstFault ((1 : Int32))))) ∧ ((tx_parts ((0 : Int32)).toNatClampNeg) = ((3 : Int32)) → wp_X6_readNumber tx_bytes tx_length tx_place tx_firstFault ((0 : Int32)) ((4 : Int32)) (fun (r_64 : Int32) (tx_place_62 : Int32) (tx_firstFault_63 : Int32) => vp_in ((1 : Int32)) 6 ∧ ∀ tx_parts_65 : Nat → Int32, tx_parts_65 = upd tx_parts ((1 : Int32)).toNatClampNeg r_64 → post tx_parts_65 tx_place_62 tx_firstFault_63)))
set_option maxHeartbeats 4000000 in
set_option maxRecDepth 100000 in
theorem c_X6_readNumbers (l : Launch) (D : va_G) (cI cZ : ClassId) (tx : Nat → Nat) (tx_bytes : Nat → Int32) (tx_length : Int32) (tx_parts : Nat → Int32) (tx_place : Int32) (tx_firstFault : Int32)  (post : (Nat → Int32) → Int32 → Int32 → Prop) (hm : wp_X6_readNumbers tx_bytes tx_length tx_parts tx_place tx_firstFault  post) : Mv l D cI cZ yX6_readNumbers cX6_readNumbers 3 2 46 [.ref (tx 0)] (W_tx cI tx tx_bytes tx_length tx_parts tx_place tx_firstFault) (S := (Nat → Int32) × Int32 × Int32) (fun u => W_tx cI tx tx_bytes tx_length (u.1) (u.2.1) (u.2.2)) (fun u => post u.1 u.2.1 u.2.2) := by
  refine mk_Mv (by decide +kernel) (Nat.le_of_ble_eq_true rfl) ?_
  intro Γ hl0 hD0 hC hR
  subst hl0
  subst hD0
  have hC : CX Γ cI cZ cX6_readNumbers RX6 3 2 46 := hC
  show VV Γ (W_tx cI tx tx_bytes tx_length tx_parts tx_place tx_firstFault) [(0, .ref (tx 0))] 0 []
  have B_145 : ∀ (tx_parts_46 : Nat → Int32) (tx_place_47 : Int32) (tx_firstFault_48 : Int32) (x2_49 : Int32), wpJ_X6_readNumbers_145 tx_bytes tx_length  post tx_parts_46 tx_place_47 tx_firstFault_48 x2_49 → VV Γ (W_tx cI tx tx_bytes tx_length tx_parts_46 tx_place_47 tx_firstFault_48) [(0, .ref (tx 0)), (2, .int x2_49)] 145 [] := by
    intro  tx_parts_46 tx_place_47 tx_firstFault_48 x2_49 hm
    unfold wpJ_X6_readNumbers_145 at hm
    refine x_iload_n hC 1 dX6_readNumbers_145 rfl ?_
    refine x_if_eq hC 159 dX6_readNumbers_146 (by decide) (fun c_50 => ?_) (fun c_50 => ?_)
    · replace hm := hm.1 c_50
      exact hR (tx_parts_46, tx_place_47, tx_firstFault_48) [(0, .ref (tx 0)), (2, .int x2_49)] 159 hm dX6_readNumbers_159
    · replace hm := hm.2 c_50
      refine x_aload_n hC 0 dX6_readNumbers_149 rfl ?_
      refine x_get hC 3 inX6g 0 rfl rfl 2 (by decide) fl_X6_15 rfl dX6_readNumbers_150 ?_
      refine x_iconst hC (4 : Int32) dX6_readNumbers_153 (by decide) ?_
      refine x_aload_n hC 0 dX6_readNumbers_154 rfl ?_
      refine x_callVi hC _ [0, 1, 2] [] [0, 1, 2] (([] : va_W)) (fun u => W_tx cI tx tx_bytes tx_length tx_parts_46 (u.1) (u.2)) ok_X6_readPlusOrMinus ml_X6_60 0 3 (c_X6_readPlusOrMinus (gl Γ) (gD Γ) cI cZ tx tx_bytes tx_length tx_parts_46 tx_place_47 tx_firstFault_48  _ hm) (by decide) (by decide) rfl (Nat.le_of_ble_eq_true rfl) rfl rfl rfl rfl (by decide) rfl (fun _ => rfl) rfl rfl rfl rfl dX6_readNumbers_155 ?_
      rintro r_53 ⟨tx_place_51, tx_firstFault_52⟩ hm
      refine x_iastN hC 2 rfl hm.1 (fun tx_parts_54 => W_tx cI tx tx_bytes tx_length tx_parts_54 tx_place_51 tx_firstFault_52) (fun _ => rfl) dX6_readNumbers_158 (fun tx_parts_54 etx_parts_54 => ?_)
      replace hm := hm.2 tx_parts_54 etx_parts_54
      exact hR (tx_parts_54, tx_place_51, tx_firstFault_52) [(0, .ref (tx 0)), (2, .int x2_49)] 159 hm dX6_readNumbers_159
  have B_141 : ∀ (tx_parts_35 : Nat → Int32) (tx_place_36 : Int32) (tx_firstFault_37 : Int32) (x2_38 : Int32) (s1_39 : Int32) (s3_40 : Int32) (s4_41 : Int32), wpJ_X6_readNumbers_141 tx_bytes tx_length  post tx_parts_35 tx_place_36 tx_firstFault_37 x2_38 s1_39 s3_40 s4_41 → VV Γ (W_tx cI tx tx_bytes tx_length tx_parts_35 tx_place_36 tx_firstFault_37) [(0, .ref (tx 0)), (2, .int x2_38)] 141 [.int s4_41, .int s3_40, .ref (tx 0), .int s1_39, .ref (tx 2)] := by
    intro  tx_parts_35 tx_place_36 tx_firstFault_37 x2_38 s1_39 s3_40 s4_41 hm
    unfold wpJ_X6_readNumbers_141 at hm
    refine x_callVi hC _ [0, 1, 2] [] [0, 1, 2] (([] : va_W)) (fun u => W_tx cI tx tx_bytes tx_length tx_parts_35 (u.1) (u.2)) ok_X6_readNumber ml_X6_53 0 3 (c_X6_readNumber (gl Γ) (gD Γ) cI cZ tx tx_bytes tx_length tx_parts_35 tx_place_36 tx_firstFault_37 s3_40 s4_41 _ hm) (by decide) (by decide) rfl (Nat.le_of_ble_eq_true rfl) rfl rfl rfl rfl (by decide) rfl (fun _ => rfl) rfl rfl rfl rfl dX6_readNumbers_141 ?_
    rintro r_44 ⟨tx_place_42, tx_firstFault_43⟩ hm
    refine x_iastN hC 2 rfl hm.1 (fun tx_parts_45 => W_tx cI tx tx_bytes tx_length tx_parts_45 tx_place_42 tx_firstFault_43) (fun _ => rfl) dX6_readNumbers_144 (fun tx_parts_45 etx_parts_45 => ?_)
    replace hm := hm.2 tx_parts_45 etx_parts_45
    exact B_145   tx_parts_45 tx_place_42 tx_firstFault_43 x2_38 hm
  have B_98 : ∀ (tx_parts_23 : Nat → Int32) (tx_place_24 : Int32) (tx_firstFault_25 : Int32) (x1_26 : Int32) (x2_27 : Int32) (s1_28 : Int32) (s2_29 : Int32), wpJ_X6_readNumbers_98 tx_bytes tx_length  post tx_parts_23 tx_place_24 tx_firstFault_25 x1_26 x2_27 s1_28 s2_29 → VV Γ (W_tx cI tx tx_bytes tx_length tx_parts_23 tx_place_24 tx_firstFault_25) [(0, .ref (tx 0)), (1, .int x1_26), (2, .int x2_27)] 98 [.int s2_29, .int s1_28, .ref (tx 2)] := by
    intro  tx_parts_23 tx_place_24 tx_firstFault_25 x1_26 x2_27 s1_28 s2_29 hm
    unfold wpJ_X6_readNumbers_98 at hm
    refine x_iastN hC 2 rfl hm.1 (fun tx_parts_30 => W_tx cI tx tx_bytes tx_length tx_parts_30 tx_place_24 tx_firstFault_25) (fun _ => rfl) dX6_readNumbers_98 (fun tx_parts_30 etx_parts_30 => ?_)
    replace hm := hm.2 tx_parts_30 etx_parts_30
    refine x_aload_n hC 0 dX6_readNumbers_99 rfl ?_
    refine x_bipush hC (44 : Int32) dX6_readNumbers_100 (by decide) ?_
    refine x_callVv hC _ [0, 1, 2] [] [0, 1, 2] (([] : va_W)) (fun u => W_tx cI tx tx_bytes tx_length tx_parts_30 (u.1) (u.2)) ok_X6_readSign ml_X6_57 0 3 (c_X6_readSign (gl Γ) (gD Γ) cI cZ tx tx_bytes tx_length tx_parts_30 tx_place_24 tx_firstFault_25 ((44 : Int32)) _ hm) (by decide) (by decide) rfl (Nat.le_of_ble_eq_true rfl) rfl rfl rfl rfl (by decide) rfl (fun _ => rfl) rfl rfl rfl rfl dX6_readNumbers_102 ?_
    rintro ⟨tx_place_31, tx_firstFault_32⟩ hm
    refine x_iload_n hC 1 dX6_readNumbers_105 rfl ?_
    refine x_if_eq hC 125 dX6_readNumbers_106 (by decide) (fun c_33 => ?_) (fun c_33 => ?_)
    · replace hm := hm.1 c_33
      refine x_aload_n hC 0 dX6_readNumbers_125 rfl ?_
      refine x_get hC 3 inX6g 0 rfl rfl 2 (by decide) fl_X6_15 rfl dX6_readNumbers_126 ?_
      refine x_iconst hC (3 : Int32) dX6_readNumbers_129 (by decide) ?_
      refine x_aload_n hC 0 dX6_readNumbers_130 rfl ?_
      refine x_iconst hC (0 : Int32) dX6_readNumbers_131 (by decide) ?_
      refine x_iload_n hC 2 dX6_readNumbers_132 rfl ?_
      refine x_if_eq hC 140 dX6_readNumbers_133 (by decide) (fun c_34 => ?_) (fun c_34 => ?_)
      · replace hm := hm.1 c_34
        refine x_iconst hC (4 : Int32) dX6_readNumbers_140 (by decide) ?_
        refine x_lsub [0, 2] rfl ?_
        exact B_141   tx_parts_30 tx_place_31 tx_firstFault_32 x2_27 ((3 : Int32)) ((0 : Int32)) ((4 : Int32)) hm
      · replace hm := hm.2 c_34
        refine x_iconst hC (3 : Int32) dX6_readNumbers_136 (by decide) ?_
        refine x_goto hC 141 dX6_readNumbers_137 (by decide) ?_
        refine x_lsub [0, 2] rfl ?_
        exact B_141   tx_parts_30 tx_place_31 tx_firstFault_32 x2_27 ((3 : Int32)) ((0 : Int32)) ((3 : Int32)) hm
    · replace hm := hm.2 c_33
      refine x_aload_n hC 0 dX6_readNumbers_109 rfl ?_
      refine x_get hC 3 inX6g 0 rfl rfl 2 (by decide) fl_X6_15 rfl dX6_readNumbers_110 ?_
      refine x_iconst hC (3 : Int32) dX6_readNumbers_113 (by decide) ?_
      refine x_aload_n hC 0 dX6_readNumbers_114 rfl ?_
      refine x_iconst hC (1 : Int32) dX6_readNumbers_115 (by decide) ?_
      refine x_bipush hC (99 : Int32) dX6_readNumbers_116 (by decide) ?_
      refine x_callVi hC _ [0, 1, 2] [] [0, 1, 2] (([] : va_W)) (fun u => W_tx cI tx tx_bytes tx_length tx_parts_30 (u.1) (u.2)) ok_X6_readNumber ml_X6_53 0 3 (c_X6_readNumber (gl Γ) (gD Γ) cI cZ tx tx_bytes tx_length tx_parts_30 tx_place_31 tx_firstFault_32 ((1 : Int32)) ((99 : Int32)) _ hm) (by decide) (by decide) rfl (Nat.le_of_ble_eq_true rfl) rfl rfl rfl rfl (by decide) rfl (fun _ => rfl) rfl rfl rfl rfl dX6_readNumbers_118 ?_
      rintro r_57 ⟨tx_place_55, tx_firstFault_56⟩ hm
      refine x_iastN hC 2 rfl hm.1 (fun tx_parts_58 => W_tx cI tx tx_bytes tx_length tx_parts_58 tx_place_55 tx_firstFault_56) (fun _ => rfl) dX6_readNumbers_121 (fun tx_parts_58 etx_parts_58 => ?_)
      replace hm := hm.2 tx_parts_58 etx_parts_58
      refine x_goto hC 145 dX6_readNumbers_122 (by decide) ?_
      refine x_lsub [0, 2] rfl ?_
      exact B_145   tx_parts_58 tx_place_55 tx_firstFault_56 x2_27 hm
  have B_54 : ∀ (tx_parts_8 : Nat → Int32) (tx_place_9 : Int32) (tx_firstFault_10 : Int32) (x1_11 : Int32) (s0_12 : Int32), wpJ_X6_readNumbers_54 tx_bytes tx_length  post tx_parts_8 tx_place_9 tx_firstFault_10 x1_11 s0_12 → VV Γ (W_tx cI tx tx_bytes tx_length tx_parts_8 tx_place_9 tx_firstFault_10) [(0, .ref (tx 0)), (1, .int x1_11)] 54 [.int s0_12] := by
    intro  tx_parts_8 tx_place_9 tx_firstFault_10 x1_11 s0_12 hm
    unfold wpJ_X6_readNumbers_54 at hm
    refine x_istore_n hC [(0, .ref (tx 0)), (1, .int x1_11), (2, .int s0_12)] [1, 2, 0] dX6_readNumbers_54 (by decide) rfl ?_
    refine x_aload_n hC 0 dX6_readNumbers_55 rfl ?_
    refine x_get hC 3 inX6g 0 rfl rfl 2 (by decide) fl_X6_15 rfl dX6_readNumbers_56 ?_
    refine x_iconst hC (1 : Int32) dX6_readNumbers_59 (by decide) ?_
    refine x_aload_n hC 0 dX6_readNumbers_60 rfl ?_
    refine x_iconst hC (0 : Int32) dX6_readNumbers_61 (by decide) ?_
    refine x_iconst hC (2 : Int32) dX6_readNumbers_62 (by decide) ?_
    refine x_callVi hC _ [0, 1, 2] [] [0, 1, 2] (([] : va_W)) (fun u => W_tx cI tx tx_bytes tx_length tx_parts_8 (u.1) (u.2)) ok_X6_readNumber ml_X6_53 0 3 (c_X6_readNumber (gl Γ) (gD Γ) cI cZ tx tx_bytes tx_length tx_parts_8 tx_place_9 tx_firstFault_10 ((0 : Int32)) ((2 : Int32)) _ hm) (by decide) (by decide) rfl (Nat.le_of_ble_eq_true rfl) rfl rfl rfl rfl (by decide) rfl (fun _ => rfl) rfl rfl rfl rfl dX6_readNumbers_63 ?_
    rintro r_15 ⟨tx_place_13, tx_firstFault_14⟩ hm
    refine x_iastN hC 2 rfl hm.1 (fun tx_parts_16 => W_tx cI tx tx_bytes tx_length tx_parts_16 tx_place_13 tx_firstFault_14) (fun _ => rfl) dX6_readNumbers_66 (fun tx_parts_16 etx_parts_16 => ?_)
    replace hm := hm.2 tx_parts_16 etx_parts_16
    refine x_aload_n hC 0 dX6_readNumbers_67 rfl ?_
    refine x_bipush hC (44 : Int32) dX6_readNumbers_68 (by decide) ?_
    refine x_callVv hC _ [0, 1, 2] [] [0, 1, 2] (([] : va_W)) (fun u => W_tx cI tx tx_bytes tx_length tx_parts_16 (u.1) (u.2)) ok_X6_readSign ml_X6_57 0 3 (c_X6_readSign (gl Γ) (gD Γ) cI cZ tx tx_bytes tx_length tx_parts_16 tx_place_13 tx_firstFault_14 ((44 : Int32)) _ hm) (by decide) (by decide) rfl (Nat.le_of_ble_eq_true rfl) rfl rfl rfl rfl (by decide) rfl (fun _ => rfl) rfl rfl rfl rfl dX6_readNumbers_70 ?_
    rintro ⟨tx_place_17, tx_firstFault_18⟩ hm
    refine x_aload_n hC 0 dX6_readNumbers_73 rfl ?_
    refine x_get hC 3 inX6g 0 rfl rfl 2 (by decide) fl_X6_15 rfl dX6_readNumbers_74 ?_
    refine x_iconst hC (2 : Int32) dX6_readNumbers_77 (by decide) ?_
    refine x_iload_n hC 1 dX6_readNumbers_78 rfl ?_
    refine x_if_eq hC 91 dX6_readNumbers_79 (by decide) (fun c_19 => ?_) (fun c_19 => ?_)
    · replace hm := hm.1 c_19
      refine x_aload_n hC 0 dX6_readNumbers_91 rfl ?_
      refine x_iconst hC (1 : Int32) dX6_readNumbers_92 (by decide) ?_
      refine x_bipush hC (99 : Int32) dX6_readNumbers_93 (by decide) ?_
      refine x_callVi hC _ [0, 1, 2] [] [0, 1, 2] (([] : va_W)) (fun u => W_tx cI tx tx_bytes tx_length tx_parts_16 (u.1) (u.2)) ok_X6_readNumber ml_X6_53 0 3 (c_X6_readNumber (gl Γ) (gD Γ) cI cZ tx tx_bytes tx_length tx_parts_16 tx_place_17 tx_firstFault_18 ((1 : Int32)) ((99 : Int32)) _ hm) (by decide) (by decide) rfl (Nat.le_of_ble_eq_true rfl) rfl rfl rfl rfl (by decide) rfl (fun _ => rfl) rfl rfl rfl rfl dX6_readNumbers_95 ?_
      rintro r_22 ⟨tx_place_20, tx_firstFault_21⟩ hm
      exact B_98   tx_parts_16 tx_place_20 tx_firstFault_21 x1_11 s0_12 ((2 : Int32)) r_22 hm
    · replace hm := hm.2 c_19
      refine x_aload_n hC 0 dX6_readNumbers_82 rfl ?_
      refine x_iconst hC (0 : Int32) dX6_readNumbers_83 (by decide) ?_
      refine x_iconst hC (3 : Int32) dX6_readNumbers_84 (by decide) ?_
      refine x_callVi hC _ [0, 1, 2] [] [0, 1, 2] (([] : va_W)) (fun u => W_tx cI tx tx_bytes tx_length tx_parts_16 (u.1) (u.2)) ok_X6_readNumber ml_X6_53 0 3 (c_X6_readNumber (gl Γ) (gD Γ) cI cZ tx tx_bytes tx_length tx_parts_16 tx_place_17 tx_firstFault_18 ((0 : Int32)) ((3 : Int32)) _ hm) (by decide) (by decide) rfl (Nat.le_of_ble_eq_true rfl) rfl rfl rfl rfl (by decide) rfl (fun _ => rfl) rfl rfl rfl rfl dX6_readNumbers_85 ?_
      rintro r_61 ⟨tx_place_59, tx_firstFault_60⟩ hm
      refine x_goto hC 98 dX6_readNumbers_88 (by decide) ?_
      exact B_98   tx_parts_16 tx_place_59 tx_firstFault_60 x1_11 s0_12 ((2 : Int32)) r_61 hm
  have B_38 : ∀ (tx_parts_3 : Nat → Int32) (tx_place_4 : Int32) (tx_firstFault_5 : Int32) (s0_6 : Int32), wpJ_X6_readNumbers_38 tx_bytes tx_length  post tx_parts_3 tx_place_4 tx_firstFault_5 s0_6 → VV Γ (W_tx cI tx tx_bytes tx_length tx_parts_3 tx_place_4 tx_firstFault_5) [(0, .ref (tx 0))] 38 [.int s0_6] := by
    intro  tx_parts_3 tx_place_4 tx_firstFault_5 s0_6 hm
    unfold wpJ_X6_readNumbers_38 at hm
    refine x_istore_n hC [(0, .ref (tx 0)), (1, .int s0_6)] [1, 0] dX6_readNumbers_38 (by decide) rfl ?_
    refine x_aload_n hC 0 dX6_readNumbers_39 rfl ?_
    refine x_get hC 3 inX6g 0 rfl rfl 2 (by decide) fl_X6_15 rfl dX6_readNumbers_40 ?_
    refine x_iconst hC (0 : Int32) dX6_readNumbers_43 (by decide) ?_
    refine x_iald hC 2 rfl hm.1 dX6_readNumbers_44 ?_
    replace hm := hm.2
    refine x_iconst hC (2 : Int32) dX6_readNumbers_45 (by decide) ?_
    refine x_icmp_ne hC 53 dX6_readNumbers_46 (by decide) (fun c_7 => ?_) (fun c_7 => ?_)
    · replace hm := hm.1 c_7
      refine x_iconst hC (0 : Int32) dX6_readNumbers_53 (by decide) ?_
      exact B_54   tx_parts_3 tx_place_4 tx_firstFault_5 s0_6 ((0 : Int32)) hm
    · replace hm := hm.2 c_7
      refine x_iconst hC (1 : Int32) dX6_readNumbers_49 (by decide) ?_
      refine x_goto hC 54 dX6_readNumbers_50 (by decide) ?_
      exact B_54   tx_parts_3 tx_place_4 tx_firstFault_5 s0_6 ((1 : Int32)) hm
  unfold wp_X6_readNumbers at hm
  refine x_aload_n hC 0 dX6_readNumbers_0 rfl ?_
  refine x_get hC 3 inX6g 0 rfl rfl 2 (by decide) fl_X6_15 rfl dX6_readNumbers_1 ?_
  refine x_iconst hC (0 : Int32) dX6_readNumbers_4 (by decide) ?_
  refine x_iald hC 2 rfl hm.1 dX6_readNumbers_5 ?_
  replace hm := hm.2
  refine x_iconst hC (3 : Int32) dX6_readNumbers_6 (by decide) ?_
  refine x_icmp_ne hC 23 dX6_readNumbers_7 (by decide) (fun c_1 => ?_) (fun c_1 => ?_)
  · replace hm := hm.1 c_1
    refine x_aload_n hC 0 dX6_readNumbers_23 rfl ?_
    refine x_get hC 3 inX6g 0 rfl rfl 2 (by decide) fl_X6_15 rfl dX6_readNumbers_24 ?_
    refine x_iconst hC (0 : Int32) dX6_readNumbers_27 (by decide) ?_
    refine x_iald hC 2 rfl hm.1 dX6_readNumbers_28 ?_
    replace hm := hm.2
    refine x_iconst hC (4 : Int32) dX6_readNumbers_29 (by decide) ?_
    refine x_icmp_ne hC 37 dX6_readNumbers_30 (by decide) (fun c_2 => ?_) (fun c_2 => ?_)
    · replace hm := hm.1 c_2
      refine x_iconst hC (0 : Int32) dX6_readNumbers_37 (by decide) ?_
      exact B_38   tx_parts tx_place tx_firstFault ((0 : Int32)) hm
    · replace hm := hm.2 c_2
      refine x_iconst hC (1 : Int32) dX6_readNumbers_33 (by decide) ?_
      refine x_goto hC 38 dX6_readNumbers_34 (by decide) ?_
      exact B_38   tx_parts tx_place tx_firstFault ((1 : Int32)) hm
  · replace hm := hm.2 c_1
    refine x_aload_n hC 0 dX6_readNumbers_10 rfl ?_
    refine x_get hC 3 inX6g 0 rfl rfl 2 (by decide) fl_X6_15 rfl dX6_readNumbers_11 ?_
    refine x_iconst hC (1 : Int32) dX6_readNumbers_14 (by decide) ?_
    refine x_aload_n hC 0 dX6_readNumbers_15 rfl ?_
    refine x_iconst hC (0 : Int32) dX6_readNumbers_16 (by decide) ?_
    refine x_iconst hC (4 : Int32) dX6_readNumbers_17 (by decide) ?_
    refine x_callVi hC _ [0, 1, 2] [] [0, 1, 2] (([] : va_W)) (fun u => W_tx cI tx tx_bytes tx_length tx_parts (u.1) (u.2)) ok_X6_readNumber ml_X6_53 0 3 (c_X6_readNumber (gl Γ) (gD Γ) cI cZ tx tx_bytes tx_length tx_parts tx_place tx_firstFault ((0 : Int32)) ((4 : Int32)) _ hm) (by decide) (by decide) rfl (Nat.le_of_ble_eq_true rfl) rfl rfl rfl rfl (by decide) rfl (fun _ => rfl) rfl rfl rfl rfl dX6_readNumbers_18 ?_
    rintro r_64 ⟨tx_place_62, tx_firstFault_63⟩ hm
    refine x_iastN hC 2 rfl hm.1 (fun tx_parts_65 => W_tx cI tx tx_bytes tx_length tx_parts_65 tx_place_62 tx_firstFault_63) (fun _ => rfl) dX6_readNumbers_21 (fun tx_parts_65 etx_parts_65 => ?_)
    replace hm := hm.2 tx_parts_65 etx_parts_65
    exact hR (tx_parts_65, tx_place_62, tx_firstFault_63) [(0, .ref (tx 0))] 22 hm dX6_readNumbers_22

def wp_X6_readCondition (tx_bytes : Nat → Int32) (tx_length : Int32) (tx_parts : Nat → Int32) (tx_place : Int32) (tx_firstFault : Int32)  (post : (Nat → Int32) → Int32 → Int32 → Prop) : Prop := (tx_place < tx_length → wp_X6_readSign tx_bytes tx_length tx_place tx_firstFault ((63 : Int32)) (fun (tx_place_2 : Int32) (tx_firstFault_3 : Int32) => wp_X6_next tx_bytes tx_length tx_place_2  (fun (r_4 : Int32) => (¬ r_4 = ((61 : Int32)) → wp_X6_readNumber tx_bytes tx_length tx_place_2 tx_firstFault_3 ((0 : Int32)) ((3 : Int32)) (fun (r_8 : Int32) (tx_place_6 : Int32) (tx_firstFault_7 : Int32) => wp_X6_readPlusOrMinus tx_bytes tx_length tx_place_6 tx_firstFault_7  (fun (r_11 : Int32) (tx_place_9 : Int32) (tx_firstFault_10 : Int32) => vp_in ((5 : Int32)) 6 ∧ ∀ tx_parts_12 : Nat → Int32, tx_parts_12 = upd tx_parts ((5 : Int32)).toNatClampNeg ((((10 : Int32)) * r_8) + r_11) → post tx_parts_12 tx_place_9 tx_firstFault_10))) ∧ (r_4 = ((61 : Int32)) → wp_X6_readSign tx_bytes tx_length tx_place_2 tx_firstFault_3 ((61 : Int32)) (fun (tx_place_13 : Int32) (tx_firstFault_14 : Int32) => wp_X6_readNumber tx_bytes tx_length tx_place_13 tx_firstFault_14 ((0 : Int32)) ((4 : Int32)) (fun (r_17 : Int32) (tx_place_15 : Int32) (tx_firstFault_16 : Int32) => wp_X6_readSign tx_bytes tx_length tx_place_15 tx_firstFault_16 ((44 : Int32)) (fun (tx_place_18 : Int32) (tx_firstFault_19 : Int32) => wp_X6_readNumber tx_bytes tx_length tx_place_18 tx_firstFault_19 ((0 : Int32)) ((3 : Int32)) (fun (r_22 : Int32) (tx_place_20 : Int32) (tx_firstFault_21 : Int32) => vp_in ((5 : Int32)) 6 ∧ ∀ tx_parts_23 : Nat → Int32, tx_parts_23 = upd tx_parts ((5 : Int32)).toNatClampNeg ((((100 : Int32)) + (((10 : Int32)) * r_17)) + r_22) → post tx_parts_23 tx_place_20 tx_firstFault_21)))))))) ∧ (¬ tx_place < tx_length → post tx_parts tx_place tx_firstFault)
set_option maxHeartbeats 4000000 in
set_option maxRecDepth 100000 in
theorem c_X6_readCondition (l : Launch) (D : va_G) (cI cZ : ClassId) (tx : Nat → Nat) (tx_bytes : Nat → Int32) (tx_length : Int32) (tx_parts : Nat → Int32) (tx_place : Int32) (tx_firstFault : Int32)  (post : (Nat → Int32) → Int32 → Int32 → Prop) (hm : wp_X6_readCondition tx_bytes tx_length tx_parts tx_place tx_firstFault  post) : Mv l D cI cZ yX6_readCondition cX6_readCondition 2 2 46 [.ref (tx 0)] (W_tx cI tx tx_bytes tx_length tx_parts tx_place tx_firstFault) (S := (Nat → Int32) × Int32 × Int32) (fun u => W_tx cI tx tx_bytes tx_length (u.1) (u.2.1) (u.2.2)) (fun u => post u.1 u.2.1 u.2.2) := by
  refine mk_Mv (by decide +kernel) (Nat.le_of_ble_eq_true rfl) ?_
  intro Γ hl0 hD0 hC hR
  subst hl0
  subst hD0
  have hC : CX Γ cI cZ cX6_readCondition RX6 2 2 46 := hC
  show VV Γ (W_tx cI tx tx_bytes tx_length tx_parts tx_place tx_firstFault) [(0, .ref (tx 0))] 0 []
  unfold wp_X6_readCondition at hm
  refine x_aload_n hC 0 dX6_readCondition_0 rfl ?_
  refine x_get hC 3 inX6g 0 rfl rfl 3 (by decide) fl_X6_30 rfl dX6_readCondition_1 ?_
  refine x_aload_n hC 0 dX6_readCondition_4 rfl ?_
  refine x_get hC 3 inX6g 0 rfl rfl 1 (by decide) fl_X6_18 rfl dX6_readCondition_5 ?_
  refine x_icmp_lt hC 12 dX6_readCondition_8 (by decide) (fun c_1 => ?_) (fun c_1 => ?_)
  · replace hm := hm.1 c_1
    refine x_aload_n hC 0 dX6_readCondition_12 rfl ?_
    refine x_bipush hC (63 : Int32) dX6_readCondition_13 (by decide) ?_
    refine x_callVv hC _ [0, 1, 2] [] [0, 1, 2] (([] : va_W)) (fun u => W_tx cI tx tx_bytes tx_length tx_parts (u.1) (u.2)) ok_X6_readSign ml_X6_57 0 3 (c_X6_readSign (gl Γ) (gD Γ) cI cZ tx tx_bytes tx_length tx_parts tx_place tx_firstFault ((63 : Int32)) _ hm) (by decide) (by decide) rfl (Nat.le_of_ble_eq_true rfl) rfl rfl rfl rfl (by decide) rfl (fun _ => rfl) rfl rfl rfl rfl dX6_readCondition_15 ?_
    rintro ⟨tx_place_2, tx_firstFault_3⟩ hm
    refine x_aload_n hC 0 dX6_readCondition_18 rfl ?_
    refine x_callVi hC _ [0, 1, 2] [] [0, 1, 2] (([] : va_W)) (fun _ => W_tx cI tx tx_bytes tx_length tx_parts tx_place_2 tx_firstFault_3) ok_X6_next ml_X6_49 0 3 (c_X6_next (gl Γ) (gD Γ) cI cZ tx tx_bytes tx_length tx_parts tx_place_2 tx_firstFault_3  _ hm) (by decide) (by decide) rfl (Nat.le_of_ble_eq_true rfl) rfl rfl rfl rfl (by decide) rfl (fun _ => rfl) rfl rfl rfl rfl dX6_readCondition_19 ?_
    rintro r_4 _ hm
    refine x_bipush hC (61 : Int32) dX6_readCondition_22 (by decide) ?_
    refine x_icmp_ne hC 69 dX6_readCondition_24 (by decide) (fun c_5 => ?_) (fun c_5 => ?_)
    · replace hm := hm.1 c_5
      refine x_aload_n hC 0 dX6_readCondition_69 rfl ?_
      refine x_iconst hC (0 : Int32) dX6_readCondition_70 (by decide) ?_
      refine x_iconst hC (3 : Int32) dX6_readCondition_71 (by decide) ?_
      refine x_callVi hC _ [0, 1, 2] [] [0, 1, 2] (([] : va_W)) (fun u => W_tx cI tx tx_bytes tx_length tx_parts (u.1) (u.2)) ok_X6_readNumber ml_X6_53 0 3 (c_X6_readNumber (gl Γ) (gD Γ) cI cZ tx tx_bytes tx_length tx_parts tx_place_2 tx_firstFault_3 ((0 : Int32)) ((3 : Int32)) _ hm) (by decide) (by decide) rfl (Nat.le_of_ble_eq_true rfl) rfl rfl rfl rfl (by decide) rfl (fun _ => rfl) rfl rfl rfl rfl dX6_readCondition_72 ?_
      rintro r_8 ⟨tx_place_6, tx_firstFault_7⟩ hm
      refine x_istore_n hC [(0, .ref (tx 0)), (1, .int r_8)] [1, 0] dX6_readCondition_75 (by decide) rfl ?_
      refine x_aload_n hC 0 dX6_readCondition_76 rfl ?_
      refine x_get hC 3 inX6g 0 rfl rfl 2 (by decide) fl_X6_15 rfl dX6_readCondition_77 ?_
      refine x_iconst hC (5 : Int32) dX6_readCondition_80 (by decide) ?_
      refine x_bipush hC (10 : Int32) dX6_readCondition_81 (by decide) ?_
      refine x_iload_n hC 1 dX6_readCondition_83 rfl ?_
      refine x_imul hC dX6_readCondition_84 ?_
      refine x_aload_n hC 0 dX6_readCondition_85 rfl ?_
      refine x_callVi hC _ [0, 1, 2] [] [0, 1, 2] (([] : va_W)) (fun u => W_tx cI tx tx_bytes tx_length tx_parts (u.1) (u.2)) ok_X6_readPlusOrMinus ml_X6_60 0 3 (c_X6_readPlusOrMinus (gl Γ) (gD Γ) cI cZ tx tx_bytes tx_length tx_parts tx_place_6 tx_firstFault_7  _ hm) (by decide) (by decide) rfl (Nat.le_of_ble_eq_true rfl) rfl rfl rfl rfl (by decide) rfl (fun _ => rfl) rfl rfl rfl rfl dX6_readCondition_86 ?_
      rintro r_11 ⟨tx_place_9, tx_firstFault_10⟩ hm
      refine x_iadd hC dX6_readCondition_89 ?_
      refine x_iastN hC 2 rfl hm.1 (fun tx_parts_12 => W_tx cI tx tx_bytes tx_length tx_parts_12 tx_place_9 tx_firstFault_10) (fun _ => rfl) dX6_readCondition_90 (fun tx_parts_12 etx_parts_12 => ?_)
      replace hm := hm.2 tx_parts_12 etx_parts_12
      exact hR (tx_parts_12, tx_place_9, tx_firstFault_10) [(0, .ref (tx 0)), (1, .int r_8)] 91 hm dX6_readCondition_91
    · replace hm := hm.2 c_5
      refine x_aload_n hC 0 dX6_readCondition_27 rfl ?_
      refine x_bipush hC (61 : Int32) dX6_readCondition_28 (by decide) ?_
      refine x_callVv hC _ [0, 1, 2] [] [0, 1, 2] (([] : va_W)) (fun u => W_tx cI tx tx_bytes tx_length tx_parts (u.1) (u.2)) ok_X6_readSign ml_X6_57 0 3 (c_X6_readSign (gl Γ) (gD Γ) cI cZ tx tx_bytes tx_length tx_parts tx_place_2 tx_firstFault_3 ((61 : Int32)) _ hm) (by decide) (by decide) rfl (Nat.le_of_ble_eq_true rfl) rfl rfl rfl rfl (by decide) rfl (fun _ => rfl) rfl rfl rfl rfl dX6_readCondition_30 ?_
      rintro ⟨tx_place_13, tx_firstFault_14⟩ hm
      refine x_aload_n hC 0 dX6_readCondition_33 rfl ?_
      refine x_iconst hC (0 : Int32) dX6_readCondition_34 (by decide) ?_
      refine x_iconst hC (4 : Int32) dX6_readCondition_35 (by decide) ?_
      refine x_callVi hC _ [0, 1, 2] [] [0, 1, 2] (([] : va_W)) (fun u => W_tx cI tx tx_bytes tx_length tx_parts (u.1) (u.2)) ok_X6_readNumber ml_X6_53 0 3 (c_X6_readNumber (gl Γ) (gD Γ) cI cZ tx tx_bytes tx_length tx_parts tx_place_13 tx_firstFault_14 ((0 : Int32)) ((4 : Int32)) _ hm) (by decide) (by decide) rfl (Nat.le_of_ble_eq_true rfl) rfl rfl rfl rfl (by decide) rfl (fun _ => rfl) rfl rfl rfl rfl dX6_readCondition_36 ?_
      rintro r_17 ⟨tx_place_15, tx_firstFault_16⟩ hm
      refine x_istore_n hC [(0, .ref (tx 0)), (1, .int r_17)] [1, 0] dX6_readCondition_39 (by decide) rfl ?_
      refine x_aload_n hC 0 dX6_readCondition_40 rfl ?_
      refine x_bipush hC (44 : Int32) dX6_readCondition_41 (by decide) ?_
      refine x_callVv hC _ [0, 1, 2] [] [0, 1, 2] (([] : va_W)) (fun u => W_tx cI tx tx_bytes tx_length tx_parts (u.1) (u.2)) ok_X6_readSign ml_X6_57 0 3 (c_X6_readSign (gl Γ) (gD Γ) cI cZ tx tx_bytes tx_length tx_parts tx_place_15 tx_firstFault_16 ((44 : Int32)) _ hm) (by decide) (by decide) rfl (Nat.le_of_ble_eq_true rfl) rfl rfl rfl rfl (by decide) rfl (fun _ => rfl) rfl rfl rfl rfl dX6_readCondition_43 ?_
      rintro ⟨tx_place_18, tx_firstFault_19⟩ hm
      refine x_aload_n hC 0 dX6_readCondition_46 rfl ?_
      refine x_get hC 3 inX6g 0 rfl rfl 2 (by decide) fl_X6_15 rfl dX6_readCondition_47 ?_
      refine x_iconst hC (5 : Int32) dX6_readCondition_50 (by decide) ?_
      refine x_bipush hC (100 : Int32) dX6_readCondition_51 (by decide) ?_
      refine x_bipush hC (10 : Int32) dX6_readCondition_53 (by decide) ?_
      refine x_iload_n hC 1 dX6_readCondition_55 rfl ?_
      refine x_imul hC dX6_readCondition_56 ?_
      refine x_iadd hC dX6_readCondition_57 ?_
      refine x_aload_n hC 0 dX6_readCondition_58 rfl ?_
      refine x_iconst hC (0 : Int32) dX6_readCondition_59 (by decide) ?_
      refine x_iconst hC (3 : Int32) dX6_readCondition_60 (by decide) ?_
      refine x_callVi hC _ [0, 1, 2] [] [0, 1, 2] (([] : va_W)) (fun u => W_tx cI tx tx_bytes tx_length tx_parts (u.1) (u.2)) ok_X6_readNumber ml_X6_53 0 3 (c_X6_readNumber (gl Γ) (gD Γ) cI cZ tx tx_bytes tx_length tx_parts tx_place_18 tx_firstFault_19 ((0 : Int32)) ((3 : Int32)) _ hm) (by decide) (by decide) rfl (Nat.le_of_ble_eq_true rfl) rfl rfl rfl rfl (by decide) rfl (fun _ => rfl) rfl rfl rfl rfl dX6_readCondition_61 ?_
      rintro r_22 ⟨tx_place_20, tx_firstFault_21⟩ hm
      refine x_iadd hC dX6_readCondition_64 ?_
      refine x_iastN hC 2 rfl hm.1 (fun tx_parts_23 => W_tx cI tx tx_bytes tx_length tx_parts_23 tx_place_20 tx_firstFault_21) (fun _ => rfl) dX6_readCondition_65 (fun tx_parts_23 etx_parts_23 => ?_)
      replace hm := hm.2 tx_parts_23 etx_parts_23
      refine x_goto hC 91 dX6_readCondition_66 (by decide) ?_
      exact hR (tx_parts_23, tx_place_20, tx_firstFault_21) [(0, .ref (tx 0)), (1, .int r_17)] 91 hm dX6_readCondition_91
  · replace hm := hm.2 c_1
    exact hR (tx_parts, tx_place, tx_firstFault) [(0, .ref (tx 0))] 11 hm dX6_readCondition_11

def wp_X6_read (tx_bytes : Nat → Int32) (tx_length : Int32) (tx_parts : Nat → Int32) (tx_place : Int32) (tx_firstFault : Int32)  (post : Int32 → (Nat → Int32) → Int32 → Int32 → Prop) : Prop := wp_J7_fill_53178 6 tx_parts ((-9 : Int32)) (fun (tx_parts_1 : Nat → Int32) => wp_X6_readLetter tx_bytes tx_length tx_parts_1 ((0 : Int32)) ((-9 : Int32))  (fun (tx_parts_2 : Nat → Int32) (tx_place_3 : Int32) (tx_firstFault_4 : Int32) => wp_X6_readNumbers tx_bytes tx_length tx_parts_2 tx_place_3 tx_firstFault_4  (fun (tx_parts_5 : Nat → Int32) (tx_place_6 : Int32) (tx_firstFault_7 : Int32) => wp_X6_readCondition tx_bytes tx_length tx_parts_5 tx_place_6 tx_firstFault_7  (fun (tx_parts_8 : Nat → Int32) (tx_place_9 : Int32) (tx_firstFault_10 : Int32) => (tx_length ≤ tx_place_9 → post tx_firstFault_10 tx_parts_8 tx_place_9 tx_firstFault_10) ∧ (¬ tx_length ≤ tx_place_9 → wp_X6_failAt tx_firstFault_10 tx_place_9 (fun (tx_firstFault_12 : Int32) => post tx_firstFault_12 tx_parts_8 tx_place_9 tx_firstFault_12))))))
set_option maxHeartbeats 4000000 in
set_option maxRecDepth 100000 in
theorem c_X6_read (l : Launch) (D : va_G) (cI cZ : ClassId) (tx : Nat → Nat) (tx_bytes : Nat → Int32) (tx_length : Int32) (tx_parts : Nat → Int32) (tx_place : Int32) (tx_firstFault : Int32)  (post : Int32 → (Nat → Int32) → Int32 → Int32 → Prop) (hm : wp_X6_read tx_bytes tx_length tx_parts tx_place tx_firstFault  post) : Mi l D cI cZ yX6_read cX6_read 1 .int 3 68 [.ref (tx 0)] (W_tx cI tx tx_bytes tx_length tx_parts tx_place tx_firstFault) (S := (Nat → Int32) × Int32 × Int32) (fun u => W_tx cI tx tx_bytes tx_length (u.1) (u.2.1) (u.2.2)) (fun r u => post r u.1 u.2.1 u.2.2) := by
  refine mk_Mi (by decide +kernel) (Nat.le_of_ble_eq_true rfl) ?_
  intro Γ hl0 hD0 hC hR
  subst hl0
  subst hD0
  have hC : CX Γ cI cZ cX6_read RX6 1 3 68 := hC
  show VV Γ (W_tx cI tx tx_bytes tx_length tx_parts tx_place tx_firstFault) [(0, .ref (tx 0))] 0 []
  unfold wp_X6_read at hm
  refine x_aload_n hC 0 dX6_read_0 rfl ?_
  refine x_get hC 3 inX6g 0 rfl rfl 2 (by decide) fl_X6_15 rfl dX6_read_1 ?_
  refine x_bipush hC (-9 : Int32) dX6_read_4 (by decide) ?_
  refine x_callSv hC _ [2] [0, 1] [0, 1, 2] ([(tx 0, .inr (3, [.ref (tx 1), .int tx_length, .ref (tx 2), .int tx_place, .int tx_firstFault])), (tx 1, .inl (cI, 20, .inl tx_bytes))]) (fun u => W_tx cI tx tx_bytes tx_length u tx_place tx_firstFault) ok_J7_fill_53178 ml_X6_24 (c_J7_fill_53178 (gl Γ) (gD Γ) cI cZ (tx 2) 6 tx_parts ((-9 : Int32)) _ hm) (by decide) (by decide) rfl (Nat.le_of_ble_eq_true rfl) rfl rfl rfl rfl (by decide) rfl (fun _ => rfl) rfl dX6_read_6 ?_
  rintro tx_parts_1 hm
  refine x_aload_n hC 0 dX6_read_9 rfl ?_
  refine x_iconst hC (0 : Int32) dX6_read_10 (by decide) ?_
  refine x_put hC 3 tyX6_ok nmX6 inX6g 0 rfl rfl 3 (by decide) fl_X6_30 rfl (ty := .int) (by decide +kernel) rfl rfl (Nat.le_of_ble_eq_true rfl) (W_tx cI tx tx_bytes tx_length tx_parts_1 ((0 : Int32)) tx_firstFault) rfl dX6_read_11 ?_
  refine x_aload_n hC 0 dX6_read_14 rfl ?_
  refine x_bipush hC (-9 : Int32) dX6_read_15 (by decide) ?_
  refine x_put hC 3 tyX6_ok nmX6 inX6g 0 rfl rfl 4 (by decide) fl_X6_33 rfl (ty := .int) (by decide +kernel) rfl rfl (Nat.le_of_ble_eq_true rfl) (W_tx cI tx tx_bytes tx_length tx_parts_1 ((0 : Int32)) ((-9 : Int32))) rfl dX6_read_17 ?_
  refine x_aload_n hC 0 dX6_read_20 rfl ?_
  refine x_callVv hC _ [0, 1, 2] [] [0, 1, 2] (([] : va_W)) (fun u => W_tx cI tx tx_bytes tx_length (u.1) (u.2.1) (u.2.2)) ok_X6_readLetter ml_X6_36 0 3 (c_X6_readLetter (gl Γ) (gD Γ) cI cZ tx tx_bytes tx_length tx_parts_1 ((0 : Int32)) ((-9 : Int32))  _ hm) (by decide) (by decide) rfl (Nat.le_of_ble_eq_true rfl) rfl rfl rfl rfl (by decide) rfl (fun _ => rfl) rfl rfl rfl rfl dX6_read_21 ?_
  rintro ⟨tx_parts_2, tx_place_3, tx_firstFault_4⟩ hm
  refine x_aload_n hC 0 dX6_read_24 rfl ?_
  refine x_callVv hC _ [0, 1, 2] [] [0, 1, 2] (([] : va_W)) (fun u => W_tx cI tx tx_bytes tx_length (u.1) (u.2.1) (u.2.2)) ok_X6_readNumbers ml_X6_39 0 3 (c_X6_readNumbers (gl Γ) (gD Γ) cI cZ tx tx_bytes tx_length tx_parts_2 tx_place_3 tx_firstFault_4  _ hm) (by decide) (by decide) rfl (Nat.le_of_ble_eq_true rfl) rfl rfl rfl rfl (by decide) rfl (fun _ => rfl) rfl rfl rfl rfl dX6_read_25 ?_
  rintro ⟨tx_parts_5, tx_place_6, tx_firstFault_7⟩ hm
  refine x_aload_n hC 0 dX6_read_28 rfl ?_
  refine x_callVv hC _ [0, 1, 2] [] [0, 1, 2] (([] : va_W)) (fun u => W_tx cI tx tx_bytes tx_length (u.1) (u.2.1) (u.2.2)) ok_X6_readCondition ml_X6_42 0 3 (c_X6_readCondition (gl Γ) (gD Γ) cI cZ tx tx_bytes tx_length tx_parts_5 tx_place_6 tx_firstFault_7  _ hm) (by decide) (by decide) rfl (Nat.le_of_ble_eq_true rfl) rfl rfl rfl rfl (by decide) rfl (fun _ => rfl) rfl rfl rfl rfl dX6_read_29 ?_
  rintro ⟨tx_parts_8, tx_place_9, tx_firstFault_10⟩ hm
  refine x_aload_n hC 0 dX6_read_32 rfl ?_
  refine x_get hC 3 inX6g 0 rfl rfl 3 (by decide) fl_X6_30 rfl dX6_read_33 ?_
  refine x_aload_n hC 0 dX6_read_36 rfl ?_
  refine x_get hC 3 inX6g 0 rfl rfl 1 (by decide) fl_X6_18 rfl dX6_read_37 ?_
  refine x_icmp_ge hC 51 dX6_read_40 (by decide) (fun c_11 => ?_) (fun c_11 => ?_)
  · replace hm := hm.1 c_11
    refine x_aload_n hC 0 dX6_read_51 rfl ?_
    refine x_get hC 3 inX6g 0 rfl rfl 4 (by decide) fl_X6_33 rfl dX6_read_52 ?_
    exact hR tx_firstFault_10 (tx_parts_8, tx_place_9, tx_firstFault_10) [(0, .ref (tx 0))] 55 hm rfl dX6_read_55
  · replace hm := hm.2 c_11
    refine x_aload_n hC 0 dX6_read_43 rfl ?_
    refine x_aload_n hC 0 dX6_read_44 rfl ?_
    refine x_get hC 3 inX6g 0 rfl rfl 3 (by decide) fl_X6_30 rfl dX6_read_45 ?_
    refine x_callVv hC _ [0, 1, 2] [] [0, 1, 2] (([] : va_W)) (fun u => W_tx cI tx tx_bytes tx_length tx_parts_8 tx_place_9 u) ok_X6_failAt ml_X6_45 0 3 (c_X6_failAt (gl Γ) (gD Γ) cI cZ tx tx_bytes tx_length tx_parts_8 tx_place_9 tx_firstFault_10 tx_place_9 _ hm) (by decide) (by decide) rfl (Nat.le_of_ble_eq_true rfl) rfl rfl rfl rfl (by decide) rfl (fun _ => rfl) rfl rfl rfl rfl dX6_read_48 ?_
    rintro tx_firstFault_12 hm
    refine x_aload_n hC 0 dX6_read_51 rfl ?_
    refine x_get hC 3 inX6g 0 rfl rfl 4 (by decide) fl_X6_33 rfl dX6_read_52 ?_
    exact hR tx_firstFault_12 (tx_parts_8, tx_place_9, tx_firstFault_12) [(0, .ref (tx 0))] 55 hm rfl dX6_read_55

def wp_X6_size (tx_length : Int32)  (post : Int32 → Prop) : Prop := post tx_length 
set_option maxHeartbeats 4000000 in
set_option maxRecDepth 100000 in
theorem c_X6_size (l : Launch) (D : va_G) (cI cZ : ClassId) (tx : Nat → Nat) (tx_bytes : Nat → Int32) (tx_length : Int32) (tx_parts : Nat → Int32) (tx_place : Int32) (tx_firstFault : Int32)  (post : Int32 → Prop) (hm : wp_X6_size tx_length  post) : Mi l D cI cZ yX6_size cX6_size 1 .int 0 0 [.ref (tx 0)] (W_tx cI tx tx_bytes tx_length tx_parts tx_place tx_firstFault) (S := Unit) (fun _ => W_tx cI tx tx_bytes tx_length tx_parts tx_place tx_firstFault) (fun r _ => post r ) := by
  refine mk_Mi (by decide +kernel) (Nat.le_of_ble_eq_true rfl) ?_
  intro Γ hl0 hD0 hC hR
  subst hl0
  subst hD0
  have hC : CX Γ cI cZ cX6_size RX6 1 0 0 := hC
  show VV Γ (W_tx cI tx tx_bytes tx_length tx_parts tx_place tx_firstFault) [(0, .ref (tx 0))] 0 []
  unfold wp_X6_size at hm
  refine x_aload_n hC 0 dX6_size_0 rfl ?_
  refine x_get hC 3 inX6g 0 rfl rfl 1 (by decide) fl_X6_18 rfl dX6_size_1 ?_
  exact hR tx_length () [(0, .ref (tx 0))] 4 hm rfl dX6_size_4
