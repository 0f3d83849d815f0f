def wp_X7_isClause  (p0 : Int32) (post : Int32 → Prop) : Prop := (p0 < 0 → post ((0 : Int32)) ) ∧ (¬ p0 < 0 → (((5 : Int32)) ≤ p0 → post ((0 : Int32)) ) ∧ (¬ ((5 : Int32)) ≤ p0 → post ((1 : Int32)) ))
set_option maxHeartbeats 4000000 in
set_option maxRecDepth 100000 in
theorem c_X7_isClause (l : Launch) (D : va_G) (cI cZ : ClassId)   (p0 : Int32) (post : Int32 → Prop) (hm : wp_X7_isClause  p0 post) : Mi l D cI cZ yX7_isClause cX7_isClause 1 .boolean 0 0 [.int p0] (([] : va_W)) (S := Unit) (fun _ => ([] : va_W)) (fun r _ => post r ) := by
  refine mk_Mi (by decide +kernel) (Nat.le_of_ble_eq_true rfl) ?_
  intro Γ hl0 hD0 hC hR
  subst hl0
  subst hD0
  have hC : CX Γ cI cZ cX7_isClause RX7 1 0 0 := hC
  show VV Γ (([] : va_W)) [(0, .int p0)] 0 []
  unfold wp_X7_isClause at hm
  refine x_iload_n hC 0 dX7_isClause_0 rfl ?_
  refine x_if_lt hC 13 dX7_isClause_1 (by decide) (fun c_1 => ?_) (fun c_1 => ?_)
  · replace hm := hm.1 c_1
    refine x_iconst hC (0 : Int32) dX7_isClause_13 (by decide) ?_
    exact hR ((0 : Int32)) () [(0, .int p0)] 14 hm rfl dX7_isClause_14
  · replace hm := hm.2 c_1
    refine x_iload_n hC 0 dX7_isClause_4 rfl ?_
    refine x_iconst hC (5 : Int32) dX7_isClause_5 (by decide) ?_
    refine x_icmp_ge hC 13 dX7_isClause_6 (by decide) (fun c_2 => ?_) (fun c_2 => ?_)
    · replace hm := hm.1 c_2
      refine x_iconst hC (0 : Int32) dX7_isClause_13 (by decide) ?_
      exact hR ((0 : Int32)) () [(0, .int p0)] 14 hm rfl dX7_isClause_14
    · replace hm := hm.2 c_2
      refine x_iconst hC (1 : Int32) dX7_isClause_9 (by decide) ?_
      refine x_goto hC 14 dX7_isClause_10 (by decide) ?_
      exact hR ((1 : Int32)) () [(0, .int p0)] 14 hm rfl dX7_isClause_14

def wp_X7_isSet  (p0 : Int32) (post : Int32 → Prop) : Prop := (p0 < 0 → post ((0 : Int32)) ) ∧ (¬ p0 < 0 → (((16 : Int32)) ≤ p0 → post ((0 : Int32)) ) ∧ (¬ ((16 : Int32)) ≤ p0 → post ((1 : Int32)) ))
set_option maxHeartbeats 4000000 in
set_option maxRecDepth 100000 in
theorem c_X7_isSet (l : Launch) (D : va_G) (cI cZ : ClassId)   (p0 : Int32) (post : Int32 → Prop) (hm : wp_X7_isSet  p0 post) : Mi l D cI cZ yX7_isSet cX7_isSet 1 .boolean 0 0 [.int p0] (([] : va_W)) (S := Unit) (fun _ => ([] : va_W)) (fun r _ => post r ) := by
  refine mk_Mi (by decide +kernel) (Nat.le_of_ble_eq_true rfl) ?_
  intro Γ hl0 hD0 hC hR
  subst hl0
  subst hD0
  have hC : CX Γ cI cZ cX7_isSet RX7 1 0 0 := hC
  show VV Γ (([] : va_W)) [(0, .int p0)] 0 []
  unfold wp_X7_isSet at hm
  refine x_iload_n hC 0 dX7_isSet_0 rfl ?_
  refine x_if_lt hC 14 dX7_isSet_1 (by decide) (fun c_1 => ?_) (fun c_1 => ?_)
  · replace hm := hm.1 c_1
    refine x_iconst hC (0 : Int32) dX7_isSet_14 (by decide) ?_
    exact hR ((0 : Int32)) () [(0, .int p0)] 15 hm rfl dX7_isSet_15
  · replace hm := hm.2 c_1
    refine x_iload_n hC 0 dX7_isSet_4 rfl ?_
    refine x_bipush hC (16 : Int32) dX7_isSet_5 (by decide) ?_
    refine x_icmp_ge hC 14 dX7_isSet_7 (by decide) (fun c_2 => ?_) (fun c_2 => ?_)
    · replace hm := hm.1 c_2
      refine x_iconst hC (0 : Int32) dX7_isSet_14 (by decide) ?_
      exact hR ((0 : Int32)) () [(0, .int p0)] 15 hm rfl dX7_isSet_15
    · replace hm := hm.2 c_2
      refine x_iconst hC (1 : Int32) dX7_isSet_10 (by decide) ?_
      refine x_goto hC 15 dX7_isSet_11 (by decide) ?_
      exact hR ((1 : Int32)) () [(0, .int p0)] 15 hm rfl dX7_isSet_15

def wp_X0_clauseOf  (p0 : Int32) (post : Int32 → Prop) : Prop := post (p0 / ((100 : Int32))) 
set_option maxHeartbeats 4000000 in
set_option maxRecDepth 100000 in
theorem c_X0_clauseOf (l : Launch) (D : va_G) (cI cZ : ClassId)   (p0 : Int32) (post : Int32 → Prop) (hm : wp_X0_clauseOf  p0 post) : Mi l D cI cZ yX0_clauseOf cX0_clauseOf 1 .int 0 0 [.int p0] (([] : va_W)) (S := Unit) (fun _ => ([] : va_W)) (fun r _ => post r ) := by
  refine mk_Mi (by decide +kernel) (Nat.le_of_ble_eq_true rfl) ?_
  intro Γ hl0 hD0 hC hR
  subst hl0
  subst hD0
  have hC : CX Γ cI cZ cX0_clauseOf RX0 1 0 0 := hC
  show VV Γ (([] : va_W)) [(0, .int p0)] 0 []
  unfold wp_X0_clauseOf at hm
  refine x_iload_n hC 0 dX0_clauseOf_0 rfl ?_
  refine x_bipush hC (100 : Int32) dX0_clauseOf_1 (by decide) ?_
  refine x_idiv hC dX0_clauseOf_3 (by decide) ?_
  exact hR (p0 / ((100 : Int32))) () [(0, .int p0)] 4 hm rfl dX0_clauseOf_4

def wp_X0_formOf  (p0 : Int32) (post : Int32 → Prop) : Prop := post ((p0 / ((10 : Int32))) - (p0 / ((10 : Int32))) / ((10 : Int32)) * ((10 : Int32))) 
set_option maxHeartbeats 4000000 in
set_option maxRecDepth 100000 in
theorem c_X0_formOf (l : Launch) (D : va_G) (cI cZ : ClassId)   (p0 : Int32) (post : Int32 → Prop) (hm : wp_X0_formOf  p0 post) : Mi l D cI cZ yX0_formOf cX0_formOf 1 .int 0 0 [.int p0] (([] : va_W)) (S := Unit) (fun _ => ([] : va_W)) (fun r _ => post r ) := by
  refine mk_Mi (by decide +kernel) (Nat.le_of_ble_eq_true rfl) ?_
  intro Γ hl0 hD0 hC hR
  subst hl0
  subst hD0
  have hC : CX Γ cI cZ cX0_formOf RX0 1 0 0 := hC
  show VV Γ (([] : va_W)) [(0, .int p0)] 0 []
  unfold wp_X0_formOf at hm
  refine x_iload_n hC 0 dX0_formOf_0 rfl ?_
  refine x_bipush hC (10 : Int32) dX0_formOf_1 (by decide) ?_
  refine x_idiv hC dX0_formOf_3 (by decide) ?_
  refine x_bipush hC (10 : Int32) dX0_formOf_4 (by decide) ?_
  refine x_irem hC dX0_formOf_6 (by decide) ?_
  exact hR ((p0 / ((10 : Int32))) - (p0 / ((10 : Int32))) / ((10 : Int32)) * ((10 : Int32))) () [(0, .int p0)] 7 hm rfl dX0_formOf_7

def wp_X0_exists  (p0 : Int32) (post : Int32 → Prop) : Prop := (p0 < 0 → post ((0 : Int32)) ) ∧ (¬ p0 < 0 → (¬ (p0 - p0 / ((10 : Int32)) * ((10 : Int32))) = 0 → post ((0 : Int32)) ) ∧ ((p0 - p0 / ((10 : Int32)) * ((10 : Int32))) = 0 → wp_X0_clauseOf  p0 (fun (r_3 : Int32) => (((5 : Int32)) ≤ r_3 → post ((0 : Int32)) ) ∧ (¬ ((5 : Int32)) ≤ r_3 → wp_X0_formOf  p0 (fun (r_5 : Int32) => (((3 : Int32)) < r_5 → post ((0 : Int32)) ) ∧ (¬ ((3 : Int32)) < r_5 → post ((1 : Int32)) ))))))
set_option maxHeartbeats 4000000 in
set_option maxRecDepth 100000 in
theorem c_X0_exists (l : Launch) (D : va_G) (cI cZ : ClassId)   (p0 : Int32) (post : Int32 → Prop) (hm : wp_X0_exists  p0 post) : Mi l D cI cZ yX0_exists cX0_exists 1 .boolean 1 20 [.int p0] (([] : va_W)) (S := Unit) (fun _ => ([] : va_W)) (fun r _ => post r ) := by
  refine mk_Mi (by decide +kernel) (Nat.le_of_ble_eq_true rfl) ?_
  intro Γ hl0 hD0 hC hR
  subst hl0
  subst hD0
  have hC : CX Γ cI cZ cX0_exists RX0 1 1 20 := hC
  show VV Γ (([] : va_W)) [(0, .int p0)] 0 []
  unfold wp_X0_exists at hm
  refine x_iload_n hC 0 dX0_exists_0 rfl ?_
  refine x_if_lt hC 31 dX0_exists_1 (by decide) (fun c_1 => ?_) (fun c_1 => ?_)
  · replace hm := hm.1 c_1
    refine x_iconst hC (0 : Int32) dX0_exists_31 (by decide) ?_
    exact hR ((0 : Int32)) () [(0, .int p0)] 32 hm rfl dX0_exists_32
  · replace hm := hm.2 c_1
    refine x_iload_n hC 0 dX0_exists_4 rfl ?_
    refine x_bipush hC (10 : Int32) dX0_exists_5 (by decide) ?_
    refine x_irem hC dX0_exists_7 (by decide) ?_
    refine x_if_ne hC 31 dX0_exists_8 (by decide) (fun c_2 => ?_) (fun c_2 => ?_)
    · replace hm := hm.1 c_2
      refine x_iconst hC (0 : Int32) dX0_exists_31 (by decide) ?_
      exact hR ((0 : Int32)) () [(0, .int p0)] 32 hm rfl dX0_exists_32
    · replace hm := hm.2 c_2
      refine x_iload_n hC 0 dX0_exists_11 rfl ?_
      refine x_callSi hC _ [] [] [] (([] : va_W)) (fun _ => ([] : va_W)) ok_X0_clauseOf ml_X0_9 (c_X0_clauseOf (gl Γ) (gD Γ) cI cZ   p0 _ hm) (by decide) (by decide) rfl (Nat.le_of_ble_eq_true rfl) rfl rfl rfl rfl (by decide) rfl (fun _ => rfl) rfl dX0_exists_12 ?_
      rintro r_3 _ hm
      refine x_iconst hC (5 : Int32) dX0_exists_15 (by decide) ?_
      refine x_icmp_ge hC 31 dX0_exists_16 (by decide) (fun c_4 => ?_) (fun c_4 => ?_)
      · replace hm := hm.1 c_4
        refine x_iconst hC (0 : Int32) dX0_exists_31 (by decide) ?_
        exact hR ((0 : Int32)) () [(0, .int p0)] 32 hm rfl dX0_exists_32
      · replace hm := hm.2 c_4
        refine x_iload_n hC 0 dX0_exists_19 rfl ?_
        refine x_callSi hC _ [] [] [] (([] : va_W)) (fun _ => ([] : va_W)) ok_X0_formOf ml_X0_15 (c_X0_formOf (gl Γ) (gD Γ) cI cZ   p0 _ hm) (by decide) (by decide) rfl (Nat.le_of_ble_eq_true rfl) rfl rfl rfl rfl (by decide) rfl (fun _ => rfl) rfl dX0_exists_20 ?_
        rintro r_5 _ hm
        refine x_iconst hC (3 : Int32) dX0_exists_23 (by decide) ?_
        refine x_icmp_gt hC 31 dX0_exists_24 (by decide) (fun c_6 => ?_) (fun c_6 => ?_)
        · replace hm := hm.1 c_6
          refine x_iconst hC (0 : Int32) dX0_exists_31 (by decide) ?_
          exact hR ((0 : Int32)) () [(0, .int p0)] 32 hm rfl dX0_exists_32
        · replace hm := hm.2 c_6
          refine x_iconst hC (1 : Int32) dX0_exists_27 (by decide) ?_
          refine x_goto hC 32 dX0_exists_28 (by decide) ?_
          exact hR ((1 : Int32)) () [(0, .int p0)] 32 hm rfl dX0_exists_32

def wp_X0_nth  (p0 : Int32) (post : Int32 → Prop) : Prop := post ((((100 : Int32)) * (p0 / ((4 : Int32)))) + (((10 : Int32)) * (p0 - p0 / ((4 : Int32)) * ((4 : Int32))))) 
set_option maxHeartbeats 4000000 in
set_option maxRecDepth 100000 in
theorem c_X0_nth (l : Launch) (D : va_G) (cI cZ : ClassId)   (p0 : Int32) (post : Int32 → Prop) (hm : wp_X0_nth  p0 post) : Mi l D cI cZ yX0_nth cX0_nth 1 .int 0 0 [.int p0] (([] : va_W)) (S := Unit) (fun _ => ([] : va_W)) (fun r _ => post r ) := by
  refine mk_Mi (by decide +kernel) (Nat.le_of_ble_eq_true rfl) ?_
  intro Γ hl0 hD0 hC hR
  subst hl0
  subst hD0
  have hC : CX Γ cI cZ cX0_nth RX0 1 0 0 := hC
  show VV Γ (([] : va_W)) [(0, .int p0)] 0 []
  unfold wp_X0_nth at hm
  refine x_bipush hC (100 : Int32) dX0_nth_0 (by decide) ?_
  refine x_iload_n hC 0 dX0_nth_2 rfl ?_
  refine x_iconst hC (4 : Int32) dX0_nth_3 (by decide) ?_
  refine x_idiv hC dX0_nth_4 (by decide) ?_
  refine x_imul hC dX0_nth_5 ?_
  refine x_bipush hC (10 : Int32) dX0_nth_6 (by decide) ?_
  refine x_iload_n hC 0 dX0_nth_8 rfl ?_
  refine x_iconst hC (4 : Int32) dX0_nth_9 (by decide) ?_
  refine x_irem hC dX0_nth_10 (by decide) ?_
  refine x_imul hC dX0_nth_11 ?_
  refine x_iadd hC dX0_nth_12 ?_
  exact hR ((((100 : Int32)) * (p0 / ((4 : Int32)))) + (((10 : Int32)) * (p0 - p0 / ((4 : Int32)) * ((4 : Int32))))) () [(0, .int p0)] 13 hm rfl dX0_nth_13

def wp_X5_thingsOf  (p0 : Int32) (post : Int32 → Prop) : Prop := post ((p0 >>> (((10 : Int32)) &&& 31)) &&& ((15 : Int32))) 
set_option maxHeartbeats 4000000 in
set_option maxRecDepth 100000 in
theorem c_X5_thingsOf (l : Launch) (D : va_G) (cI cZ : ClassId)   (p0 : Int32) (post : Int32 → Prop) (hm : wp_X5_thingsOf  p0 post) : Mi l D cI cZ yX5_thingsOf cX5_thingsOf 1 .int 0 0 [.int p0] (([] : va_W)) (S := Unit) (fun _ => ([] : va_W)) (fun r _ => post r ) := by
  refine mk_Mi (by decide +kernel) (Nat.le_of_ble_eq_true rfl) ?_
  intro Γ hl0 hD0 hC hR
  subst hl0
  subst hD0
  have hC : CX Γ cI cZ cX5_thingsOf RX5 1 0 0 := hC
  show VV Γ (([] : va_W)) [(0, .int p0)] 0 []
  unfold wp_X5_thingsOf at hm
  refine x_iload_n hC 0 dX5_thingsOf_0 rfl ?_
  refine x_bipush hC (10 : Int32) dX5_thingsOf_1 (by decide) ?_
  refine x_ishr hC dX5_thingsOf_3 ?_
  refine x_bipush hC (15 : Int32) dX5_thingsOf_4 (by decide) ?_
  refine x_iand hC dX5_thingsOf_6 ?_
  exact hR ((p0 >>> (((10 : Int32)) &&& 31)) &&& ((15 : Int32))) () [(0, .int p0)] 7 hm rfl dX5_thingsOf_7

def wp_X5_formOf  (p0 : Int32) (p1 : Int32) (post : Int32 → Prop) : Prop := post ((p0 >>> ((((2 : Int32)) * p1) &&& 31)) &&& ((3 : Int32))) 
set_option maxHeartbeats 4000000 in
set_option maxRecDepth 100000 in
theorem c_X5_formOf (l : Launch) (D : va_G) (cI cZ : ClassId)   (p0 : Int32) (p1 : Int32) (post : Int32 → Prop) (hm : wp_X5_formOf  p0 p1 post) : Mi l D cI cZ yX5_formOf cX5_formOf 2 .int 0 0 [.int p0, .int p1] (([] : va_W)) (S := Unit) (fun _ => ([] : va_W)) (fun r _ => post r ) := by
  refine mk_Mi (by decide +kernel) (Nat.le_of_ble_eq_true rfl) ?_
  intro Γ hl0 hD0 hC hR
  subst hl0
  subst hD0
  have hC : CX Γ cI cZ cX5_formOf RX5 2 0 0 := hC
  show VV Γ (([] : va_W)) [(0, .int p0), (1, .int p1)] 0 []
  unfold wp_X5_formOf at hm
  refine x_iload_n hC 0 dX5_formOf_0 rfl ?_
  refine x_iconst hC (2 : Int32) dX5_formOf_1 (by decide) ?_
  refine x_iload_n hC 1 dX5_formOf_2 rfl ?_
  refine x_imul hC dX5_formOf_3 ?_
  refine x_ishr hC dX5_formOf_4 ?_
  refine x_iconst hC (3 : Int32) dX5_formOf_5 (by decide) ?_
  refine x_iand hC dX5_formOf_6 ?_
  exact hR ((p0 >>> ((((2 : Int32)) * p1) &&& 31)) &&& ((3 : Int32))) () [(0, .int p0), (1, .int p1)] 7 hm rfl dX5_formOf_7

def wpL_X5_differences_15   (post : Int32 → Prop) : Nat → Int32 → Int32 → Int32 → Int32 → Prop
  | 0, _, _, _, _ => False
  | n + 1, x0_4, x1_5, x2_6, x3_7 => (((5 : Int32)) ≤ x3_7 → post x2_6 ) ∧ (¬ ((5 : Int32)) ≤ x3_7 → wp_X5_formOf  x0_4 x3_7 (fun (r_9 : Int32) => wp_X5_formOf  x1_5 x3_7 (fun (r_10 : Int32) => (r_9 = r_10 → ∀ x2_12 : Int32, x2_12 = x2_6 + ((0 : Int32)) → ∀ x3_13 : Int32, x3_13 = x3_7 + (1 : Int32) → (wpL_X5_differences_15   post n) x0_4 x1_5 x2_12 x3_13) ∧ (¬ r_9 = r_10 → ∀ x2_14 : Int32, x2_14 = x2_6 + ((1 : Int32)) → ∀ x3_15 : Int32, x3_15 = x3_7 + (1 : Int32) → (wpL_X5_differences_15   post n) x0_4 x1_5 x2_14 x3_15))))
def wp_X5_differences  (p0 : Int32) (p1 : Int32) (post : Int32 → Prop) : Prop := wp_X5_thingsOf  p0 (fun (r_1 : Int32) => wp_X5_thingsOf  p1 (fun (r_2 : Int32) => wp_J6_bitCount_0f7a4  (r_1 ^^^ r_2) (fun (r_3 : Int32) => ∃ k15, wpL_X5_differences_15   post k15 p0 p1 r_3 ((0 : Int32)))))
set_option maxHeartbeats 4000000 in
set_option maxRecDepth 100000 in
theorem c_X5_differences (l : Launch) (D : va_G) (cI cZ : ClassId)   (p0 : Int32) (p1 : Int32) (post : Int32 → Prop) (hm : wp_X5_differences  p0 p1 post) : Mi l D cI cZ yX5_differences cX5_differences 4 .int 1 21 [.int p0, .int p1] (([] : va_W)) (S := Unit) (fun _ => ([] : va_W)) (fun r _ => post r ) := by
  refine mk_Mi (by decide +kernel) (Nat.le_of_ble_eq_true rfl) ?_
  intro Γ hl0 hD0 hC hR
  subst hl0
  subst hD0
  have hC : CX Γ cI cZ cX5_differences RX5 4 1 21 := hC
  show VV Γ (([] : va_W)) [(0, .int p0), (1, .int p1)] 0 []
  have B_15 : ∀ (n : Nat) (x0_4 : Int32) (x1_5 : Int32) (x2_6 : Int32) (x3_7 : Int32), wpL_X5_differences_15   post n x0_4 x1_5 x2_6 x3_7 → VV Γ (([] : va_W)) [(0, .int x0_4), (1, .int x1_5), (2, .int x2_6), (3, .int x3_7)] 15 [] := by
    intro  n
    induction n with
    | zero => intro x0_4 x1_5 x2_6 x3_7 hm; rw [wpL_X5_differences_15] at hm; exact hm.elim
    | succ n ih =>
      intro x0_4 x1_5 x2_6 x3_7 hm
      rw [wpL_X5_differences_15] at hm
      refine x_iload_n hC 3 dX5_differences_15 rfl ?_
      refine x_iconst hC (5 : Int32) dX5_differences_16 (by decide) ?_
      refine x_icmp_ge hC 47 dX5_differences_17 (by decide) (fun c_8 => ?_) (fun c_8 => ?_)
      · replace hm := hm.1 c_8
        refine x_iload_n hC 2 dX5_differences_47 rfl ?_
        exact hR x2_6 () [(0, .int x0_4), (1, .int x1_5), (2, .int x2_6), (3, .int x3_7)] 48 hm rfl dX5_differences_48
      · replace hm := hm.2 c_8
        refine x_iload_n hC 2 dX5_differences_20 rfl ?_
        refine x_iload_n hC 0 dX5_differences_21 rfl ?_
        refine x_iload_n hC 3 dX5_differences_22 rfl ?_
        refine x_callSi hC _ [] [] [] (([] : va_W)) (fun _ => ([] : va_W)) ok_X5_formOf ml_X5_11 (c_X5_formOf (gl Γ) (gD Γ) cI cZ   x0_4 x3_7 _ hm) (by decide) (by decide) rfl (Nat.le_of_ble_eq_true rfl) rfl rfl rfl rfl (by decide) rfl (fun _ => rfl) rfl dX5_differences_23 ?_
        rintro r_9 _ hm
        refine x_iload_n hC 1 dX5_differences_26 rfl ?_
        refine x_iload_n hC 3 dX5_differences_27 rfl ?_
        refine x_callSi hC _ [] [] [] (([] : va_W)) (fun _ => ([] : va_W)) ok_X5_formOf ml_X5_11 (c_X5_formOf (gl Γ) (gD Γ) cI cZ   x1_5 x3_7 _ hm) (by decide) (by decide) rfl (Nat.le_of_ble_eq_true rfl) rfl rfl rfl rfl (by decide) rfl (fun _ => rfl) rfl dX5_differences_28 ?_
        rintro r_10 _ hm
        refine x_icmp_eq hC 38 dX5_differences_31 (by decide) (fun c_11 => ?_) (fun c_11 => ?_)
        · replace hm := hm.1 c_11
          refine x_iconst hC (0 : Int32) dX5_differences_38 (by decide) ?_
          refine x_iadd hC dX5_differences_39 ?_
          refine x_top (fun x2_12 ex2_12 => ?_)
          replace hm := hm x2_12 ex2_12
          refine x_istore_n hC [(0, .int x0_4), (1, .int x1_5), (2, .int x2_12), (3, .int x3_7)] [1, 2, 0, 3] dX5_differences_40 (by decide) rfl ?_
          obtain ⟨x3_13, ex3_13⟩ : ∃ y : Int32, y = x3_7 + (1 : Int32) := ⟨_, rfl⟩
          replace hm := hm x3_13 ex3_13
          refine x_iinc hC 3 x3_13 [(0, .int x0_4), (1, .int x1_5), (2, .int x2_12), (3, .int x3_13)] [1, 2, 3, 0] dX5_differences_41 rfl (by rw [ex3_13]; rfl) (by decide) rfl ?_
          refine x_goto hC 15 dX5_differences_44 (by decide) ?_
          exact ih x0_4 x1_5 x2_12 x3_13 hm
        · replace hm := hm.2 c_11
          refine x_iconst hC (1 : Int32) dX5_differences_34 (by decide) ?_
          refine x_goto hC 39 dX5_differences_35 (by decide) ?_
          refine x_iadd hC dX5_differences_39 ?_
          refine x_top (fun x2_14 ex2_14 => ?_)
          replace hm := hm x2_14 ex2_14
          refine x_istore_n hC [(0, .int x0_4), (1, .int x1_5), (2, .int x2_14), (3, .int x3_7)] [1, 2, 0, 3] dX5_differences_40 (by decide) rfl ?_
          obtain ⟨x3_15, ex3_15⟩ : ∃ y : Int32, y = x3_7 + (1 : Int32) := ⟨_, rfl⟩
          replace hm := hm x3_15 ex3_15
          refine x_iinc hC 3 x3_15 [(0, .int x0_4), (1, .int x1_5), (2, .int x2_14), (3, .int x3_15)] [1, 2, 3, 0] dX5_differences_41 rfl (by rw [ex3_15]; rfl) (by decide) rfl ?_
          refine x_goto hC 15 dX5_differences_44 (by decide) ?_
          exact ih x0_4 x1_5 x2_14 x3_15 hm
  unfold wp_X5_differences at hm
  refine x_iload_n hC 0 dX5_differences_0 rfl ?_
  refine x_callSi hC _ [] [] [] (([] : va_W)) (fun _ => ([] : va_W)) ok_X5_thingsOf ml_X5_15 (c_X5_thingsOf (gl Γ) (gD Γ) cI cZ   p0 _ hm) (by decide) (by decide) rfl (Nat.le_of_ble_eq_true rfl) rfl rfl rfl rfl (by decide) rfl (fun _ => rfl) rfl dX5_differences_1 ?_
  rintro r_1 _ hm
  refine x_iload_n hC 1 dX5_differences_4 rfl ?_
  refine x_callSi hC _ [] [] [] (([] : va_W)) (fun _ => ([] : va_W)) ok_X5_thingsOf ml_X5_15 (c_X5_thingsOf (gl Γ) (gD Γ) cI cZ   p1 _ hm) (by decide) (by decide) rfl (Nat.le_of_ble_eq_true rfl) rfl rfl rfl rfl (by decide) rfl (fun _ => rfl) rfl dX5_differences_5 ?_
  rintro r_2 _ hm
  refine x_ixor hC dX5_differences_8 ?_
  refine x_callSi hC _ [] [] [] (([] : va_W)) (fun _ => ([] : va_W)) ok_J6_bitCount_0f7a4 ml_X5_19 (c_J6_bitCount_0f7a4 (gl Γ) (gD Γ) cI cZ   (r_1 ^^^ r_2) _ hm) (by decide) (by decide) rfl (Nat.le_of_ble_eq_true rfl) rfl rfl rfl rfl (by decide) rfl (fun _ => rfl) rfl dX5_differences_9 ?_
  rintro r_3 _ hm
  refine x_istore_n hC [(0, .int p0), (1, .int p1), (2, .int r_3)] [1, 2, 0] dX5_differences_12 (by decide) rfl ?_
  refine x_iconst hC (0 : Int32) dX5_differences_13 (by decide) ?_
  refine x_istore_n hC [(0, .int p0), (1, .int p1), (2, .int r_3), (3, .int ((0 : Int32)))] [1, 2, 3, 0] dX5_differences_14 (by decide) rfl ?_
  obtain ⟨n_16, hm⟩ := hm
  exact B_15  n_16 p0 p1 r_3 ((0 : Int32)) hm

def wp_X5_exists  (p0 : Int32) (post : Int32 → Prop) : Prop := (p0 < 0 → post ((0 : Int32)) ) ∧ (¬ p0 < 0 → (((16384 : Int32)) ≤ p0 → post ((0 : Int32)) ) ∧ (¬ ((16384 : Int32)) ≤ p0 → post ((1 : Int32)) ))
set_option maxHeartbeats 4000000 in
set_option maxRecDepth 100000 in
theorem c_X5_exists (l : Launch) (D : va_G) (cI cZ : ClassId)   (p0 : Int32) (post : Int32 → Prop) (hm : wp_X5_exists  p0 post) : Mi l D cI cZ yX5_exists cX5_exists 1 .boolean 0 0 [.int p0] (([] : va_W)) (S := Unit) (fun _ => ([] : va_W)) (fun r _ => post r ) := by
  refine mk_Mi (by decide +kernel) (Nat.le_of_ble_eq_true rfl) ?_
  intro Γ hl0 hD0 hC hR
  subst hl0
  subst hD0
  have hC : CX Γ cI cZ cX5_exists RX5 1 0 0 := hC
  show VV Γ (([] : va_W)) [(0, .int p0)] 0 []
  unfold wp_X5_exists at hm
  refine x_iload_n hC 0 dX5_exists_0 rfl ?_
  refine x_if_lt hC 15 dX5_exists_1 (by decide) (fun c_1 => ?_) (fun c_1 => ?_)
  · replace hm := hm.1 c_1
    refine x_iconst hC (0 : Int32) dX5_exists_15 (by decide) ?_
    exact hR ((0 : Int32)) () [(0, .int p0)] 16 hm rfl dX5_exists_16
  · replace hm := hm.2 c_1
    refine x_iload_n hC 0 dX5_exists_4 rfl ?_
    refine x_sipush hC (16384 : Int32) dX5_exists_5 (by decide) ?_
    refine x_icmp_ge hC 15 dX5_exists_8 (by decide) (fun c_2 => ?_) (fun c_2 => ?_)
    · replace hm := hm.1 c_2
      refine x_iconst hC (0 : Int32) dX5_exists_15 (by decide) ?_
      exact hR ((0 : Int32)) () [(0, .int p0)] 16 hm rfl dX5_exists_16
    · replace hm := hm.2 c_2
      refine x_iconst hC (1 : Int32) dX5_exists_11 (by decide) ?_
      refine x_goto hC 16 dX5_exists_12 (by decide) ?_
      exact hR ((1 : Int32)) () [(0, .int p0)] 16 hm rfl dX5_exists_16

def wpL_X5_howManyStand_4   (post : Int32 → Prop) : Nat → Int32 → Int32 → Int32 → Prop
  | 0, _, _, _ => False
  | n + 1, x0_1, x1_2, x2_3 => (((5 : Int32)) ≤ x2_3 → post x1_2 ) ∧ (¬ ((5 : Int32)) ≤ x2_3 → wp_X5_formOf  x0_1 x2_3 (fun (r_5 : Int32) => (r_5 = 0 → ∀ x1_7 : Int32, x1_7 = x1_2 + ((0 : Int32)) → ∀ x2_8 : Int32, x2_8 = x2_3 + (1 : Int32) → (wpL_X5_howManyStand_4   post n) x0_1 x1_7 x2_8) ∧ (¬ r_5 = 0 → ∀ x1_9 : Int32, x1_9 = x1_2 + ((1 : Int32)) → ∀ x2_10 : Int32, x2_10 = x2_3 + (1 : Int32) → (wpL_X5_howManyStand_4   post n) x0_1 x1_9 x2_10)))
def wp_X5_howManyStand  (p0 : Int32) (post : Int32 → Prop) : Prop := ∃ k4, wpL_X5_howManyStand_4   post k4 p0 ((0 : Int32)) ((0 : Int32))
set_option maxHeartbeats 4000000 in
set_option maxRecDepth 100000 in
theorem c_X5_howManyStand (l : Launch) (D : va_G) (cI cZ : ClassId)   (p0 : Int32) (post : Int32 → Prop) (hm : wp_X5_howManyStand  p0 post) : Mi l D cI cZ yX5_howManyStand cX5_howManyStand 3 .int 1 21 [.int p0] (([] : va_W)) (S := Unit) (fun _ => ([] : va_W)) (fun r _ => post r ) := by
  refine mk_Mi (by decide +kernel) (Nat.le_of_ble_eq_true rfl) ?_
  intro Γ hl0 hD0 hC hR
  subst hl0
  subst hD0
  have hC : CX Γ cI cZ cX5_howManyStand RX5 3 1 21 := hC
  show VV Γ (([] : va_W)) [(0, .int p0)] 0 []
  have B_4 : ∀ (n : Nat) (x0_1 : Int32) (x1_2 : Int32) (x2_3 : Int32), wpL_X5_howManyStand_4   post n x0_1 x1_2 x2_3 → VV Γ (([] : va_W)) [(0, .int x0_1), (1, .int x1_2), (2, .int x2_3)] 4 [] := by
    intro  n
    induction n with
    | zero => intro x0_1 x1_2 x2_3 hm; rw [wpL_X5_howManyStand_4] at hm; exact hm.elim
    | succ n ih =>
      intro x0_1 x1_2 x2_3 hm
      rw [wpL_X5_howManyStand_4] at hm
      refine x_iload_n hC 2 dX5_howManyStand_4 rfl ?_
      refine x_iconst hC (5 : Int32) dX5_howManyStand_5 (by decide) ?_
      refine x_icmp_ge hC 31 dX5_howManyStand_6 (by decide) (fun c_4 => ?_) (fun c_4 => ?_)
      · replace hm := hm.1 c_4
        refine x_iload_n hC 1 dX5_howManyStand_31 rfl ?_
        exact hR x1_2 () [(0, .int x0_1), (1, .int x1_2), (2, .int x2_3)] 32 hm rfl dX5_howManyStand_32
      · replace hm := hm.2 c_4
        refine x_iload_n hC 1 dX5_howManyStand_9 rfl ?_
        refine x_iload_n hC 0 dX5_howManyStand_10 rfl ?_
        refine x_iload_n hC 2 dX5_howManyStand_11 rfl ?_
        refine x_callSi hC _ [] [] [] (([] : va_W)) (fun _ => ([] : va_W)) ok_X5_formOf ml_X5_11 (c_X5_formOf (gl Γ) (gD Γ) cI cZ   x0_1 x2_3 _ hm) (by decide) (by decide) rfl (Nat.le_of_ble_eq_true rfl) rfl rfl rfl rfl (by decide) rfl (fun _ => rfl) rfl dX5_howManyStand_12 ?_
        rintro r_5 _ hm
        refine x_if_eq hC 22 dX5_howManyStand_15 (by decide) (fun c_6 => ?_) (fun c_6 => ?_)
        · replace hm := hm.1 c_6
          refine x_iconst hC (0 : Int32) dX5_howManyStand_22 (by decide) ?_
          refine x_iadd hC dX5_howManyStand_23 ?_
          refine x_top (fun x1_7 ex1_7 => ?_)
          replace hm := hm x1_7 ex1_7
          refine x_istore_n hC [(0, .int x0_1), (1, .int x1_7), (2, .int x2_3)] [1, 0, 2] dX5_howManyStand_24 (by decide) rfl ?_
          obtain ⟨x2_8, ex2_8⟩ : ∃ y : Int32, y = x2_3 + (1 : Int32) := ⟨_, rfl⟩
          replace hm := hm x2_8 ex2_8
          refine x_iinc hC 2 x2_8 [(0, .int x0_1), (1, .int x1_7), (2, .int x2_8)] [1, 2, 0] dX5_howManyStand_25 rfl (by rw [ex2_8]; rfl) (by decide) rfl ?_
          refine x_goto hC 4 dX5_howManyStand_28 (by decide) ?_
          exact ih x0_1 x1_7 x2_8 hm
        · replace hm := hm.2 c_6
          refine x_iconst hC (1 : Int32) dX5_howManyStand_18 (by decide) ?_
          refine x_goto hC 23 dX5_howManyStand_19 (by decide) ?_
          refine x_iadd hC dX5_howManyStand_23 ?_
          refine x_top (fun x1_9 ex1_9 => ?_)
          replace hm := hm x1_9 ex1_9
          refine x_istore_n hC [(0, .int x0_1), (1, .int x1_9), (2, .int x2_3)] [1, 0, 2] dX5_howManyStand_24 (by decide) rfl ?_
          obtain ⟨x2_10, ex2_10⟩ : ∃ y : Int32, y = x2_3 + (1 : Int32) := ⟨_, rfl⟩
          replace hm := hm x2_10 ex2_10
          refine x_iinc hC 2 x2_10 [(0, .int x0_1), (1, .int x1_9), (2, .int x2_10)] [1, 2, 0] dX5_howManyStand_25 rfl (by rw [ex2_10]; rfl) (by decide) rfl ?_
          refine x_goto hC 4 dX5_howManyStand_28 (by decide) ?_
          exact ih x0_1 x1_9 x2_10 hm
  unfold wp_X5_howManyStand at hm
  refine x_iconst hC (0 : Int32) dX5_howManyStand_0 (by decide) ?_
  refine x_istore_n hC [(0, .int p0), (1, .int ((0 : Int32)))] [1, 0] dX5_howManyStand_1 (by decide) rfl ?_
  refine x_iconst hC (0 : Int32) dX5_howManyStand_2 (by decide) ?_
  refine x_istore_n hC [(0, .int p0), (1, .int ((0 : Int32))), (2, .int ((0 : Int32)))] [1, 2, 0] dX5_howManyStand_3 (by decide) rfl ?_
  obtain ⟨n_11, hm⟩ := hm
  exact B_4  n_11 p0 ((0 : Int32)) ((0 : Int32)) hm

def wp_X5_make  (p0 : Int32) (p1 : Int32) (p2 : Int32) (post : Int32 → Prop) : Prop := ∀ x3_1 : Int32, x3_1 = ((10 : Int32)) + p1 → post ((p0 &&& ((((1 : Int32)) <<< (x3_1 &&& 31)) ^^^ ((-1 : Int32)))) ||| ((p2 &&& ((1 : Int32))) <<< (x3_1 &&& 31))) 
set_option maxHeartbeats 4000000 in
set_option maxRecDepth 100000 in
theorem c_X5_make (l : Launch) (D : va_G) (cI cZ : ClassId)   (p0 : Int32) (p1 : Int32) (p2 : Int32) (post : Int32 → Prop) (hm : wp_X5_make  p0 p1 p2 post) : Mi l D cI cZ yX5_make cX5_make 4 .int 0 0 [.int p0, .int p1, .int p2] (([] : va_W)) (S := Unit) (fun _ => ([] : va_W)) (fun r _ => post r ) := by
  refine mk_Mi (by decide +kernel) (Nat.le_of_ble_eq_true rfl) ?_
  intro Γ hl0 hD0 hC hR
  subst hl0
  subst hD0
  have hC : CX Γ cI cZ cX5_make RX5 4 0 0 := hC
  show VV Γ (([] : va_W)) [(0, .int p0), (1, .int p1), (2, .int p2)] 0 []
  unfold wp_X5_make at hm
  refine x_bipush hC (10 : Int32) dX5_make_0 (by decide) ?_
  refine x_iload_n hC 1 dX5_make_2 rfl ?_
  refine x_iadd hC dX5_make_3 ?_
  refine x_top (fun x3_1 ex3_1 => ?_)
  replace hm := hm x3_1 ex3_1
  refine x_istore_n hC [(0, .int p0), (1, .int p1), (2, .int p2), (3, .int x3_1)] [1, 2, 3, 0] dX5_make_4 (by decide) rfl ?_
  refine x_iload_n hC 0 dX5_make_5 rfl ?_
  refine x_iconst hC (1 : Int32) dX5_make_6 (by decide) ?_
  refine x_iload_n hC 3 dX5_make_7 rfl ?_
  refine x_ishl hC dX5_make_8 ?_
  refine x_iconst hC (-1 : Int32) dX5_make_9 (by decide) ?_
  refine x_ixor hC dX5_make_10 ?_
  refine x_iand hC dX5_make_11 ?_
  refine x_iload_n hC 2 dX5_make_12 rfl ?_
  refine x_iconst hC (1 : Int32) dX5_make_13 (by decide) ?_
  refine x_iand hC dX5_make_14 ?_
  refine x_iload_n hC 3 dX5_make_15 rfl ?_
  refine x_ishl hC dX5_make_16 ?_
  refine x_ior hC dX5_make_17 ?_
  exact hR ((p0 &&& ((((1 : Int32)) <<< (x3_1 &&& 31)) ^^^ ((-1 : Int32)))) ||| ((p2 &&& ((1 : Int32))) <<< (x3_1 &&& 31))) () [(0, .int p0), (1, .int p1), (2, .int p2), (3, .int x3_1)] 18 hm rfl dX5_make_18

def wp_X5_put  (p0 : Int32) (p1 : Int32) (p2 : Int32) (post : Int32 → Prop) : Prop := ∀ x3_1 : Int32, x3_1 = ((2 : Int32)) * p1 → post ((p0 &&& ((((3 : Int32)) <<< (x3_1 &&& 31)) ^^^ ((-1 : Int32)))) ||| ((p2 &&& ((3 : Int32))) <<< (x3_1 &&& 31))) 
set_option maxHeartbeats 4000000 in
set_option maxRecDepth 100000 in
theorem c_X5_put (l : Launch) (D : va_G) (cI cZ : ClassId)   (p0 : Int32) (p1 : Int32) (p2 : Int32) (post : Int32 → Prop) (hm : wp_X5_put  p0 p1 p2 post) : Mi l D cI cZ yX5_put cX5_put 4 .int 0 0 [.int p0, .int p1, .int p2] (([] : va_W)) (S := Unit) (fun _ => ([] : va_W)) (fun r _ => post r ) := by
  refine mk_Mi (by decide +kernel) (Nat.le_of_ble_eq_true rfl) ?_
  intro Γ hl0 hD0 hC hR
  subst hl0
  subst hD0
  have hC : CX Γ cI cZ cX5_put RX5 4 0 0 := hC
  show VV Γ (([] : va_W)) [(0, .int p0), (1, .int p1), (2, .int p2)] 0 []
  unfold wp_X5_put at hm
  refine x_iconst hC (2 : Int32) dX5_put_0 (by decide) ?_
  refine x_iload_n hC 1 dX5_put_1 rfl ?_
  refine x_imul hC dX5_put_2 ?_
  refine x_top (fun x3_1 ex3_1 => ?_)
  replace hm := hm x3_1 ex3_1
  refine x_istore_n hC [(0, .int p0), (1, .int p1), (2, .int p2), (3, .int x3_1)] [1, 2, 3, 0] dX5_put_3 (by decide) rfl ?_
  refine x_iload_n hC 0 dX5_put_4 rfl ?_
  refine x_iconst hC (3 : Int32) dX5_put_5 (by decide) ?_
  refine x_iload_n hC 3 dX5_put_6 rfl ?_
  refine x_ishl hC dX5_put_7 ?_
  refine x_iconst hC (-1 : Int32) dX5_put_8 (by decide) ?_
  refine x_ixor hC dX5_put_9 ?_
  refine x_iand hC dX5_put_10 ?_
  refine x_iload_n hC 2 dX5_put_11 rfl ?_
  refine x_iconst hC (3 : Int32) dX5_put_12 (by decide) ?_
  refine x_iand hC dX5_put_13 ?_
  refine x_iload_n hC 3 dX5_put_14 rfl ?_
  refine x_ishl hC dX5_put_15 ?_
  refine x_ior hC dX5_put_16 ?_
  exact hR ((p0 &&& ((((3 : Int32)) <<< (x3_1 &&& 31)) ^^^ ((-1 : Int32)))) ||| ((p2 &&& ((3 : Int32))) <<< (x3_1 &&& 31))) () [(0, .int p0), (1, .int p1), (2, .int p2), (3, .int x3_1)] 17 hm rfl dX5_put_17

def wp_X5_thingOf  (p0 : Int32) (p1 : Int32) (post : Int32 → Prop) : Prop := post ((p0 >>> ((((10 : Int32)) + p1) &&& 31)) &&& ((1 : Int32))) 
set_option maxHeartbeats 4000000 in
set_option maxRecDepth 100000 in
theorem c_X5_thingOf (l : Launch) (D : va_G) (cI cZ : ClassId)   (p0 : Int32) (p1 : Int32) (post : Int32 → Prop) (hm : wp_X5_thingOf  p0 p1 post) : Mi l D cI cZ yX5_thingOf cX5_thingOf 2 .int 0 0 [.int p0, .int p1] (([] : va_W)) (S := Unit) (fun _ => ([] : va_W)) (fun r _ => post r ) := by
  refine mk_Mi (by decide +kernel) (Nat.le_of_ble_eq_true rfl) ?_
  intro Γ hl0 hD0 hC hR
  subst hl0
  subst hD0
  have hC : CX Γ cI cZ cX5_thingOf RX5 2 0 0 := hC
  show VV Γ (([] : va_W)) [(0, .int p0), (1, .int p1)] 0 []
  unfold wp_X5_thingOf at hm
  refine x_iload_n hC 0 dX5_thingOf_0 rfl ?_
  refine x_bipush hC (10 : Int32) dX5_thingOf_1 (by decide) ?_
  refine x_iload_n hC 1 dX5_thingOf_3 rfl ?_
  refine x_iadd hC dX5_thingOf_4 ?_
  refine x_ishr hC dX5_thingOf_5 ?_
  refine x_iconst hC (1 : Int32) dX5_thingOf_6 (by decide) ?_
  refine x_iand hC dX5_thingOf_7 ?_
  exact hR ((p0 >>> ((((10 : Int32)) + p1) &&& 31)) &&& ((1 : Int32))) () [(0, .int p0), (1, .int p1)] 8 hm rfl dX5_thingOf_8

def wp_X1_exists  (p0 : Int32) (post : Int32 → Prop) : Prop := (0 ≤ p0 → (((100 : Int32)) ≤ p0 → (((150 : Int32)) ≤ p0 → post ((0 : Int32)) ) ∧ (¬ ((150 : Int32)) ≤ p0 → (((3 : Int32)) < (p0 - p0 / ((10 : Int32)) * ((10 : Int32))) → post ((0 : Int32)) ) ∧ (¬ ((3 : Int32)) < (p0 - p0 / ((10 : Int32)) * ((10 : Int32))) → post ((1 : Int32)) ))) ∧ (¬ ((100 : Int32)) ≤ p0 → (((4 : Int32)) ≤ (p0 / ((10 : Int32))) → post ((0 : Int32)) ) ∧ (¬ ((4 : Int32)) ≤ (p0 / ((10 : Int32))) → (((1 : Int32)) < (p0 - p0 / ((10 : Int32)) * ((10 : Int32))) → post ((0 : Int32)) ) ∧ (¬ ((1 : Int32)) < (p0 - p0 / ((10 : Int32)) * ((10 : Int32))) → post ((1 : Int32)) )))) ∧ (¬ 0 ≤ p0 → post ((0 : Int32)) )
set_option maxHeartbeats 4000000 in
set_option maxRecDepth 100000 in
theorem c_X1_exists (l : Launch) (D : va_G) (cI cZ : ClassId)   (p0 : Int32) (post : Int32 → Prop) (hm : wp_X1_exists  p0 post) : Mi l D cI cZ yX1_exists cX1_exists 1 .boolean 0 0 [.int p0] (([] : va_W)) (S := Unit) (fun _ => ([] : va_W)) (fun r _ => post r ) := by
  refine mk_Mi (by decide +kernel) (Nat.le_of_ble_eq_true rfl) ?_
  intro Γ hl0 hD0 hC hR
  subst hl0
  subst hD0
  have hC : CX Γ cI cZ cX1_exists RX1 1 0 0 := hC
  show VV Γ (([] : va_W)) [(0, .int p0)] 0 []
  unfold wp_X1_exists at hm
  refine x_iload_n hC 0 dX1_exists_0 rfl ?_
  refine x_if_ge hC 6 dX1_exists_1 (by decide) (fun c_1 => ?_) (fun c_1 => ?_)
  · replace hm := hm.1 c_1
    refine x_iload_n hC 0 dX1_exists_6 rfl ?_
    refine x_bipush hC (100 : Int32) dX1_exists_7 (by decide) ?_
    refine x_icmp_ge hC 34 dX1_exists_9 (by decide) (fun c_2 => ?_) (fun c_2 => ?_)
    · replace hm := hm.1 c_2
      refine x_iload_n hC 0 dX1_exists_34 rfl ?_
      refine x_sipush hC (150 : Int32) dX1_exists_35 (by decide) ?_
      refine x_icmp_ge hC 53 dX1_exists_38 (by decide) (fun c_3 => ?_) (fun c_3 => ?_)
      · replace hm := hm.1 c_3
        refine x_iconst hC (0 : Int32) dX1_exists_53 (by decide) ?_
        exact hR ((0 : Int32)) () [(0, .int p0)] 54 hm rfl dX1_exists_54
      · replace hm := hm.2 c_3
        refine x_iload_n hC 0 dX1_exists_41 rfl ?_
        refine x_bipush hC (10 : Int32) dX1_exists_42 (by decide) ?_
        refine x_irem hC dX1_exists_44 (by decide) ?_
        refine x_iconst hC (3 : Int32) dX1_exists_45 (by decide) ?_
        refine x_icmp_gt hC 53 dX1_exists_46 (by decide) (fun c_4 => ?_) (fun c_4 => ?_)
        · replace hm := hm.1 c_4
          refine x_iconst hC (0 : Int32) dX1_exists_53 (by decide) ?_
          exact hR ((0 : Int32)) () [(0, .int p0)] 54 hm rfl dX1_exists_54
        · replace hm := hm.2 c_4
          refine x_iconst hC (1 : Int32) dX1_exists_49 (by decide) ?_
          refine x_goto hC 54 dX1_exists_50 (by decide) ?_
          exact hR ((1 : Int32)) () [(0, .int p0)] 54 hm rfl dX1_exists_54
    · replace hm := hm.2 c_2
      refine x_iload_n hC 0 dX1_exists_12 rfl ?_
      refine x_bipush hC (10 : Int32) dX1_exists_13 (by decide) ?_
      refine x_idiv hC dX1_exists_15 (by decide) ?_
      refine x_iconst hC (4 : Int32) dX1_exists_16 (by decide) ?_
      refine x_icmp_ge hC 32 dX1_exists_17 (by decide) (fun c_5 => ?_) (fun c_5 => ?_)
      · replace hm := hm.1 c_5
        refine x_iconst hC (0 : Int32) dX1_exists_32 (by decide) ?_
        exact hR ((0 : Int32)) () [(0, .int p0)] 33 hm rfl dX1_exists_33
      · replace hm := hm.2 c_5
        refine x_iload_n hC 0 dX1_exists_20 rfl ?_
        refine x_bipush hC (10 : Int32) dX1_exists_21 (by decide) ?_
        refine x_irem hC dX1_exists_23 (by decide) ?_
        refine x_iconst hC (1 : Int32) dX1_exists_24 (by decide) ?_
        refine x_icmp_gt hC 32 dX1_exists_25 (by decide) (fun c_6 => ?_) (fun c_6 => ?_)
        · replace hm := hm.1 c_6
          refine x_iconst hC (0 : Int32) dX1_exists_32 (by decide) ?_
          exact hR ((0 : Int32)) () [(0, .int p0)] 33 hm rfl dX1_exists_33
        · replace hm := hm.2 c_6
          refine x_iconst hC (1 : Int32) dX1_exists_28 (by decide) ?_
          refine x_goto hC 33 dX1_exists_29 (by decide) ?_
          exact hR ((1 : Int32)) () [(0, .int p0)] 33 hm rfl dX1_exists_33
  · replace hm := hm.2 c_1
    refine x_iconst hC (0 : Int32) dX1_exists_4 (by decide) ?_
    exact hR ((0 : Int32)) () [(0, .int p0)] 5 hm rfl dX1_exists_5

def wp_X1_maskOf  (p0 : Int32) (post : Int32 → Prop) : Prop := (0 ≤ p0 → (((100 : Int32)) ≤ p0 → wp_X5_put  ((0 : Int32)) ((p0 / ((10 : Int32))) - ((10 : Int32))) ((3 : Int32)) (fun (r_3 : Int32) => post r_3 )) ∧ (¬ ((100 : Int32)) ≤ p0 → wp_X5_make  ((0 : Int32)) (p0 / ((10 : Int32))) ((1 : Int32)) (fun (r_4 : Int32) => post r_4 ))) ∧ (¬ 0 ≤ p0 → post ((0 : Int32)) )
set_option maxHeartbeats 4000000 in
set_option maxRecDepth 100000 in
theorem c_X1_maskOf (l : Launch) (D : va_G) (cI cZ : ClassId)   (p0 : Int32) (post : Int32 → Prop) (hm : wp_X1_maskOf  p0 post) : Mi l D cI cZ yX1_maskOf cX1_maskOf 1 .int 1 23 [.int p0] (([] : va_W)) (S := Unit) (fun _ => ([] : va_W)) (fun r _ => post r ) := by
  refine mk_Mi (by decide +kernel) (Nat.le_of_ble_eq_true rfl) ?_
  intro Γ hl0 hD0 hC hR
  subst hl0
  subst hD0
  have hC : CX Γ cI cZ cX1_maskOf RX1 1 1 23 := hC
  show VV Γ (([] : va_W)) [(0, .int p0)] 0 []
  unfold wp_X1_maskOf at hm
  refine x_iload_n hC 0 dX1_maskOf_0 rfl ?_
  refine x_if_ge hC 6 dX1_maskOf_1 (by decide) (fun c_1 => ?_) (fun c_1 => ?_)
  · replace hm := hm.1 c_1
    refine x_iload_n hC 0 dX1_maskOf_6 rfl ?_
    refine x_bipush hC (100 : Int32) dX1_maskOf_7 (by decide) ?_
    refine x_icmp_ge hC 24 dX1_maskOf_9 (by decide) (fun c_2 => ?_) (fun c_2 => ?_)
    · replace hm := hm.1 c_2
      refine x_iconst hC (0 : Int32) dX1_maskOf_24 (by decide) ?_
      refine x_iload_n hC 0 dX1_maskOf_25 rfl ?_
      refine x_bipush hC (10 : Int32) dX1_maskOf_26 (by decide) ?_
      refine x_idiv hC dX1_maskOf_28 (by decide) ?_
      refine x_bipush hC (10 : Int32) dX1_maskOf_29 (by decide) ?_
      refine x_isub hC dX1_maskOf_31 ?_
      refine x_iconst hC (3 : Int32) dX1_maskOf_32 (by decide) ?_
      refine x_callSi hC _ [] [] [] (([] : va_W)) (fun _ => ([] : va_W)) ok_X5_put ml_X1_24 (c_X5_put (gl Γ) (gD Γ) cI cZ   ((0 : Int32)) ((p0 / ((10 : Int32))) - ((10 : Int32))) ((3 : Int32)) _ hm) (by decide) (by decide) rfl (Nat.le_of_ble_eq_true rfl) rfl rfl rfl rfl (by decide) rfl (fun _ => rfl) rfl dX1_maskOf_33 ?_
      rintro r_3 _ hm
      exact hR r_3 () [(0, .int p0)] 36 hm rfl dX1_maskOf_36
    · replace hm := hm.2 c_2
      refine x_iconst hC (0 : Int32) dX1_maskOf_12 (by decide) ?_
      refine x_iload_n hC 0 dX1_maskOf_13 rfl ?_
      refine x_bipush hC (10 : Int32) dX1_maskOf_14 (by decide) ?_
      refine x_idiv hC dX1_maskOf_16 (by decide) ?_
      refine x_iconst hC (1 : Int32) dX1_maskOf_17 (by decide) ?_
      refine x_callSi hC _ [] [] [] (([] : va_W)) (fun _ => ([] : va_W)) ok_X5_make ml_X1_18 (c_X5_make (gl Γ) (gD Γ) cI cZ   ((0 : Int32)) (p0 / ((10 : Int32))) ((1 : Int32)) _ hm) (by decide) (by decide) rfl (Nat.le_of_ble_eq_true rfl) rfl rfl rfl rfl (by decide) rfl (fun _ => rfl) rfl dX1_maskOf_18 ?_
      rintro r_4 _ hm
      refine x_goto hC 36 dX1_maskOf_21 (by decide) ?_
      exact hR r_4 () [(0, .int p0)] 36 hm rfl dX1_maskOf_36
  · replace hm := hm.2 c_1
    refine x_iconst hC (0 : Int32) dX1_maskOf_4 (by decide) ?_
    exact hR ((0 : Int32)) () [(0, .int p0)] 5 hm rfl dX1_maskOf_5

def wp_X1_valueOf  (p0 : Int32) (post : Int32 → Prop) : Prop := (0 ≤ p0 → (((100 : Int32)) ≤ p0 → wp_X5_put  ((0 : Int32)) ((p0 / ((10 : Int32))) - ((10 : Int32))) (p0 - p0 / ((10 : Int32)) * ((10 : Int32))) (fun (r_3 : Int32) => post r_3 )) ∧ (¬ ((100 : Int32)) ≤ p0 → wp_X5_make  ((0 : Int32)) (p0 / ((10 : Int32))) (p0 - p0 / ((10 : Int32)) * ((10 : Int32))) (fun (r_4 : Int32) => post r_4 ))) ∧ (¬ 0 ≤ p0 → post ((0 : Int32)) )
set_option maxHeartbeats 4000000 in
set_option maxRecDepth 100000 in
theorem c_X1_valueOf (l : Launch) (D : va_G) (cI cZ : ClassId)   (p0 : Int32) (post : Int32 → Prop) (hm : wp_X1_valueOf  p0 post) : Mi l D cI cZ yX1_valueOf cX1_valueOf 1 .int 1 23 [.int p0] (([] : va_W)) (S := Unit) (fun _ => ([] : va_W)) (fun r _ => post r ) := by
  refine mk_Mi (by decide +kernel) (Nat.le_of_ble_eq_true rfl) ?_
  intro Γ hl0 hD0 hC hR
  subst hl0
  subst hD0
  have hC : CX Γ cI cZ cX1_valueOf RX1 1 1 23 := hC
  show VV Γ (([] : va_W)) [(0, .int p0)] 0 []
  unfold wp_X1_valueOf at hm
  refine x_iload_n hC 0 dX1_valueOf_0 rfl ?_
  refine x_if_ge hC 6 dX1_valueOf_1 (by decide) (fun c_1 => ?_) (fun c_1 => ?_)
  · replace hm := hm.1 c_1
    refine x_iload_n hC 0 dX1_valueOf_6 rfl ?_
    refine x_bipush hC (100 : Int32) dX1_valueOf_7 (by decide) ?_
    refine x_icmp_ge hC 27 dX1_valueOf_9 (by decide) (fun c_2 => ?_) (fun c_2 => ?_)
    · replace hm := hm.1 c_2
      refine x_iconst hC (0 : Int32) dX1_valueOf_27 (by decide) ?_
      refine x_iload_n hC 0 dX1_valueOf_28 rfl ?_
      refine x_bipush hC (10 : Int32) dX1_valueOf_29 (by decide) ?_
      refine x_idiv hC dX1_valueOf_31 (by decide) ?_
      refine x_bipush hC (10 : Int32) dX1_valueOf_32 (by decide) ?_
      refine x_isub hC dX1_valueOf_34 ?_
      refine x_iload_n hC 0 dX1_valueOf_35 rfl ?_
      refine x_bipush hC (10 : Int32) dX1_valueOf_36 (by decide) ?_
      refine x_irem hC dX1_valueOf_38 (by decide) ?_
      refine x_callSi hC _ [] [] [] (([] : va_W)) (fun _ => ([] : va_W)) ok_X5_put ml_X1_24 (c_X5_put (gl Γ) (gD Γ) cI cZ   ((0 : Int32)) ((p0 / ((10 : Int32))) - ((10 : Int32))) (p0 - p0 / ((10 : Int32)) * ((10 : Int32))) _ hm) (by decide) (by decide) rfl (Nat.le_of_ble_eq_true rfl) rfl rfl rfl rfl (by decide) rfl (fun _ => rfl) rfl dX1_valueOf_39 ?_
      rintro r_3 _ hm
      exact hR r_3 () [(0, .int p0)] 42 hm rfl dX1_valueOf_42
    · replace hm := hm.2 c_2
      refine x_iconst hC (0 : Int32) dX1_valueOf_12 (by decide) ?_
      refine x_iload_n hC 0 dX1_valueOf_13 rfl ?_
      refine x_bipush hC (10 : Int32) dX1_valueOf_14 (by decide) ?_
      refine x_idiv hC dX1_valueOf_16 (by decide) ?_
      refine x_iload_n hC 0 dX1_valueOf_17 rfl ?_
      refine x_bipush hC (10 : Int32) dX1_valueOf_18 (by decide) ?_
      refine x_irem hC dX1_valueOf_20 (by decide) ?_
      refine x_callSi hC _ [] [] [] (([] : va_W)) (fun _ => ([] : va_W)) ok_X5_make ml_X1_18 (c_X5_make (gl Γ) (gD Γ) cI cZ   ((0 : Int32)) (p0 / ((10 : Int32))) (p0 - p0 / ((10 : Int32)) * ((10 : Int32))) _ hm) (by decide) (by decide) rfl (Nat.le_of_ble_eq_true rfl) rfl rfl rfl rfl (by decide) rfl (fun _ => rfl) rfl dX1_valueOf_21 ?_
      rintro r_4 _ hm
      refine x_goto hC 42 dX1_valueOf_24 (by decide) ?_
      exact hR r_4 () [(0, .int p0)] 42 hm rfl dX1_valueOf_42
  · replace hm := hm.2 c_1
    refine x_iconst hC (0 : Int32) dX1_valueOf_4 (by decide) ?_
    exact hR ((0 : Int32)) () [(0, .int p0)] 5 hm rfl dX1_valueOf_5

def wp_X1_isSo  (p0 : Int32) (p1 : Int32) (post : Int32 → Prop) : Prop := wp_X1_maskOf  p0 (fun (r_1 : Int32) => wp_X1_valueOf  p0 (fun (r_2 : Int32) => (¬ (p1 &&& r_1) = r_2 → post ((0 : Int32)) ) ∧ ((p1 &&& r_1) = r_2 → post ((1 : Int32)) )))
set_option maxHeartbeats 4000000 in
set_option maxRecDepth 100000 in
theorem c_X1_isSo (l : Launch) (D : va_G) (cI cZ : ClassId)   (p0 : Int32) (p1 : Int32) (post : Int32 → Prop) (hm : wp_X1_isSo  p0 p1 post) : Mi l D cI cZ yX1_isSo cX1_isSo 2 .boolean 2 43 [.int p0, .int p1] (([] : va_W)) (S := Unit) (fun _ => ([] : va_W)) (fun r _ => post r ) := by
  refine mk_Mi (by decide +kernel) (Nat.le_of_ble_eq_true rfl) ?_
  intro Γ hl0 hD0 hC hR
  subst hl0
  subst hD0
  have hC : CX Γ cI cZ cX1_isSo RX1 2 2 43 := hC
  show VV Γ (([] : va_W)) [(0, .int p0), (1, .int p1)] 0 []
  unfold wp_X1_isSo at hm
  refine x_iload_n hC 1 dX1_isSo_0 rfl ?_
  refine x_iload_n hC 0 dX1_isSo_1 rfl ?_
  refine x_callSi hC _ [] [] [] (([] : va_W)) (fun _ => ([] : va_W)) ok_X1_maskOf ml_X1_9 (c_X1_maskOf (gl Γ) (gD Γ) cI cZ   p0 _ hm) (by decide) (by decide) rfl (Nat.le_of_ble_eq_true rfl) rfl rfl rfl rfl (by decide) rfl (fun _ => rfl) rfl dX1_isSo_2 ?_
  rintro r_1 _ hm
  refine x_iand hC dX1_isSo_5 ?_
  refine x_iload_n hC 0 dX1_isSo_6 rfl ?_
  refine x_callSi hC _ [] [] [] (([] : va_W)) (fun _ => ([] : va_W)) ok_X1_valueOf ml_X1_15 (c_X1_valueOf (gl Γ) (gD Γ) cI cZ   p0 _ hm) (by decide) (by decide) rfl (Nat.le_of_ble_eq_true rfl) rfl rfl rfl rfl (by decide) rfl (fun _ => rfl) rfl dX1_isSo_7 ?_
  rintro r_2 _ hm
  refine x_icmp_ne hC 17 dX1_isSo_10 (by decide) (fun c_3 => ?_) (fun c_3 => ?_)
  · replace hm := hm.1 c_3
    refine x_iconst hC (0 : Int32) dX1_isSo_17 (by decide) ?_
    exact hR ((0 : Int32)) () [(0, .int p0), (1, .int p1)] 18 hm rfl dX1_isSo_18
  · replace hm := hm.2 c_3
    refine x_iconst hC (1 : Int32) dX1_isSo_13 (by decide) ?_
    refine x_goto hC 18 dX1_isSo_14 (by decide) ?_
    exact hR ((1 : Int32)) () [(0, .int p0), (1, .int p1)] 18 hm rfl dX1_isSo_18
