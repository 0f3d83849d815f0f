def wpL_J7_fill_53178_5 (ar_n : Nat)  (post : (Nat → Int32) → Prop) : Nat → (Nat → Int32) → Int32 → Int32 → Int32 → Prop
  | 0, _, _, _, _ => False
  | n + 1, ar_c_2, x1_3, x2_4, x3_5 => (x3_5 ≤ x2_4 → post ar_c_2) ∧ (¬ x3_5 ≤ x2_4 → vp_in x2_4 ar_n ∧ ∀ ar_c_7 : Nat → Int32, ar_c_7 = upd ar_c_2 x2_4.toNatClampNeg x1_3 → ∀ x2_8 : Int32, x2_8 = x2_4 + (1 : Int32) → (wpL_J7_fill_53178_5 ar_n  post n) ar_c_7 x1_3 x2_8 x3_5)
def wp_J7_fill_53178 (ar_n : Nat) (ar_c : Nat → Int32) (p1 : Int32) (post : (Nat → Int32) → Prop) : Prop := ∀ x3_1 : Int32, x3_1 = Int32.ofNat ar_n → ∃ k5, wpL_J7_fill_53178_5 ar_n  post k5 ar_c p1 ((0 : Int32)) x3_1
set_option maxHeartbeats 4000000 in
set_option maxRecDepth 100000 in
theorem c_J7_fill_53178 (l : Launch) (D : va_G) (cI cZ : ClassId) (ar : Nat) (ar_n : Nat) (ar_c : Nat → Int32) (p1 : Int32) (post : (Nat → Int32) → Prop) (hm : wp_J7_fill_53178 ar_n ar_c p1 post) : Mv l D cI cZ yJ7_fill_53178 cJ7_fill_53178 4 0 0 [.ref ar, .int p1] ([(ar, .inl (cI, ar_n, .inl ar_c))]) (S := (Nat → Int32)) (fun u => [(ar, .inl (cI, ar_n, .inl u))]) (fun u => post u) := by
  refine mk_Mv (by decide +kernel) (Nat.le_of_ble_eq_true rfl) ?_
  intro Γ hl0 hD0 hC hR
  subst hl0
  subst hD0
  have hC : CX Γ cI cZ cJ7_fill_53178 RJ7 4 0 0 := hC
  show VV Γ ([(ar, .inl (cI, ar_n, .inl ar_c))]) [(0, .ref ar), (1, .int p1)] 0 []
  have B_5 : ∀ (n : Nat) (ar_c_2 : Nat → Int32) (x1_3 : Int32) (x2_4 : Int32) (x3_5 : Int32), wpL_J7_fill_53178_5 ar_n  post n ar_c_2 x1_3 x2_4 x3_5 → VV Γ ([(ar, .inl (cI, ar_n, .inl ar_c_2))]) [(0, .ref ar), (1, .int x1_3), (2, .int x2_4), (3, .int x3_5)] 5 [] := by
    intro  n
    induction n with
    | zero => intro ar_c_2 x1_3 x2_4 x3_5 hm; rw [wpL_J7_fill_53178_5] at hm; exact hm.elim
    | succ n ih =>
      intro ar_c_2 x1_3 x2_4 x3_5 hm
      rw [wpL_J7_fill_53178_5] at hm
      refine x_iload_n hC 2 dJ7_fill_53178_5 rfl ?_
      refine x_iload_n hC 3 dJ7_fill_53178_6 rfl ?_
      refine x_icmp_ge hC 20 dJ7_fill_53178_7 (by decide) (fun c_6 => ?_) (fun c_6 => ?_)
      · replace hm := hm.1 c_6
        exact hR ar_c_2 [(0, .ref ar), (1, .int x1_3), (2, .int x2_4), (3, .int x3_5)] 20 hm dJ7_fill_53178_20
      · replace hm := hm.2 c_6
        refine x_aload_n hC 0 dJ7_fill_53178_10 rfl ?_
        refine x_iload_n hC 2 dJ7_fill_53178_11 rfl ?_
        refine x_iload_n hC 1 dJ7_fill_53178_12 rfl ?_
        refine x_iastN hC 0 rfl hm.1 (fun ar_c_7 => [(ar, .inl (cI, ar_n, .inl ar_c_7))]) (fun _ => rfl) dJ7_fill_53178_13 (fun ar_c_7 ear_c_7 => ?_)
        replace hm := hm.2 ar_c_7 ear_c_7
        obtain ⟨x2_8, ex2_8⟩ : ∃ y : Int32, y = x2_4 + (1 : Int32) := ⟨_, rfl⟩
        replace hm := hm x2_8 ex2_8
        refine x_iinc hC 2 x2_8 [(0, .ref ar), (1, .int x1_3), (2, .int x2_8), (3, .int x3_5)] [1, 2, 0, 3] dJ7_fill_53178_14 rfl (by rw [ex2_8]; rfl) (by decide) rfl ?_
        refine x_goto hC 5 dJ7_fill_53178_17 (by decide) ?_
        exact ih ar_c_7 x1_3 x2_8 x3_5 hm
  unfold wp_J7_fill_53178 at hm
  refine x_iconst hC (0 : Int32) dJ7_fill_53178_0 (by decide) ?_
  refine x_istore_n hC [(0, .ref ar), (1, .int p1), (2, .int ((0 : Int32)))] [1, 2, 0] dJ7_fill_53178_1 (by decide) rfl ?_
  refine x_aload_n hC 0 dJ7_fill_53178_2 rfl ?_
  refine x_alen hC 0 rfl rfl dJ7_fill_53178_3 ?_
  refine x_top (fun x3_1 ex3_1 => ?_)
  replace hm := hm x3_1 ex3_1
  refine x_istore_n hC [(0, .ref ar), (1, .int p1), (2, .int ((0 : Int32))), (3, .int x3_1)] [1, 2, 3, 0] dJ7_fill_53178_4 (by decide) rfl ?_
  obtain ⟨n_9, hm⟩ := hm
  exact B_5  n_9 ar_c p1 ((0 : Int32)) x3_1 hm

def wp_J6_bitCount_0f7a4  (p0 : Int32) (post : Int32 → Prop) : Prop := ∀ x0_1 : Int32, x0_1 = p0 - (((p0.toUInt32 >>> (((1 : Int32)).toUInt32 &&& Int32.toUInt32 31)).toInt32) &&& ((1431655765 : Int32))) → ∀ x0_2 : Int32, x0_2 = (x0_1 &&& ((858993459 : Int32))) + (((x0_1.toUInt32 >>> (((2 : Int32)).toUInt32 &&& Int32.toUInt32 31)).toInt32) &&& ((858993459 : Int32))) → ∀ x0_3 : Int32, x0_3 = (x0_2 + ((x0_2.toUInt32 >>> (((4 : Int32)).toUInt32 &&& Int32.toUInt32 31)).toInt32)) &&& ((252645135 : Int32)) → ∀ x0_4 : Int32, x0_4 = x0_3 + ((x0_3.toUInt32 >>> (((8 : Int32)).toUInt32 &&& Int32.toUInt32 31)).toInt32) → ∀ x0_5 : Int32, x0_5 = x0_4 + ((x0_4.toUInt32 >>> (((16 : Int32)).toUInt32 &&& Int32.toUInt32 31)).toInt32) → post (x0_5 &&& ((63 : Int32))) 
set_option maxHeartbeats 4000000 in
set_option maxRecDepth 100000 in
theorem c_J6_bitCount_0f7a4 (l : Launch) (D : va_G) (cI cZ : ClassId)   (p0 : Int32) (post : Int32 → Prop) (hm : wp_J6_bitCount_0f7a4  p0 post) : Mi l D cI cZ yJ6_bitCount_0f7a4 cJ6_bitCount_0f7a4 1 .int 0 0 [.int p0] (([] : va_W)) (S := Unit) (fun _ => ([] : va_W)) (fun r _ => post r ) := by
  refine mk_Mi (by decide +kernel) (Nat.le_of_ble_eq_true rfl) ?_
  intro Γ hl0 hD0 hC hR
  subst hl0
  subst hD0
  have hC : CX Γ cI cZ cJ6_bitCount_0f7a4 RJ6 1 0 0 := hC
  show VV Γ (([] : va_W)) [(0, .int p0)] 0 []
  unfold wp_J6_bitCount_0f7a4 at hm
  refine x_iload_n hC 0 dJ6_bitCount_0f7a4_0 rfl ?_
  refine x_iload_n hC 0 dJ6_bitCount_0f7a4_1 rfl ?_
  refine x_iconst hC (1 : Int32) dJ6_bitCount_0f7a4_2 (by decide) ?_
  refine x_iushr hC dJ6_bitCount_0f7a4_3 ?_
  refine x_ldcw hC kc_J6_265 dJ6_bitCount_0f7a4_4 ?_
  refine x_iand hC dJ6_bitCount_0f7a4_7 ?_
  refine x_isub hC dJ6_bitCount_0f7a4_8 ?_
  refine x_top (fun x0_1 ex0_1 => ?_)
  replace hm := hm x0_1 ex0_1
  refine x_istore_n hC [(0, .int x0_1)] [0] dJ6_bitCount_0f7a4_9 (by decide) rfl ?_
  refine x_iload_n hC 0 dJ6_bitCount_0f7a4_10 rfl ?_
  refine x_ldcw hC kc_J6_266 dJ6_bitCount_0f7a4_11 ?_
  refine x_iand hC dJ6_bitCount_0f7a4_14 ?_
  refine x_iload_n hC 0 dJ6_bitCount_0f7a4_15 rfl ?_
  refine x_iconst hC (2 : Int32) dJ6_bitCount_0f7a4_16 (by decide) ?_
  refine x_iushr hC dJ6_bitCount_0f7a4_17 ?_
  refine x_ldcw hC kc_J6_266 dJ6_bitCount_0f7a4_18 ?_
  refine x_iand hC dJ6_bitCount_0f7a4_21 ?_
  refine x_iadd hC dJ6_bitCount_0f7a4_22 ?_
  refine x_top (fun x0_2 ex0_2 => ?_)
  replace hm := hm x0_2 ex0_2
  refine x_istore_n hC [(0, .int x0_2)] [0] dJ6_bitCount_0f7a4_23 (by decide) rfl ?_
  refine x_iload_n hC 0 dJ6_bitCount_0f7a4_24 rfl ?_
  refine x_iload_n hC 0 dJ6_bitCount_0f7a4_25 rfl ?_
  refine x_iconst hC (4 : Int32) dJ6_bitCount_0f7a4_26 (by decide) ?_
  refine x_iushr hC dJ6_bitCount_0f7a4_27 ?_
  refine x_iadd hC dJ6_bitCount_0f7a4_28 ?_
  refine x_ldcw hC kc_J6_267 dJ6_bitCount_0f7a4_29 ?_
  refine x_iand hC dJ6_bitCount_0f7a4_32 ?_
  refine x_top (fun x0_3 ex0_3 => ?_)
  replace hm := hm x0_3 ex0_3
  refine x_istore_n hC [(0, .int x0_3)] [0] dJ6_bitCount_0f7a4_33 (by decide) rfl ?_
  refine x_iload_n hC 0 dJ6_bitCount_0f7a4_34 rfl ?_
  refine x_iload_n hC 0 dJ6_bitCount_0f7a4_35 rfl ?_
  refine x_bipush hC (8 : Int32) dJ6_bitCount_0f7a4_36 (by decide) ?_
  refine x_iushr hC dJ6_bitCount_0f7a4_38 ?_
  refine x_iadd hC dJ6_bitCount_0f7a4_39 ?_
  refine x_top (fun x0_4 ex0_4 => ?_)
  replace hm := hm x0_4 ex0_4
  refine x_istore_n hC [(0, .int x0_4)] [0] dJ6_bitCount_0f7a4_40 (by decide) rfl ?_
  refine x_iload_n hC 0 dJ6_bitCount_0f7a4_41 rfl ?_
  refine x_iload_n hC 0 dJ6_bitCount_0f7a4_42 rfl ?_
  refine x_bipush hC (16 : Int32) dJ6_bitCount_0f7a4_43 (by decide) ?_
  refine x_iushr hC dJ6_bitCount_0f7a4_45 ?_
  refine x_iadd hC dJ6_bitCount_0f7a4_46 ?_
  refine x_top (fun x0_5 ex0_5 => ?_)
  replace hm := hm x0_5 ex0_5
  refine x_istore_n hC [(0, .int x0_5)] [0] dJ6_bitCount_0f7a4_47 (by decide) rfl ?_
  refine x_iload_n hC 0 dJ6_bitCount_0f7a4_48 rfl ?_
  refine x_bipush hC (63 : Int32) dJ6_bitCount_0f7a4_49 (by decide) ?_
  refine x_iand hC dJ6_bitCount_0f7a4_51 ?_
  exact hR (x0_5 &&& ((63 : Int32))) () [(0, .int x0_5)] 52 hm rfl dJ6_bitCount_0f7a4_52
