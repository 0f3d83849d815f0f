theorem fm_ctail {A : Nat → Int32} {l : Int32} {T : Nat → Nat} {n : Nat} (hT : TX A l T n) {q k : Nat} (hq : q ≤ n) (hk : k ≤ 20) {parts : Nat → Int32} {r : Int32} {post : (Nat → Int32) → Int32 → Int32 → Prop} (h : ∀ pa q, q ≤ n → post pa (nI q) (ffI (some k))) : (¬ r = (61 : Int32) → wp_X6_readNumber A l (nI q) (ffI (some k)) 0 3 (fun (r_8 : Int32) (tx_place_6 : Int32) (tx_firstFault_7 : Int32) => wp_X6_readPlusOrMinus A l tx_place_6 tx_firstFault_7 (fun (r_11 : Int32) (tx_place_9 : Int32) (tx_firstFault_10 : Int32) => vp_in ((5 : Int32)) 6 ∧ ∀ tx_parts_12 : Nat → Int32, tx_parts_12 = upd parts ((5 : Int32)).toNatClampNeg ((((10 : Int32)) * r_8) + r_11) → post tx_parts_12 tx_place_9 tx_firstFault_10))) ∧ (r = (61 : Int32) → wp_X6_readSign A l (nI q) (ffI (some k)) ((61 : Int32)) (fun (tx_place_13 : Int32) (tx_firstFault_14 : Int32) => wp_X6_readNumber A l tx_place_13 tx_firstFault_14 ((0 : Int32)) ((4 : Int32)) (fun (r_17 : Int32) (tx_place_15 : Int32) (tx_firstFault_16 : Int32) => wp_X6_readSign A l tx_place_15 tx_firstFault_16 ((44 : Int32)) (fun (tx_place_18 : Int32) (tx_firstFault_19 : Int32) => wp_X6_readNumber A l tx_place_18 tx_firstFault_19 ((0 : Int32)) ((3 : Int32)) (fun (r_22 : Int32) (tx_place_20 : Int32) (tx_firstFault_21 : Int32) => vp_in ((5 : Int32)) 6 ∧ ∀ tx_parts_23 : Nat → Int32, tx_parts_23 = upd parts ((5 : Int32)).toNatClampNeg ((((100 : Int32)) + (((10 : Int32)) * r_17)) + r_22) → post tx_parts_23 tx_place_20 tx_firstFault_21))))) :=
  ⟨fun _ => fm_num hT hq hk (lo := 0) (hi := 3) (by decide) (by decide) rfl rfl (fun r q2 hq2 => fm_pm hT hq2 hk (fun r q3 hq3 => ⟨pk_in 5 6 (by decide), nm_e (h _ q3 hq3)⟩)), fun _ => fm_sign hT hq hk (c := 61) (by decide) rfl (fun q2 hq2 => fm_num hT hq2 hk (lo := 0) (hi := 4) (by decide) (by decide) rfl rfl (fun r q3 hq3 => fm_sign hT hq3 hk (c := 44) (by decide) rfl (fun q4 hq4 => fm_num hT hq4 hk (lo := 0) (hi := 3) (by decide) (by decide) rfl rfl (fun r q5 hq5 => ⟨pk_in 5 6 (by decide), nm_e (h _ q5 hq5)⟩))))⟩
theorem w_h1 (a b : Nat) : ((10 : Int32) * nI a) + nI b = nI (10 * a + b) := by
  rw [show (10 : Int32) * nI a = nI (10 * a) from pk_mul 10 a, nI_add]
theorem w_h2 (a b : Nat) : ((100 : Int32) + ((10 : Int32) * nI a)) + nI b = nI (100 + 10 * a + b) := by
  rw [show (10 : Int32) * nI a = nI (10 * a) from pk_mul 10 a, show (100 : Int32) = nI 100 from rfl, nI_add, nI_add]
theorem sp_cond {A : Nat → Int32} {l : Int32} {T : Nat → Nat} {n : Nat} (hT : TX A l T n) {p : Nat} (hp : p ≤ n) {parts : Nat → Int32} {post : (Nat → Int32) → Int32 → Int32 → Prop} (hend : p = n → post parts (nI p) (ffI none)) (hok : p ≠ n → ∀ g q, hcN T n p = .inr (g, q) → q ≤ n → post (upd parts 5 (nI g)) (nI q) (ffI none)) (hbad : p ≠ n → ∀ k, hcN T n p = .inl k → k ≤ 20 → ∀ pa q, q ≤ n → post pa (nI q) (ffI (some k))) : wp_X6_readCondition A l parts (nI p) (ffI none) post := by
  have hn := hT.1
  unfold wp_X6_readCondition
  refine pk_lt p n (fun w => ?_) (fun w => hend (by omega)) rfl hT.2.1
  have hok := hok (by omega)
  have hbad := hbad (by omega)
  refine sp_readSign hT hp rfl okO_none (c := 63) (by decide) rfl (fun q1 e1 => ?_) (fun k e1 => ?_)
  case refine_2 =>
    have hk := sg_bad e1
    have HB := hbad k (by unfold hcN; exact bnd_l e1 _) (by omega)
    exact sp_next hT hp rfl (fun _ => fm_ctail hT hp (by omega) HB) (fun _ => fm_ctail hT hp (by omega) HB)
  have hq1 : q1 ≤ n := by have := sg_ok e1; omega
  have pre : hcN T n p = if q1 < n ∧ T q1 = 61 then bnd (numN T n (q1 + 1) 0 4) fun r1 => bnd (sgN T n r1.2 44) fun p3 => bnd (numN T n p3 0 3) fun r2 => .inr (100 + 10 * r1.1 + r2.1, r2.2) else bnd (numN T n q1 0 3) fun r1 => bnd (pmN T n r1.2) fun r2 => .inr (10 * r1.1 + r2.1, r2.2) := by
    unfold hcN; rw [bnd_r e1]
  have thing : ¬ (q1 < n ∧ T q1 = 61) → wp_X6_readNumber A l (nI q1) (ffI none) 0 3 (fun (r_8 : Int32) (tx_place_6 : Int32) (tx_firstFault_7 : Int32) => wp_X6_readPlusOrMinus A l tx_place_6 tx_firstFault_7 (fun (r_11 : Int32) (tx_place_9 : Int32) (tx_firstFault_10 : Int32) => vp_in ((5 : Int32)) 6 ∧ ∀ tx_parts_12 : Nat → Int32, tx_parts_12 = upd parts ((5 : Int32)).toNatClampNeg ((((10 : Int32)) * r_8) + r_11) → post tx_parts_12 tx_place_9 tx_firstFault_10)) := by
    intro hne
    rw [if_neg hne] at pre
    refine sp_readNumber hT hq1 rfl okO_none (lo := 0) (hi := 3) (by decide) (by decide) rfl rfl (fun a q2 e2 => ?_) (fun k e2 r q hq => ?_)
    · rw [bnd_r e2] at pre
      have h2 := num_ok e2
      refine sp_readPM hT h2.2.2.1 rfl okO_none (fun d q3 e3 => ⟨pk_in 5 6 (by decide), nm_e ?_⟩) (fun k e3 => ⟨pk_in 5 6 (by decide), nm_e ?_⟩)
      · rw [cl5, w_h1]
        exact hok _ q3 (by rw [pre]; exact bnd_r e3 _) (pm_ok e3).2
      · have hk := pm_bad e3
        exact hbad k (by rw [pre]; exact bnd_l e3 _) (by omega) _ _ h2.2.2.1
    · have hk := num_bad hq1 e2
      have HB := hbad k (by rw [pre]; exact bnd_l e2 _) (by omega)
      exact fm_pm hT hq (by omega) (fun r q3 hq3 => ⟨pk_in 5 6 (by decide), nm_e (HB _ q3 hq3)⟩)
  refine sp_next hT hq1 rfl (fun w1 => ⟨fun _ => thing (by omega), fun z => absurd z (by decide)⟩) (fun w1 => ?_)
  have hb := (hT.2.2 q1 w1).2
  refine pk_eq' (T q1) 61 (fun w2 => thing (fun z => w2 z.2)) (fun w2 => ?_)
  rw [if_pos ⟨w1, w2⟩] at pre
  refine sp_readSign hT hq1 rfl okO_none (c := 61) (by decide) rfl (fun q2 e2 => ?_) (fun k e2 => absurd ⟨w1, w2⟩ (sg_bad e2).2)
  obtain ⟨rfl, -, -⟩ := sg_ok e2
  have hq2 : q1 + 1 ≤ n := by omega
  refine sp_readNumber hT hq2 rfl okO_none (lo := 0) (hi := 4) (by decide) (by decide) rfl rfl (fun a q3 e3 => ?_) (fun k e3 r q hq => ?_)
  case refine_2 =>
    have hk := num_bad hq2 e3
    have HB := hbad k (by rw [pre]; exact bnd_l e3 _) (by omega)
    exact fm_sign hT hq (by omega) (c := 44) (by decide) rfl (fun q4 hq4 => fm_num hT hq4 (by omega) (lo := 0) (hi := 3) (by decide) (by decide) rfl rfl (fun r q5 hq5 => ⟨pk_in 5 6 (by decide), nm_e (HB _ q5 hq5)⟩))
  have h3 := num_ok e3
  rw [bnd_r e3] at pre
  refine sp_readSign hT h3.2.2.1 rfl okO_none (c := 44) (by decide) rfl (fun q4 e4 => ?_) (fun k e4 => ?_)
  case refine_2 =>
    have hk := sg_bad e4
    have HB := hbad k (by rw [pre]; exact bnd_l e4 _) (by omega)
    exact fm_num hT h3.2.2.1 (by omega) (lo := 0) (hi := 3) (by decide) (by decide) rfl rfl (fun r q5 hq5 => ⟨pk_in 5 6 (by decide), nm_e (HB _ q5 hq5)⟩)
  have hq4 : q4 ≤ n := by have := sg_ok e4; omega
  rw [bnd_r e4] at pre
  refine sp_readNumber hT hq4 rfl okO_none (lo := 0) (hi := 3) (by decide) (by decide) rfl rfl (fun b q5 e5 => ⟨pk_in 5 6 (by decide), nm_e ?_⟩) (fun k e5 r q hq => ⟨pk_in 5 6 (by decide), nm_e ?_⟩)
  · rw [cl5, w_h2]
    exact hok _ q5 (by rw [pre]; exact bnd_r e5 _) (num_ok e5).2.2.1
  · have hk := num_bad hq4 e5
    exact hbad k (by rw [pre]; exact bnd_l e5 _) (by omega) _ _ hq
def P6 (pa : Nat → Int32) (t : Int32 × Int32 × Int32 × Int32 × Int32) (g : Int32) : Prop := pa 0 = t.1 ∧ pa 1 = t.2.1 ∧ pa 2 = t.2.2.1 ∧ pa 3 = t.2.2.2.1 ∧ pa 4 = t.2.2.2.2 ∧ pa 5 = g
theorem sp_tail_ok {A : Nat → Int32} {l : Int32} {T : Nat → Nat} {n : Nat} (hT : TX A l T n) {q : Nat} (hq : q ≤ n) {pa : Nat → Int32} {t : Int32 × Int32 × Int32 × Int32 × Int32} (hP : P6 pa t (-9)) (hd : hdN T n = .inr (t, q)) {post : Int32 → (Nat → Int32) → Int32 → Int32 → Prop} (hok : ∀ t g, rdN T n = .inr (t, g) → ∀ pa pl, P6 pa t g → post (-9) pa pl (-9)) (hbad : ∀ k, rdN T n = .inl k → k ≤ 20 → ∀ pa pl, post (nI k) pa pl (nI k)) : wp_X6_readCondition A l pa (nI q) (ffI none) (fun parts place ff => (l ≤ place → post ff parts place ff) ∧ (¬ l ≤ place → wp_X6_failAt ff place (fun f => post f parts place f))) := by
  have hn := hT.1
  have pre : rdN T n = if q = n then .inr (t, -9) else bnd (hcN T n q) fun h => if h.2 = n then .inr (t, nI h.1) else .inl h.2 := by
    unfold rdN; rw [bnd_r hd]
  refine sp_cond hT hq (fun w => ?_) (fun w g q2 e2 hq2 => ?_) (fun w k e2 hk pa2 q2 hq2 => ?_)
  · rw [if_pos w] at pre
    exact pk_le n q (fun _ => hok _ _ pre _ _ hP) (fun z => by omega) hT.2.1
  · rw [if_neg w, bnd_r e2] at pre
    refine pk_le n q2 (fun w2 => ?_) (fun w2 => ?_) hT.2.1
    · have pre2 : rdN T n = .inr (t, nI g) := by rw [pre]; exact if_pos (by show q2 = n; omega)
      refine hok _ _ pre2 _ _ ?_
      obtain ⟨g0, g1, g2, g3, g4, g5⟩ := hP
      refine ⟨?_, ?_, ?_, ?_, ?_, pk_us⟩
      · rw [pk_un (by decide)]; exact g0
      · rw [pk_un (by decide)]; exact g1
      · rw [pk_un (by decide)]; exact g2
      · rw [pk_un (by decide)]; exact g3
      · rw [pk_un (by decide)]; exact g4
    · have pre2 : rdN T n = .inl q2 := by rw [pre]; exact if_neg (by show ¬ q2 = n; omega)
      exact sp_failAt okO_none rfl (hbad q2 pre2 (by omega) _ _)
  · rw [if_neg w, bnd_l e2] at pre
    have h := hbad k pre hk
    refine ⟨fun _ => h _ _, fun _ => sp_failAt (okO_some hk) rfl (h _ _)⟩
theorem sp_tail_bad {A : Nat → Int32} {l : Int32} {T : Nat → Nat} {n : Nat} (hT : TX A l T n) {q k : Nat} (hq : q ≤ n) (hk : k ≤ 20) {pa : Nat → Int32} (hd : hdN T n = .inl k) {post : Int32 → (Nat → Int32) → Int32 → Int32 → Prop} (hbad : ∀ k, rdN T n = .inl k → k ≤ 20 → ∀ pa pl, post (nI k) pa pl (nI k)) : wp_X6_readCondition A l pa (nI q) (ffI (some k)) (fun parts place ff => (l ≤ place → post ff parts place ff) ∧ (¬ l ≤ place → wp_X6_failAt ff place (fun f => post f parts place f))) := by
  have pre : rdN T n = .inl k := by unfold rdN; exact bnd_l hd _
  have h := hbad k pre hk
  exact fm_cond hT hq hk (fun pa2 q2 hq2 => ⟨fun _ => h _ _, fun _ => sp_failAt (okO_some hk) rfl (h _ _)⟩)
theorem sp_read {A : Nat → Int32} {l : Int32} {T : Nat → Nat} {n : Nat} (hT : TX A l T n) {parts : Nat → Int32} {pl ff : Int32} {post : Int32 → (Nat → Int32) → Int32 → Int32 → Prop} (hok : ∀ t g, rdN T n = .inr (t, g) → ∀ pa pl, P6 pa t g → post (-9) pa pl (-9)) (hbad : ∀ k, rdN T n = .inl k → k ≤ 20 → ∀ pa pl, post (nI k) pa pl (nI k)) : wp_X6_read A l parts pl ff post := by
  have hn := hT.1
  unfold wp_X6_read
  refine sp_fill (by decide) ?_
  have hpj : ∀ j, j < 6 → (fun j => if j < 6 then (-9 : Int32) else parts j) j = -9 := fun j hj => if_pos hj
  generalize (fun j => if j < 6 then (-9 : Int32) else parts j) = P0 at hpj
  unfold wp_X6_readLetter wpJ_X6_readLetter_115
  have bad0 : ¬ (0 < n ∧ (T 0 = 67 ∨ T 0 = 83 ∨ T 0 = 68 ∨ T 0 = 66 ∨ T 0 = 86)) → wp_X6_failAt (-9) 0 (fun (f : Int32) => wp_X6_readNumbers A l P0 0 f (fun (tx_parts_5 : Nat → Int32) (tx_place_6 : Int32) (tx_firstFault_7 : Int32) => wp_X6_readCondition A l tx_parts_5 tx_place_6 tx_firstFault_7 (fun (tx_parts_8 : Nat → Int32) (tx_place_9 : Int32) (tx_firstFault_10 : Int32) => (l ≤ tx_place_9 → post tx_firstFault_10 tx_parts_8 tx_place_9 tx_firstFault_10) ∧ (¬ l ≤ tx_place_9 → wp_X6_failAt tx_firstFault_10 tx_place_9 (fun (tx_firstFault_12 : Int32) => post tx_firstFault_12 tx_parts_8 tx_place_9 tx_firstFault_12))))) := by
    intro hne
    have hd : hdN T n = .inl 0 := by
      unfold hdN
      rw [if_neg (fun z => hne ⟨z.1, Or.inl z.2⟩), if_neg (fun z => hne ⟨z.1, Or.inr (Or.inl z.2)⟩), if_neg (fun z => hne ⟨z.1, Or.inr (Or.inr (Or.inl z.2))⟩), if_neg (fun z => hne ⟨z.1, Or.inr (Or.inr (Or.inr (Or.inl z.2)))⟩), if_neg (fun z => hne ⟨z.1, Or.inr (Or.inr (Or.inr (Or.inr z.2)))⟩)]
    refine sp_failAt okO_none (p := 0) rfl ?_
    exact fm_nums hT (Nat.zero_le n) (by decide) (fun pa q hq => sp_tail_bad hT hq (by decide) hd hbad)
  refine sp_next hT (Nat.zero_le n) rfl (fun w => ?_) (fun w => ?_)
  · exact ⟨fun z => absurd z (by decide), fun _ => ⟨fun z => absurd z (by decide), fun _ => ⟨fun z => absurd z (by decide), fun _ => ⟨fun z => absurd z (by decide), fun _ => ⟨fun z => absurd z (by decide), fun _ => bad0 (by omega)⟩⟩⟩⟩⟩
  have hb := (hT.2.2 0 w).2
  have h1 : ∀ (v : Int32) (j : Nat), 1 ≤ j → j < 6 → (upd P0 0 v) j = -9 := fun v j h1 h2 => by rw [pk_un (by omega)]; exact hpj j h2
  rw [cl0]
  refine pk_eq (T 0) 66 (fun w2 => ⟨pk_in 0 6 (by decide), nm_e (nm_r (nI_1 0) ?_)⟩) (fun n1 => pk_eq (T 0) 67 (fun w2 => ⟨pk_in 0 6 (by decide), nm_e (nm_r (nI_1 0) ?_)⟩) (fun n2 => pk_eq (T 0) 68 (fun w2 => ⟨pk_in 0 6 (by decide), nm_e (nm_r (nI_1 0) ?_)⟩) (fun n3 => pk_eq (T 0) 83 (fun w2 => ⟨pk_in 0 6 (by decide), nm_e (nm_r (nI_1 0) ?_)⟩) (fun n4 => pk_eq (T 0) 86 (fun w2 => ⟨pk_in 0 6 (by decide), nm_e (nm_r (nI_1 0) ?_)⟩) (fun n5 => bad0 (by omega))))))
  · have pre : hdN T n = bnd (numsB T n 1) fun r => .inr ((3, r.1), r.2) := by unfold hdN; rw [if_neg (by omega), if_neg (by omega), if_neg (by omega), if_pos ⟨w, w2⟩]
    refine sp_numsB hT (by omega) pk_us rfl (h1 _) (fun r q e hq pa g0 g1 g2 g3 g4 g5 => ?_) (fun k e hk pa q hq => ?_)
    · rw [bnd_r e] at pre
      exact sp_tail_ok hT hq ⟨g0, g1, g2, g3, g4, g5⟩ pre hok hbad
    · rw [bnd_l e] at pre
      exact sp_tail_bad hT hq hk pre hbad
  · have pre : hdN T n = bnd (numsC T n 1) fun r => .inr ((0, r.1), r.2) := by unfold hdN; rw [if_pos ⟨w, w2⟩]
    refine sp_numsC hT (by omega) pk_us (by decide) (by decide) (by decide) (h1 _) (fun r q e hq pa g0 g1 g2 g3 g4 g5 => ?_) (fun k e hk pa q hq => ?_)
    · rw [bnd_r e] at pre
      exact sp_tail_ok hT hq ⟨g0, g1, g2, g3, g4, g5⟩ pre hok hbad
    · rw [bnd_l e] at pre
      exact sp_tail_bad hT hq hk pre hbad
  · have pre : hdN T n = bnd (numsD T n 1) fun r => .inr ((2, r.1), r.2) := by unfold hdN; rw [if_neg (by omega), if_neg (by omega), if_pos ⟨w, w2⟩]
    refine sp_numsD hT (by omega) pk_us rfl (h1 _) (fun r q e hq pa g0 g1 g2 g3 g4 g5 => ?_) (fun k e hk pa q hq => ?_)
    · rw [bnd_r e] at pre
      exact sp_tail_ok hT hq ⟨g0, g1, g2, g3, g4, g5⟩ pre hok hbad
    · rw [bnd_l e] at pre
      exact sp_tail_bad hT hq hk pre hbad
  · have pre : hdN T n = bnd (numsC T n 1) fun r => .inr ((1, r.1), r.2) := by unfold hdN; rw [if_neg (by omega), if_pos ⟨w, w2⟩]
    refine sp_numsC hT (by omega) pk_us (by decide) (by decide) (by decide) (h1 _) (fun r q e hq pa g0 g1 g2 g3 g4 g5 => ?_) (fun k e hk pa q hq => ?_)
    · rw [bnd_r e] at pre
      exact sp_tail_ok hT hq ⟨g0, g1, g2, g3, g4, g5⟩ pre hok hbad
    · rw [bnd_l e] at pre
      exact sp_tail_bad hT hq hk pre hbad
  · have pre : hdN T n = bnd (numsV T n 1) fun r => .inr ((4, r.1), r.2) := by unfold hdN; rw [if_neg (by omega), if_neg (by omega), if_neg (by omega), if_neg (by omega), if_pos ⟨w, w2⟩]
    refine sp_numsV hT (by omega) pk_us rfl (h1 _) (fun r q e hq pa g0 g1 g2 g3 g4 g5 => ?_) (fun k e hk pa q hq => ?_)
    · rw [bnd_r e] at pre
      exact sp_tail_ok hT hq ⟨g0, g1, g2, g3, g4, g5⟩ pre hok hbad
    · rw [bnd_l e] at pre
      exact sp_tail_bad hT hq hk pre hbad
