theorem sp8_headC {A : Nat → Int32} {l : Int32} {T : Nat → Nat} {n : Nat} (hT : TX A l T n) {p : Nat} (hp : p ≤ n) {L : Int32} (n9 : ¬ L = -9) (n3 : ¬ L = 3) (n4 : ¬ L = 4) (n2 : ¬ L = 2) {le fi se th si ha : Int32} {post : Int32 → Int32 → Int32 → Int32 → Int32 → Int32 → Int32 → Int32 → Prop} (hok : ∀ r q, numsC T n p = .inr (r, q) → q ≤ n → post 1 (nI q) L r.1 r.2.1 r.2.2.1 r.2.2.2 (-9)) (hbad : ∀ k, numsC T n p = .inl k → k ≤ 20 → ∀ a b c d e f, post 0 (nI k) a b c d e f) : wpJ_X8_readHead_68 A l post (nI p) le fi se th si ha L := by
  have hn := hT.1
  unfold wpJ_X8_readHead_68
  refine ⟨fun _ => ⟨fun _ => ?_, fun z => absurd z n3⟩, fun z => absurd z n9⟩
  refine sp8_number hT hp rfl (lo := 0) (hi := 2) (by decide) (by decide) rfl rfl (fun a q1 e1 => ?_) (fun k e1 => ?_)
  case refine_2 =>
    have hk := num_bad hp e1
    exact ⟨fun _ => hbad k (by unfold numsC; exact bnd_l e1 _) (by omega) _ _ _ _ _ _, fun z => absurd (by decide) z⟩
  have hq1 := num_ok e1
  have pre : numsC T n p = bnd (sgN T n q1 44) fun p2 => bnd (numN T n p2 1 99) fun r2 => bnd (sgN T n r2.2 44) fun p4 => bnd (numN T n p4 0 4) fun r3 => .inr ((nI a, nI r2.1, nI r3.1, -9), r3.2) := by
    unfold numsC; rw [bnd_r e1]
  refine ⟨fun z => absurd z (nI_pos (by omega)), fun _ => ?_⟩
  refine sp8_sign hT hq1.2.2.1 rfl (c := 44) (by decide) rfl (fun q2 e2 => y1 ?_) (fun k e2 => y0 ?_)
  case refine_2 =>
    have hk := sg_bad e2
    exact hbad k (by rw [pre]; exact bnd_l e2 _) (by omega) _ _ _ _ _ _
  have hq2 : q2 ≤ n := by have := sg_ok e2; omega
  rw [bnd_r e2] at pre
  refine ⟨fun _ => ?_, fun z => absurd z n4⟩
  refine sp8_number hT hq2 rfl (lo := 1) (hi := 99) (by decide) (by decide) rfl rfl (fun b q3 e3 => ?_) (fun k e3 => ?_)
  case refine_2 =>
    have hk := num_bad hq2 e3
    unfold wpJ_X8_readHead_196
    exact ⟨fun _ => hbad k (by rw [pre]; exact bnd_l e3 _) (by omega) _ _ _ _ _ _, fun z => absurd (by decide) z⟩
  have hq3 := num_ok e3
  rw [bnd_r e3] at pre
  unfold wpJ_X8_readHead_196
  refine ⟨fun z => absurd z (nI_pos (by omega)), fun _ => ?_⟩
  refine sp8_sign hT hq3.2.2.1 rfl (c := 44) (by decide) rfl (fun q4 e4 => y1 ?_) (fun k e4 => y0 ?_)
  case refine_2 =>
    have hk := sg_bad e4
    exact hbad k (by rw [pre]; exact bnd_l e4 _) (by omega) _ _ _ _ _ _
  have hq4 : q4 ≤ n := by have := sg_ok e4; omega
  replace pre : numsC T n p = bnd (numN T n q4 0 4) fun r3 => .inr ((nI a, nI b, nI r3.1, -9), r3.2) := by rw [pre]; exact bnd_r e4 _
  refine ⟨fun _ => ⟨fun _ => ?_, fun z => absurd z n2⟩, fun z => absurd z n4⟩
  unfold wpJ_X8_readHead_251
  refine sp8_number hT hq4 rfl (lo := 0) (hi := 4) (by decide) (by decide) rfl rfl (fun c q5 e5 => ?_) (fun k e5 => ?_)
  case refine_2 =>
    have hk := num_bad hq4 e5
    unfold wpJ_X8_readHead_254
    exact ⟨fun z => absurd z (by decide), fun _ => hbad k (by rw [pre]; exact bnd_l e5 _) (by omega) _ _ _ _ _ _⟩
  have hq5 := num_ok e5
  rw [bnd_r e5] at pre
  unfold wpJ_X8_readHead_254
  refine ⟨fun _ => ⟨fun _ => ?_, fun z => absurd z n2⟩, fun z => absurd (nI_pos' (by omega)) z⟩
  unfold wpJ_X8_readHead_284
  exact ⟨fun _ => hok _ q5 pre hq5.2.2.1, fun z => absurd z n2⟩
theorem sp8_headD {A : Nat → Int32} {l : Int32} {T : Nat → Nat} {n : Nat} (hT : TX A l T n) {p : Nat} (hp : p ≤ n) {le fi se th si ha : Int32} {post : Int32 → Int32 → Int32 → Int32 → Int32 → Int32 → Int32 → Int32 → Prop} (hok : ∀ r q, numsD T n p = .inr (r, q) → q ≤ n → post 1 (nI q) 2 r.1 r.2.1 r.2.2.1 r.2.2.2 (-9)) (hbad : ∀ k, numsD T n p = .inl k → k ≤ 20 → ∀ a b c d e f, post 0 (nI k) a b c d e f) : wpJ_X8_readHead_68 A l post (nI p) le fi se th si ha 2 := by
  have hn := hT.1
  unfold wpJ_X8_readHead_68
  refine ⟨fun _ => ⟨fun _ => ?_, fun z => absurd z (by decide)⟩, fun z => absurd z (by decide)⟩
  refine sp8_number hT hp rfl (lo := 0) (hi := 2) (by decide) (by decide) rfl rfl (fun a q1 e1 => ?_) (fun k e1 => ?_)
  case refine_2 =>
    have hk := num_bad hp e1
    exact ⟨fun _ => hbad k (by unfold numsD; exact bnd_l e1 _) (by omega) _ _ _ _ _ _, fun z => absurd (by decide) z⟩
  have hq1 := num_ok e1
  have pre : numsD T n p = bnd (sgN T n q1 44) fun p2 => bnd (numN T n p2 1 99) fun r2 => bnd (sgN T n r2.2 44) fun p4 => bnd (numN T n p4 0 3) fun r3 => bnd (pmN T n r3.2) fun r4 => .inr ((nI a, nI r2.1, nI r3.1, nI r4.1), r4.2) := by
    unfold numsD; rw [bnd_r e1]
  refine ⟨fun z => absurd z (nI_pos (by omega)), fun _ => ?_⟩
  refine sp8_sign hT hq1.2.2.1 rfl (c := 44) (by decide) rfl (fun q2 e2 => y1 ?_) (fun k e2 => y0 ?_)
  case refine_2 =>
    have hk := sg_bad e2
    exact hbad k (by rw [pre]; exact bnd_l e2 _) (by omega) _ _ _ _ _ _
  have hq2 : q2 ≤ n := by have := sg_ok e2; omega
  rw [bnd_r e2] at pre
  refine ⟨fun _ => ?_, fun z => absurd z (by decide)⟩
  refine sp8_number hT hq2 rfl (lo := 1) (hi := 99) (by decide) (by decide) rfl rfl (fun b q3 e3 => ?_) (fun k e3 => ?_)
  case refine_2 =>
    have hk := num_bad hq2 e3
    unfold wpJ_X8_readHead_196
    exact ⟨fun _ => hbad k (by rw [pre]; exact bnd_l e3 _) (by omega) _ _ _ _ _ _, fun z => absurd (by decide) z⟩
  have hq3 := num_ok e3
  rw [bnd_r e3] at pre
  unfold wpJ_X8_readHead_196
  refine ⟨fun z => absurd z (nI_pos (by omega)), fun _ => ?_⟩
  refine sp8_sign hT hq3.2.2.1 rfl (c := 44) (by decide) rfl (fun q4 e4 => y1 ?_) (fun k e4 => y0 ?_)
  case refine_2 =>
    have hk := sg_bad e4
    exact hbad k (by rw [pre]; exact bnd_l e4 _) (by omega) _ _ _ _ _ _
  have hq4 : q4 ≤ n := by have := sg_ok e4; omega
  replace pre : numsD T n p = bnd (numN T n q4 0 3) fun r3 => bnd (pmN T n r3.2) fun r4 => .inr ((nI a, nI b, nI r3.1, nI r4.1), r4.2) := by rw [pre]; exact bnd_r e4 _
  refine ⟨fun _ => ⟨fun z => absurd rfl z, fun _ => ?_⟩, fun z => absurd z (by decide)⟩
  unfold wpJ_X8_readHead_251
  refine sp8_number hT hq4 rfl (lo := 0) (hi := 3) (by decide) (by decide) rfl rfl (fun c q5 e5 => ?_) (fun k e5 => ?_)
  case refine_2 =>
    have hk := num_bad hq4 e5
    unfold wpJ_X8_readHead_254
    exact ⟨fun z => absurd z (by decide), fun _ => hbad k (by rw [pre]; exact bnd_l e5 _) (by omega) _ _ _ _ _ _⟩
  have hq5 := num_ok e5
  rw [bnd_r e5] at pre
  unfold wpJ_X8_readHead_254
  refine ⟨fun _ => ⟨fun z => absurd rfl z, fun _ => ?_⟩, fun z => absurd (nI_pos' (by omega)) z⟩
  refine sp8_plus hT hq5.2.2.1 rfl (fun d q6 e6 => ?_) (fun k e6 => ?_)
  · have hq6 := pm_ok e6
    unfold wpJ_X8_readHead_284
    exact ⟨fun z => absurd rfl z, fun _ => ⟨fun z => absurd z (nI_pos (by omega)), fun _ => hok (nI a, nI b, nI c, nI d) q6 (by rw [pre]; exact bnd_r e6 _) hq6.2⟩⟩
  · have hk := pm_bad e6
    unfold wpJ_X8_readHead_284
    exact ⟨fun z => absurd rfl z, fun _ => ⟨fun _ => hbad k (by rw [pre]; exact bnd_l e6 _) (by omega) _ _ _ _ _ _, fun z => absurd (by decide) z⟩⟩
theorem sp8_headV {A : Nat → Int32} {l : Int32} {T : Nat → Nat} {n : Nat} (hT : TX A l T n) {p : Nat} (hp : p ≤ n) {le fi se th si ha : Int32} {post : Int32 → Int32 → Int32 → Int32 → Int32 → Int32 → Int32 → Int32 → Prop} (hok : ∀ r q, numsV T n p = .inr (r, q) → q ≤ n → post 1 (nI q) 4 r.1 r.2.1 r.2.2.1 r.2.2.2 (-9)) (hbad : ∀ k, numsV T n p = .inl k → k ≤ 20 → ∀ a b c d e f, post 0 (nI k) a b c d e f) : wpJ_X8_readHead_68 A l post (nI p) le fi se th si ha 4 := by
  have hn := hT.1
  unfold wpJ_X8_readHead_68
  refine ⟨fun _ => ⟨fun _ => ?_, fun z => absurd z (by decide)⟩, fun z => absurd z (by decide)⟩
  refine sp8_number hT hp rfl (lo := 0) (hi := 2) (by decide) (by decide) rfl rfl (fun a q1 e1 => ?_) (fun k e1 => ?_)
  case refine_2 =>
    have hk := num_bad hp e1
    exact ⟨fun _ => hbad k (by unfold numsV; exact bnd_l e1 _) (by omega) _ _ _ _ _ _, fun z => absurd (by decide) z⟩
  have hq1 := num_ok e1
  have pre : numsV T n p = bnd (sgN T n q1 44) fun p2 => bnd (numN T n p2 0 3) fun r2 => bnd (sgN T n r2.2 44) fun p4 => bnd (numN T n p4 1 99) fun r3 => .inr ((nI a, nI r2.1, nI r3.1, -9), r3.2) := by
    unfold numsV; rw [bnd_r e1]
  refine ⟨fun z => absurd z (nI_pos (by omega)), fun _ => ?_⟩
  refine sp8_sign hT hq1.2.2.1 rfl (c := 44) (by decide) rfl (fun q2 e2 => y1 ?_) (fun k e2 => y0 ?_)
  case refine_2 =>
    have hk := sg_bad e2
    exact hbad k (by rw [pre]; exact bnd_l e2 _) (by omega) _ _ _ _ _ _
  have hq2 : q2 ≤ n := by have := sg_ok e2; omega
  rw [bnd_r e2] at pre
  refine ⟨fun z => absurd rfl z, fun _ => ?_⟩
  refine sp8_number hT hq2 rfl (lo := 0) (hi := 3) (by decide) (by decide) rfl rfl (fun b q3 e3 => ?_) (fun k e3 => ?_)
  case refine_2 =>
    have hk := num_bad hq2 e3
    unfold wpJ_X8_readHead_196
    exact ⟨fun _ => hbad k (by rw [pre]; exact bnd_l e3 _) (by omega) _ _ _ _ _ _, fun z => absurd (by decide) z⟩
  have hq3 := num_ok e3
  rw [bnd_r e3] at pre
  unfold wpJ_X8_readHead_196
  refine ⟨fun z => absurd z (nI_pos (by omega)), fun _ => ?_⟩
  refine sp8_sign hT hq3.2.2.1 rfl (c := 44) (by decide) rfl (fun q4 e4 => y1 ?_) (fun k e4 => y0 ?_)
  case refine_2 =>
    have hk := sg_bad e4
    exact hbad k (by rw [pre]; exact bnd_l e4 _) (by omega) _ _ _ _ _ _
  have hq4 : q4 ≤ n := by have := sg_ok e4; omega
  replace pre : numsV T n p = bnd (numN T n q4 1 99) fun r3 => .inr ((nI a, nI b, nI r3.1, -9), r3.2) := by rw [pre]; exact bnd_r e4 _
  refine ⟨fun z => absurd rfl z, fun _ => ?_⟩
  refine sp8_number hT hq4 rfl (lo := 1) (hi := 99) (by decide) (by decide) rfl rfl (fun c q5 e5 => ?_) (fun k e5 => ?_)
  case refine_2 =>
    have hk := num_bad hq4 e5
    unfold wpJ_X8_readHead_254
    exact ⟨fun z => absurd z (by decide), fun _ => hbad k (by rw [pre]; exact bnd_l e5 _) (by omega) _ _ _ _ _ _⟩
  have hq5 := num_ok e5
  rw [bnd_r e5] at pre
  unfold wpJ_X8_readHead_254
  refine ⟨fun _ => ⟨fun _ => ?_, fun z => absurd z (by decide)⟩, fun z => absurd (nI_pos' (by omega)) z⟩
  unfold wpJ_X8_readHead_284
  exact ⟨fun _ => hok _ q5 pre hq5.2.2.1, fun z => absurd z (by decide)⟩
theorem sp8_headB {A : Nat → Int32} {l : Int32} {T : Nat → Nat} {n : Nat} (hT : TX A l T n) {p : Nat} (hp : p ≤ n) {le fi se th si ha : Int32} {post : Int32 → Int32 → Int32 → Int32 → Int32 → Int32 → Int32 → Int32 → Prop} (hok : ∀ r q, numsB T n p = .inr (r, q) → q ≤ n → post 1 (nI q) 3 r.1 r.2.1 r.2.2.1 r.2.2.2 (-9)) (hbad : ∀ k, numsB T n p = .inl k → k ≤ 20 → ∀ a b c d e f, post 0 (nI k) a b c d e f) : wpJ_X8_readHead_68 A l post (nI p) le fi se th si ha 3 := by
  have hn := hT.1
  unfold wpJ_X8_readHead_68
  refine ⟨fun _ => ⟨fun z => absurd rfl z, fun _ => ?_⟩, fun z => absurd z (by decide)⟩
  refine sp8_number hT hp rfl (lo := 0) (hi := 4) (by decide) (by decide) rfl rfl (fun a q1 e1 => ?_) (fun k e1 => ?_)
  · have hq1 := num_ok e1
    exact ⟨fun z => absurd z (nI_pos (by omega)), fun _ => hok (nI a, -9, -9, -9) q1 (by unfold numsB; exact bnd_r e1 _) hq1.2.2.1⟩
  · have hk := num_bad hp e1
    exact ⟨fun _ => hbad k (by unfold numsB; exact bnd_l e1 _) (by omega) _ _ _ _ _ _, fun z => absurd (by decide) z⟩
theorem sp8_readHead {A : Nat → Int32} {l : Int32} {T : Nat → Nat} {n : Nat} (hT : TX A l T n) {le fi se th si ha : Int32} {post : Int32 → Int32 → Int32 → Int32 → Int32 → Int32 → Int32 → Int32 → Prop} (hok : ∀ t q, hdN T n = .inr (t, q) → q ≤ n → post 1 (nI q) t.1 t.2.1 t.2.2.1 t.2.2.2.1 t.2.2.2.2 (-9)) (hbad : ∀ k, hdN T n = .inl k → k ≤ 20 → ∀ a b c d e f, post 0 (nI k) a b c d e f) : wp_X8_readHead A l 0 le fi se th si ha post := by
  have hn := hT.1
  unfold wp_X8_readHead
  refine sp8_sign hT (Nat.zero_le n) (p := 0) rfl (c := 67) (by decide) rfl (fun q e => y1' ?_) (fun k e => y0' ?_)
  · obtain ⟨rfl, w⟩ := sg_ok e
    have pre : hdN T n = bnd (numsC T n 1) fun r => .inr ((0, r.1), r.2) := by unfold hdN; rw [if_pos w]
    exact sp8_headC hT (by omega) (by decide) (by decide) (by decide) (by decide) (fun r q e hq => hok (0, r) q (by rw [pre, bnd_r e]) hq) (fun k e hk => hbad k (by rw [pre]; exact bnd_l e _) hk)
  obtain ⟨rfl, w1⟩ := sg_bad e
  refine sp8_sign hT (Nat.zero_le n) (p := 0) rfl (c := 83) (by decide) rfl (fun q e => y1' ?_) (fun k e => y0' ?_)
  · obtain ⟨rfl, w⟩ := sg_ok e
    have pre : hdN T n = bnd (numsC T n 1) fun r => .inr ((1, r.1), r.2) := by unfold hdN; rw [if_neg w1, if_pos w]
    exact sp8_headC hT (by omega) (by decide) (by decide) (by decide) (by decide) (fun r q e hq => hok (1, r) q (by rw [pre, bnd_r e]) hq) (fun k e hk => hbad k (by rw [pre]; exact bnd_l e _) hk)
  obtain ⟨rfl, w2⟩ := sg_bad e
  refine sp8_sign hT (Nat.zero_le n) (p := 0) rfl (c := 68) (by decide) rfl (fun q e => y1' ?_) (fun k e => y0' ?_)
  · obtain ⟨rfl, w⟩ := sg_ok e
    have pre : hdN T n = bnd (numsD T n 1) fun r => .inr ((2, r.1), r.2) := by unfold hdN; rw [if_neg w1, if_neg w2, if_pos w]
    exact sp8_headD hT (by omega) (fun r q e hq => hok (2, r) q (by rw [pre, bnd_r e]) hq) (fun k e hk => hbad k (by rw [pre]; exact bnd_l e _) hk)
  obtain ⟨rfl, w3⟩ := sg_bad e
  refine sp8_sign hT (Nat.zero_le n) (p := 0) rfl (c := 66) (by decide) rfl (fun q e => y1' ?_) (fun k e => y0' ?_)
  · obtain ⟨rfl, w⟩ := sg_ok e
    have pre : hdN T n = bnd (numsB T n 1) fun r => .inr ((3, r.1), r.2) := by unfold hdN; rw [if_neg w1, if_neg w2, if_neg w3, if_pos w]
    exact sp8_headB hT (by omega) (fun r q e hq => hok (3, r) q (by rw [pre, bnd_r e]) hq) (fun k e hk => hbad k (by rw [pre]; exact bnd_l e _) hk)
  obtain ⟨rfl, w4⟩ := sg_bad e
  refine sp8_sign hT (Nat.zero_le n) (p := 0) rfl (c := 86) (by decide) rfl (fun q e => y1' ?_) (fun k e => y0' ?_)
  · obtain ⟨rfl, w⟩ := sg_ok e
    have pre : hdN T n = bnd (numsV T n 1) fun r => .inr ((4, r.1), r.2) := by unfold hdN; rw [if_neg w1, if_neg w2, if_neg w3, if_neg w4, if_pos w]
    exact sp8_headV hT (by omega) (fun r q e hq => hok (4, r) q (by rw [pre, bnd_r e]) hq) (fun k e hk => hbad k (by rw [pre]; exact bnd_l e _) hk)
  obtain ⟨rfl, w5⟩ := sg_bad e
  have pre : hdN T n = .inl 0 := by unfold hdN; rw [if_neg w1, if_neg w2, if_neg w3, if_neg w4, if_neg w5]
  unfold wpJ_X8_readHead_68
  exact ⟨fun z => absurd rfl z, fun _ => hbad 0 pre (by decide) _ _ _ _ _ _⟩
theorem sp8_readHang {A : Nat → Int32} {l : Int32} {T : Nat → Nat} {n : Nat} (hT : TX A l T n) {p : Nat} (hp : p ≤ n) {ha : Int32} {post : Int32 → Int32 → Int32 → Prop} (hok : ∀ g q, hcN T n p = .inr (g, q) → q ≤ n → post 1 (nI q) (nI g)) (hbad : ∀ k, hcN T n p = .inl k → k ≤ 20 → ∀ h, post 0 (nI k) h) : wp_X8_readHang A l (nI p) ha post := by
  have hn := hT.1
  unfold wp_X8_readHang
  refine sp8_sign hT hp rfl (c := 63) (by decide) rfl (fun q1 e1 => y1 ?_) (fun k e1 => y0 ?_)
  case refine_2 =>
    have hk := sg_bad e1
    exact hbad k (by unfold hcN; exact bnd_l e1 _) (by omega) _
  have hq1 : q1 ≤ n := by have := sg_ok e1; omega
  have pre : hcN T n p = if q1 < n ∧ T q1 = 61 then bnd (numN T n (q1 + 1) 0 4) fun r1 => bnd (sgN T n r1.2 44) fun p3 => bnd (numN T n p3 0 3) fun r2 => .inr (100 + 10 * r1.1 + r2.1, r2.2) else bnd (numN T n q1 0 3) fun r1 => bnd (pmN T n r1.2) fun r2 => .inr (10 * r1.1 + r2.1, r2.2) := by
    unfold hcN; rw [bnd_r e1]
  refine sp8_sign hT hq1 rfl (c := 61) (by decide) rfl (fun q2 e2 => y1' ?_) (fun k e2 => y0' ?_)
  · obtain ⟨rfl, w⟩ := sg_ok e2
    rw [if_pos w] at pre
    have hq2 : q1 + 1 ≤ n := by omega
    refine sp8_number hT hq2 rfl (lo := 0) (hi := 4) (by decide) (by decide) rfl rfl (fun a q3 e3 => ?_) (fun k e3 => ?_)
    case refine_2 =>
      have hk := num_bad hq2 e3
      exact ⟨fun _ => hbad k (by rw [pre]; exact bnd_l e3 _) (by omega) _, fun z => absurd (by decide) z⟩
    have hq3 := num_ok e3
    rw [bnd_r e3] at pre
    refine ⟨fun z => absurd z (nI_pos (by omega)), fun _ => ?_⟩
    refine sp8_sign hT hq3.2.2.1 rfl (c := 44) (by decide) rfl (fun q4 e4 => y1 ?_) (fun k e4 => y0 ?_)
    case refine_2 =>
      have hk := sg_bad e4
      exact hbad k (by rw [pre]; exact bnd_l e4 _) (by omega) _
    have hq4 : q4 ≤ n := by have := sg_ok e4; omega
    rw [bnd_r e4] at pre
    refine sp8_number hT hq4 rfl (lo := 0) (hi := 3) (by decide) (by decide) rfl rfl (fun b q5 e5 => ?_) (fun k e5 => ?_)
    case refine_2 =>
      have hk := num_bad hq4 e5
      exact nm_e ⟨fun _ => hbad k (by rw [pre]; exact bnd_l e5 _) (by omega) _, fun z => absurd (by decide) z⟩
    have hq5 := num_ok e5
    refine nm_r (w_h2 a b) ⟨fun z => absurd z (nI_pos (by omega)), fun _ => hok _ q5 (by rw [pre]; exact bnd_r e5 _) hq5.2.2.1⟩
  · obtain ⟨rfl, w⟩ := sg_bad e2
    rw [if_neg w] at pre
    refine sp8_number hT hq1 rfl (lo := 0) (hi := 3) (by decide) (by decide) rfl rfl (fun a q3 e3 => ?_) (fun k e3 => ?_)
    case refine_2 =>
      have hk := num_bad hq1 e3
      exact ⟨fun z => absurd z (by decide), fun _ => hbad k (by rw [pre]; exact bnd_l e3 _) (by omega) _⟩
    have hq3 := num_ok e3
    rw [bnd_r e3] at pre
    refine ⟨fun _ => ?_, fun z => absurd (nI_pos' (by omega)) z⟩
    refine sp8_plus hT hq3.2.2.1 rfl (fun d q6 e6 => ?_) (fun k e6 => ?_)
    · have hq6 := pm_ok e6
      exact nm_r (w_h1 a d) ⟨fun z => absurd z (nI_pos (by omega)), fun _ => hok _ q6 (by rw [pre]; exact bnd_r e6 _) hq6.2⟩
    · have hk := pm_bad e6
      exact nm_e ⟨fun _ => hbad k (by rw [pre]; exact bnd_l e6 _) (by omega) _, fun z => absurd (by decide) z⟩
theorem sp8_read {A : Nat → Int32} {l : Int32} {T : Nat → Nat} {n : Nat} (hT : TX A l T n) {pl le fi se th si ha : Int32} {post : Int32 → Int32 → Int32 → Int32 → Int32 → Int32 → Int32 → Int32 → Prop} (hok : ∀ t g, rdN T n = .inr (t, g) → ∀ pl, post (-9) pl t.1 t.2.1 t.2.2.1 t.2.2.2.1 t.2.2.2.2 g) (hbad : ∀ k, rdN T n = .inl k → k ≤ 20 → ∀ pl a b c d e f, post (nI k) pl a b c d e f) : wp_X8_read A l pl le fi se th si ha post := by
  have hn := hT.1
  unfold wp_X8_read
  refine sp8_readHead hT (fun t q hd hq => y1 ?_) (fun k hd hk a b c d e f => y0 (hbad k (by unfold rdN; exact bnd_l hd _) hk _ _ _ _ _ _ _))
  have pre : rdN T n = if q = n then .inr (t, -9) else bnd (hcN T n q) fun h => if h.2 = n then .inr (t, nI h.1) else .inl h.2 := by
    unfold rdN; rw [bnd_r hd]
  refine pk_eq' q n (fun w => ?_) (fun w => ?_) rfl hT.2.1
  · rw [if_neg w] at pre
    refine sp8_readHang hT hq (fun g q2 e2 hq2 => y1 ?_) (fun k e2 hk h => y0 ?_)
    · rw [bnd_r e2] at pre
      refine pk_eq' q2 n (fun w2 => ?_) (fun w2 => ?_) rfl hT.2.1
      · exact hbad q2 (by rw [pre]; exact if_neg w2) (by omega) _ _ _ _ _ _ _
      · exact hok _ _ (by rw [pre]; exact if_pos w2) _
    · exact hbad k (by rw [pre]; exact bnd_l e2 _) hk _ _ _ _ _ _ _
  · rw [if_pos w] at pre
    exact hok _ _ pre _
