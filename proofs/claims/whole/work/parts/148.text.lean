theorem sp_fill {n : Nat} (hn : n < 2 ^ 31) {f : Nat → Int32} {v : Int32} {post : (Nat → Int32) → Prop} (h : post (fun j => if j < n then v else f j)) : wp_J7_fill_53178 n f v post := by
  unfold wp_J7_fill_53178
  refine nm_e ⟨n + 1, ?_⟩
  have main : ∀ q i, i ≤ n → n < q + i → wpL_J7_fill_53178_5 n post q (fun j => if j < i then v else f j) v (nI i) (Int32.ofNat n) := by
    intro q
    induction q with
    | zero => intro i h1 h2; omega
    | succ q ih =>
      intro i h1 h2
      rw [wpL_J7_fill_53178_5]
      refine pk_le n i (fun h5 => ?_) (fun h5 => ⟨pk_in i n h5, nm_e (nm_r (nI_1 i) ?_)⟩)
      · have : i = n := by omega
        subst this
        exact h
      · have next := ih (i + 1) (by omega) (by omega)
        rw [nI_clamp (by omega)]
        have e : (fun j => if j < i + 1 then v else f j) = upd (fun j => if j < i then v else f j) i v := by
          funext j
          by_cases w : j = i
          · subst w; rw [pk_us, if_pos (by omega)]
          · rw [pk_un w]
            show _ = if j < i then v else f j
            by_cases w2 : j < i
            · rw [if_pos w2, if_pos (by omega)]
            · rw [if_neg w2, if_neg (by omega)]
        rw [e] at next
        exact next
  have h0 := main (n + 1) 0 (by omega) (by omega)
  have e0 : (fun j => if j < 0 then v else f j) = f := by funext j; rw [if_neg (by omega)]
  rw [e0] at h0
  exact h0
def bnd {α β : Type} (x : Sum Nat α) (f : α → Sum Nat β) : Sum Nat β := match x with
  | .inl k => .inl k
  | .inr a => f a
theorem bnd_l {α β : Type} {x : Sum Nat α} {k : Nat} (h : x = .inl k) (f : α → Sum Nat β) : bnd x f = .inl k := by rw [h]; rfl
theorem bnd_r {α β : Type} {x : Sum Nat α} {a : α} (h : x = .inr a) (f : α → Sum Nat β) : bnd x f = f a := by rw [h]; rfl
def numsB (T : Nat → Nat) (n p : Nat) : Sum Nat ((Int32 × Int32 × Int32 × Int32) × Nat) := bnd (numN T n p 0 4) fun r => .inr ((nI r.1, -9, -9, -9), r.2)
def numsC (T : Nat → Nat) (n p : Nat) : Sum Nat ((Int32 × Int32 × Int32 × Int32) × Nat) := bnd (numN T n p 0 2) fun r1 => bnd (sgN T n r1.2 44) fun p2 => bnd (numN T n p2 1 99) fun r2 => bnd (sgN T n r2.2 44) fun p4 => bnd (numN T n p4 0 4) fun r3 => .inr ((nI r1.1, nI r2.1, nI r3.1, -9), r3.2)
def numsV (T : Nat → Nat) (n p : Nat) : Sum Nat ((Int32 × Int32 × Int32 × Int32) × Nat) := bnd (numN T n p 0 2) fun r1 => bnd (sgN T n r1.2 44) fun p2 => bnd (numN T n p2 0 3) fun r2 => bnd (sgN T n r2.2 44) fun p4 => bnd (numN T n p4 1 99) fun r3 => .inr ((nI r1.1, nI r2.1, nI r3.1, -9), r3.2)
def numsD (T : Nat → Nat) (n p : Nat) : Sum Nat ((Int32 × Int32 × Int32 × Int32) × Nat) := bnd (numN T n p 0 2) fun r1 => bnd (sgN T n r1.2 44) fun p2 => bnd (numN T n p2 1 99) fun r2 => bnd (sgN T n r2.2 44) fun p4 => bnd (numN T n p4 0 3) fun r3 => bnd (pmN T n r3.2) fun r4 => .inr ((nI r1.1, nI r2.1, nI r3.1, nI r4.1), r4.2)
def hdN (T : Nat → Nat) (n : Nat) : Sum Nat ((Int32 × Int32 × Int32 × Int32 × Int32) × Nat) :=
  if 0 < n ∧ T 0 = 67 then bnd (numsC T n 1) fun r => .inr ((0, r.1), r.2)
  else if 0 < n ∧ T 0 = 83 then bnd (numsC T n 1) fun r => .inr ((1, r.1), r.2)
  else if 0 < n ∧ T 0 = 68 then bnd (numsD T n 1) fun r => .inr ((2, r.1), r.2)
  else if 0 < n ∧ T 0 = 66 then bnd (numsB T n 1) fun r => .inr ((3, r.1), r.2)
  else if 0 < n ∧ T 0 = 86 then bnd (numsV T n 1) fun r => .inr ((4, r.1), r.2)
  else .inl 0
def hcN (T : Nat → Nat) (n p : Nat) : Sum Nat (Nat × Nat) := bnd (sgN T n p 63) fun p1 =>
  if p1 < n ∧ T p1 = 61 then bnd (numN T n (p1 + 1) 0 4) fun r1 => bnd (sgN T n r1.2 44) fun p3 => bnd (numN T n p3 0 3) fun r2 => .inr (100 + 10 * r1.1 + r2.1, r2.2)
  else bnd (numN T n p1 0 3) fun r1 => bnd (pmN T n r1.2) fun r2 => .inr (10 * r1.1 + r2.1, r2.2)
def rdN (T : Nat → Nat) (n : Nat) : Sum Nat ((Int32 × Int32 × Int32 × Int32 × Int32) × Int32) := bnd (hdN T n) fun r => if r.2 = n then .inr (r.1, -9) else bnd (hcN T n r.2) fun h => if h.2 = n then .inr (r.1, nI h.1) else .inl h.2
theorem okO_none : okO none := fun k h => absurd h (by simp)
theorem okO_some {k : Nat} (h : k ≤ 20) : okO (some k) := fun j e => by injection e with e; omega
theorem cl0 : (0 : Int32).toNatClampNeg = 0 := by decide
theorem cl1 : (1 : Int32).toNatClampNeg = 1 := by decide
theorem cl2 : (2 : Int32).toNatClampNeg = 2 := by decide
theorem cl3 : (3 : Int32).toNatClampNeg = 3 := by decide
theorem cl4 : (4 : Int32).toNatClampNeg = 4 := by decide
theorem cl5 : (5 : Int32).toNatClampNeg = 5 := by decide
theorem fm_num {A : Nat → Int32} {l : Int32} {T : Nat → Nat} {n : Nat} (hT : TX A l T n) {p k : Nat} (hp : p ≤ n) (hk : k ≤ 20) {lo hi : Nat} (hlo : lo < 100) (hhi : hi < 100) {y z : Int32} (hy : y = nI lo) (hz : z = nI hi) {post : Int32 → Int32 → Int32 → Prop} (h : ∀ r q, q ≤ n → post r (nI q) (ffI (some k))) : wp_X6_readNumber A l (nI p) (ffI (some k)) y z post :=
  sp_readNumber hT hp rfl (okO_some hk) hlo hhi hy hz (fun v q e => h _ q (num_ok e).2.2.1) (fun _ _ r q hq => h r q hq)
theorem fm_sign {A : Nat → Int32} {l : Int32} {T : Nat → Nat} {n : Nat} (hT : TX A l T n) {p k : Nat} (hp : p ≤ n) (hk : k ≤ 20) {c : Nat} (hc : c < 256) {y : Int32} (hy : y = nI c) {post : Int32 → Int32 → Prop} (h : ∀ q, q ≤ n → post (nI q) (ffI (some k))) : wp_X6_readSign A l (nI p) (ffI (some k)) y post :=
  sp_readSign hT hp rfl (okO_some hk) hc hy (fun q e => h q (by have := sg_ok e; omega)) (fun _ _ => h p hp)
theorem fm_pm {A : Nat → Int32} {l : Int32} {T : Nat → Nat} {n : Nat} (hT : TX A l T n) {p k : Nat} (hp : p ≤ n) (hk : k ≤ 20) {post : Int32 → Int32 → Int32 → Prop} (h : ∀ r q, q ≤ n → post r (nI q) (ffI (some k))) : wp_X6_readPlusOrMinus A l (nI p) (ffI (some k)) post :=
  sp_readPM hT hp rfl (okO_some hk) (fun d q e => h _ q (pm_ok e).2) (fun _ _ => h _ p hp)
theorem fm_145 {A : Nat → Int32} {l : Int32} {T : Nat → Nat} {n : Nat} (hT : TX A l T n) {p k : Nat} (hp : p ≤ n) (hk : k ≤ 20) {parts : Nat → Int32} {x : Int32} {post : (Nat → Int32) → Int32 → Int32 → Prop} (h : ∀ pa q, q ≤ n → post pa (nI q) (ffI (some k))) : wpJ_X6_readNumbers_145 A l post parts (nI p) (ffI (some k)) x := by
  unfold wpJ_X6_readNumbers_145
  exact ⟨fun _ => h _ p hp, fun _ => fm_pm hT hp hk (fun r q hq => ⟨pk_in 4 6 (by decide), nm_e (h _ q hq)⟩)⟩
theorem fm_141 {A : Nat → Int32} {l : Int32} {T : Nat → Nat} {n : Nat} (hT : TX A l T n) {p k : Nat} (hp : p ≤ n) (hk : k ≤ 20) {parts : Nat → Int32} {x : Int32} {hi : Nat} (hhi : hi < 100) {z : Int32} (hz : z = nI hi) {post : (Nat → Int32) → Int32 → Int32 → Prop} (h : ∀ pa q, q ≤ n → post pa (nI q) (ffI (some k))) : wpJ_X6_readNumbers_141 A l post parts (nI p) (ffI (some k)) x 3 0 z := by
  unfold wpJ_X6_readNumbers_141
  exact fm_num hT hp hk (lo := 0) (by decide) hhi rfl hz (fun r q hq => ⟨pk_in 3 6 (by decide), nm_e (fm_145 hT hq hk h)⟩)
theorem fm_98 {A : Nat → Int32} {l : Int32} {T : Nat → Nat} {n : Nat} (hT : TX A l T n) {p k : Nat} (hp : p ≤ n) (hk : k ≤ 20) {parts : Nat → Int32} {x y r : Int32} {post : (Nat → Int32) → Int32 → Int32 → Prop} (h : ∀ pa q, q ≤ n → post pa (nI q) (ffI (some k))) : wpJ_X6_readNumbers_98 A l post parts (nI p) (ffI (some k)) x y 2 r := by
  unfold wpJ_X6_readNumbers_98
  refine ⟨pk_in 2 6 (by decide), nm_e (fm_sign hT hp hk (c := 44) (by decide) rfl (fun q hq => ⟨fun _ => ⟨fun _ => fm_141 hT hq hk (hi := 4) (by decide) rfl h, fun _ => fm_141 hT hq hk (hi := 3) (by decide) rfl h⟩, fun _ => fm_num hT hq hk (lo := 1) (hi := 99) (by decide) (by decide) rfl rfl (fun r q hq => ⟨pk_in 3 6 (by decide), nm_e (fm_145 hT hq hk h)⟩)⟩))⟩
theorem fm_54s {A : Nat → Int32} {l : Int32} {T : Nat → Nat} {n : Nat} (hT : TX A l T n) {p k : Nat} (hp : p ≤ n) (hk : k ≤ 20) {parts : Nat → Int32} {x y : Int32} {post : (Nat → Int32) → Int32 → Int32 → Prop} (h : ∀ pa q, q ≤ n → post pa (nI q) (ffI (some k))) : (x = 0 → wp_X6_readNumber A l (nI p) (ffI (some k)) 1 99 (fun r q f => wpJ_X6_readNumbers_98 A l post parts q f x y 2 r)) ∧ (¬ x = 0 → wp_X6_readNumber A l (nI p) (ffI (some k)) 0 3 (fun r q f => wpJ_X6_readNumbers_98 A l post parts q f x y 2 r)) :=
  ⟨fun _ => fm_num hT hp hk (lo := 1) (hi := 99) (by decide) (by decide) rfl rfl (fun r q hq => fm_98 hT hq hk h), fun _ => fm_num hT hp hk (lo := 0) (hi := 3) (by decide) (by decide) rfl rfl (fun r q hq => fm_98 hT hq hk h)⟩
theorem fm_54 {A : Nat → Int32} {l : Int32} {T : Nat → Nat} {n : Nat} (hT : TX A l T n) {p k : Nat} (hp : p ≤ n) (hk : k ≤ 20) {parts : Nat → Int32} {x y : Int32} {post : (Nat → Int32) → Int32 → Int32 → Prop} (h : ∀ pa q, q ≤ n → post pa (nI q) (ffI (some k))) : wpJ_X6_readNumbers_54 A l post parts (nI p) (ffI (some k)) x y := by
  unfold wpJ_X6_readNumbers_54
  exact fm_num hT hp hk (lo := 0) (hi := 2) (by decide) (by decide) rfl rfl (fun r q hq => ⟨pk_in 1 6 (by decide), nm_e (fm_sign hT hq hk (c := 44) (by decide) rfl (fun q2 hq2 => fm_54s hT hq2 hk h))⟩)
theorem fm_38 {A : Nat → Int32} {l : Int32} {T : Nat → Nat} {n : Nat} (hT : TX A l T n) {p k : Nat} (hp : p ≤ n) (hk : k ≤ 20) {parts : Nat → Int32} {x : Int32} {post : (Nat → Int32) → Int32 → Int32 → Prop} (h : ∀ pa q, q ≤ n → post pa (nI q) (ffI (some k))) : wpJ_X6_readNumbers_38 A l post parts (nI p) (ffI (some k)) x := by
  unfold wpJ_X6_readNumbers_38
  exact ⟨pk_in 0 6 (by decide), fun _ => fm_54 hT hp hk h, fun _ => fm_54 hT hp hk h⟩
theorem fm_nums {A : Nat → Int32} {l : Int32} {T : Nat → Nat} {n : Nat} (hT : TX A l T n) {p k : Nat} (hp : p ≤ n) (hk : k ≤ 20) {parts : Nat → Int32} {post : (Nat → Int32) → Int32 → Int32 → Prop} (h : ∀ pa q, q ≤ n → post pa (nI q) (ffI (some k))) : wp_X6_readNumbers A l parts (nI p) (ffI (some k)) post := by
  unfold wp_X6_readNumbers
  refine ⟨pk_in 0 6 (by decide), fun _ => ⟨pk_in 0 6 (by decide), fun _ => fm_38 hT hp hk h, fun _ => fm_38 hT hp hk h⟩, fun _ => fm_num hT hp hk (lo := 0) (hi := 4) (by decide) (by decide) rfl rfl (fun r q hq => ⟨pk_in 1 6 (by decide), nm_e (h _ q hq)⟩)⟩
theorem fm_cond {A : Nat → Int32} {l : Int32} {T : Nat → Nat} {n : Nat} (hT : TX A l T n) {p k : Nat} (hp : p ≤ n) (hk : k ≤ 20) {parts : Nat → Int32} {post : (Nat → Int32) → Int32 → Int32 → Prop} (h : ∀ pa q, q ≤ n → post pa (nI q) (ffI (some k))) : wp_X6_readCondition A l parts (nI p) (ffI (some k)) post := by
  unfold wp_X6_readCondition
  have hn := hT.1
  have tail : ∀ q r, q ≤ n → (¬ r = (61 : Int32) → wp_X6_readNumber A l (nI q) (ffI (some k)) 0 3 (fun (r_8 : Int32) (tx_place_6 : Int32) (tx_firstFault_7 : Int32) => wp_X6_readPlusOrMinus A l tx_place_6 tx_firstFault_7 (fun (r_11 : Int32) (tx_place_9 : Int32) (tx_firstFault_10 : Int32) => vp_in ((5 : Int32)) 6 ∧ ∀ tx_parts_12 : Nat → Int32, tx_parts_12 = upd parts ((5 : Int32)).toNatClampNeg ((((10 : Int32)) * r_8) + r_11) → post tx_parts_12 tx_place_9 tx_firstFault_10))) ∧ (r = (61 : Int32) → wp_X6_readSign A l (nI q) (ffI (some k)) ((61 : Int32)) (fun (tx_place_13 : Int32) (tx_firstFault_14 : Int32) => wp_X6_readNumber A l tx_place_13 tx_firstFault_14 ((0 : Int32)) ((4 : Int32)) (fun (r_17 : Int32) (tx_place_15 : Int32) (tx_firstFault_16 : Int32) => wp_X6_readSign A l tx_place_15 tx_firstFault_16 ((44 : Int32)) (fun (tx_place_18 : Int32) (tx_firstFault_19 : Int32) => wp_X6_readNumber A l tx_place_18 tx_firstFault_19 ((0 : Int32)) ((3 : Int32)) (fun (r_22 : Int32) (tx_place_20 : Int32) (tx_firstFault_21 : Int32) => vp_in ((5 : Int32)) 6 ∧ ∀ tx_parts_23 : Nat → Int32, tx_parts_23 = upd parts ((5 : Int32)).toNatClampNeg ((((100 : Int32)) + (((10 : Int32)) * r_17)) + r_22) → post tx_parts_23 tx_place_20 tx_firstFault_21))))) := by
    intro q r hq
    refine ⟨fun _ => fm_num hT hq hk (lo := 0) (hi := 3) (by decide) (by decide) rfl rfl (fun r q2 hq2 => fm_pm hT hq2 hk (fun r q3 hq3 => ⟨pk_in 5 6 (by decide), nm_e (h _ q3 hq3)⟩)), fun _ => fm_sign hT hq hk (c := 61) (by decide) rfl (fun q2 hq2 => fm_num hT hq2 hk (lo := 0) (hi := 4) (by decide) (by decide) rfl rfl (fun r q3 hq3 => fm_sign hT hq3 hk (c := 44) (by decide) rfl (fun q4 hq4 => fm_num hT hq4 hk (lo := 0) (hi := 3) (by decide) (by decide) rfl rfl (fun r q5 hq5 => ⟨pk_in 5 6 (by decide), nm_e (h _ q5 hq5)⟩))))⟩
  refine pk_lt p n (fun w => ?_) (fun w => h _ p hp) rfl hT.2.1
  exact fm_sign hT hp hk (c := 63) (by decide) rfl (fun q hq => sp_next hT hq rfl (fun _ => tail q _ hq) (fun _ => tail q _ hq))
theorem sp_numsC {A : Nat → Int32} {l : Int32} {T : Nat → Nat} {n : Nat} (hT : TX A l T n) {p : Nat} (hp : p ≤ n) {parts : Nat → Int32} {L : Int32} (hl : parts 0 = L) (n3 : ¬ L = 3) (n4 : ¬ L = 4) (n2 : ¬ L = 2) (h1 : ∀ j, 1 ≤ j → j < 6 → parts j = -9) {post : (Nat → Int32) → Int32 → Int32 → Prop} (hok : ∀ r q, numsC T n p = .inr (r, q) → q ≤ n → ∀ pa : Nat → Int32, pa 0 = L → pa 1 = r.1 → pa 2 = r.2.1 → pa 3 = r.2.2.1 → pa 4 = r.2.2.2 → pa 5 = -9 → post pa (nI q) (ffI none)) (hbad : ∀ k, numsC T n p = .inl k → k ≤ 20 → ∀ pa q, q ≤ n → post pa (nI q) (ffI (some k))) : wp_X6_readNumbers A l parts (nI p) (ffI none) post := by
  have hn := hT.1
  unfold wp_X6_readNumbers
  refine ⟨pk_in 0 6 (by decide), ?_⟩
  rw [cl0, hl]
  refine ⟨fun _ => ⟨pk_in 0 6 (by decide), ?_⟩, fun z => absurd z n3⟩
  refine ⟨fun _ => ?_, fun z => absurd z n4⟩
  unfold wpJ_X6_readNumbers_38
  refine ⟨pk_in 0 6 (by decide), ?_⟩
  rw [cl0, hl]
  refine ⟨fun _ => ?_, fun z => absurd z n2⟩
  unfold wpJ_X6_readNumbers_54
  refine sp_readNumber hT hp rfl okO_none (lo := 0) (hi := 2) (by decide) (by decide) rfl rfl (fun a q1 e1 => ⟨pk_in 1 6 (by decide), nm_e ?_⟩) (fun k e1 r q hq => ⟨pk_in 1 6 (by decide), nm_e ?_⟩)
  case refine_2 =>
    have hk := num_bad hp e1
    exact fm_sign hT hq (by omega) (c := 44) (by decide) rfl (fun q2 hq2 => fm_54s hT hq2 (by omega) (hbad k (by unfold numsC; exact bnd_l e1 _) (by omega)))
  have hq1 := num_ok e1
  refine sp_readSign hT hq1.2.2.1 rfl okO_none (c := 44) (by decide) rfl (fun q2 e2 => ?_) (fun k e2 => ?_)
  case refine_2 =>
    have hk := sg_bad e2
    exact fm_54s hT hq1.2.2.1 (by omega) (hbad k (by unfold numsC; rw [bnd_r e1]; exact bnd_l e2 _) (by omega))
  have hq2 : q2 ≤ n := by have := sg_ok e2; omega
  refine ⟨fun _ => ?_, fun z => absurd rfl z⟩
  refine sp_readNumber hT hq2 rfl okO_none (lo := 1) (hi := 99) (by decide) (by decide) rfl rfl (fun b q3 e3 => ?_) (fun k e3 r q hq => ?_)
  case refine_2 =>
    have hk := num_bad hq2 e3
    exact fm_98 hT hq (by omega) (hbad k (by unfold numsC; rw [bnd_r e1]; show bnd (sgN T n q1 44) _ = _; rw [bnd_r e2]; exact bnd_l e3 _) (by omega))
  have hq3 := num_ok e3
  unfold wpJ_X6_readNumbers_98
  refine ⟨pk_in 2 6 (by decide), nm_e ?_⟩
  have pre : numsC T n p = bnd (sgN T n q3 44) fun p4 => bnd (numN T n p4 0 4) fun r3 => .inr ((nI a, nI b, nI r3.1, -9), r3.2) := by
    unfold numsC; rw [bnd_r e1]; show bnd (sgN T n q1 44) _ = _; rw [bnd_r e2, bnd_r e3]
  refine sp_readSign hT hq3.2.2.1 rfl okO_none (c := 44) (by decide) rfl (fun q4 e4 => ?_) (fun k e4 => ?_)
  case refine_2 =>
    have hk := sg_bad e4
    have HB := hbad k (by rw [pre]; exact bnd_l e4 _) (by omega)
    exact ⟨fun _ => ⟨fun _ => fm_141 hT hq3.2.2.1 (by omega) (hi := 4) (by decide) rfl HB, fun z => absurd rfl z⟩, fun z => absurd rfl z⟩
  have hq4 : q4 ≤ n := by have := sg_ok e4; omega
  refine ⟨fun _ => ⟨fun _ => ?_, fun z => absurd rfl z⟩, fun z => absurd rfl z⟩
  unfold wpJ_X6_readNumbers_141
  rw [bnd_r e4] at pre
  refine sp_readNumber hT hq4 rfl okO_none (lo := 0) (hi := 4) (by decide) (by decide) rfl rfl (fun c q5 e5 => ⟨pk_in 3 6 (by decide), nm_e ?_⟩) (fun k e5 r q hq => ⟨pk_in 3 6 (by decide), nm_e ?_⟩)
  case refine_2 =>
    have hk := num_bad hq4 e5
    exact fm_145 hT hq (by omega) (hbad k (by rw [pre]; exact bnd_l e5 _) (by omega))
  have hq5 := num_ok e5
  rw [bnd_r e5] at pre
  unfold wpJ_X6_readNumbers_145
  rw [cl1, cl2, cl3]
  refine ⟨fun _ => ?_, fun z => absurd rfl z⟩
  refine hok _ q5 pre hq5.2.2.1 _ (by rw [ pk_un (by decide), pk_un (by decide), pk_un (by decide)]; exact hl) (by rw [ pk_un (by decide), pk_un (by decide), pk_us]) (by rw [ pk_un (by decide), pk_us]) (by rw [ pk_us]) (by rw [pk_un (by decide), pk_un (by decide), pk_un (by decide)]; exact h1 4 (by decide) (by decide)) (by rw [pk_un (by decide), pk_un (by decide), pk_un (by decide)]; exact h1 5 (by decide) (by decide))
theorem sp_numsD {A : Nat → Int32} {l : Int32} {T : Nat → Nat} {n : Nat} (hT : TX A l T n) {p : Nat} (hp : p ≤ n) {parts : Nat → Int32} {L : Int32} (hl : parts 0 = L) (n2 : L = 2) (h1 : ∀ j, 1 ≤ j → j < 6 → parts j = -9) {post : (Nat → Int32) → Int32 → Int32 → Prop} (hok : ∀ r q, numsD T n p = .inr (r, q) → q ≤ n → ∀ pa : Nat → Int32, pa 0 = L → pa 1 = r.1 → pa 2 = r.2.1 → pa 3 = r.2.2.1 → pa 4 = r.2.2.2 → pa 5 = -9 → post pa (nI q) (ffI none)) (hbad : ∀ k, numsD T n p = .inl k → k ≤ 20 → ∀ pa q, q ≤ n → post pa (nI q) (ffI (some k))) : wp_X6_readNumbers A l parts (nI p) (ffI none) post := by
  have hn := hT.1
  unfold wp_X6_readNumbers
  refine ⟨pk_in 0 6 (by decide), ?_⟩
  rw [cl0, hl]
  refine ⟨fun _ => ⟨pk_in 0 6 (by decide), ?_⟩, fun z => absurd z (by rw [n2]; decide)⟩
  refine ⟨fun _ => ?_, fun z => absurd z (by rw [n2]; decide)⟩
  unfold wpJ_X6_readNumbers_38
  refine ⟨pk_in 0 6 (by decide), ?_⟩
  rw [cl0, hl]
  refine ⟨fun z => absurd n2 z, fun _ => ?_⟩
  unfold wpJ_X6_readNumbers_54
  refine sp_readNumber hT hp rfl okO_none (lo := 0) (hi := 2) (by decide) (by decide) rfl rfl (fun a q1 e1 => ⟨pk_in 1 6 (by decide), nm_e ?_⟩) (fun k e1 r q hq => ⟨pk_in 1 6 (by decide), nm_e ?_⟩)
  case refine_2 =>
    have hk := num_bad hp e1
    exact fm_sign hT hq (by omega) (c := 44) (by decide) rfl (fun q2 hq2 => fm_54s hT hq2 (by omega) (hbad k (by unfold numsD; exact bnd_l e1 _) (by omega)))
  have hq1 := num_ok e1
  refine sp_readSign hT hq1.2.2.1 rfl okO_none (c := 44) (by decide) rfl (fun q2 e2 => ?_) (fun k e2 => ?_)
  case refine_2 =>
    have hk := sg_bad e2
    exact fm_54s hT hq1.2.2.1 (by omega) (hbad k (by unfold numsD; rw [bnd_r e1]; exact bnd_l e2 _) (by omega))
  have hq2 : q2 ≤ n := by have := sg_ok e2; omega
  refine ⟨fun _ => ?_, fun z => absurd rfl z⟩
  refine sp_readNumber hT hq2 rfl okO_none (lo := 1) (hi := 99) (by decide) (by decide) rfl rfl (fun b q3 e3 => ?_) (fun k e3 r q hq => ?_)
  case refine_2 =>
    have hk := num_bad hq2 e3
    exact fm_98 hT hq (by omega) (hbad k (by unfold numsD; rw [bnd_r e1]; show bnd (sgN T n q1 44) _ = _; rw [bnd_r e2]; exact bnd_l e3 _) (by omega))
  have hq3 := num_ok e3
  unfold wpJ_X6_readNumbers_98
  refine ⟨pk_in 2 6 (by decide), nm_e ?_⟩
  have pre : numsD T n p = bnd (sgN T n q3 44) fun p4 => bnd (numN T n p4 0 3) fun r3 => bnd (pmN T n r3.2) fun r4 => .inr ((nI a, nI b, nI r3.1, nI r4.1), r4.2) := by
    unfold numsD; rw [bnd_r e1]; show bnd (sgN T n q1 44) _ = _; rw [bnd_r e2, bnd_r e3]
  refine sp_readSign hT hq3.2.2.1 rfl okO_none (c := 44) (by decide) rfl (fun q4 e4 => ?_) (fun k e4 => ?_)
  case refine_2 =>
    have hk := sg_bad e4
    have HB := hbad k (by rw [pre]; exact bnd_l e4 _) (by omega)
    exact ⟨fun _ => ⟨fun z => absurd z (by decide), fun _ => fm_141 hT hq3.2.2.1 (by omega) (hi := 3) (by decide) rfl HB⟩, fun z => absurd rfl z⟩
  have hq4 : q4 ≤ n := by have := sg_ok e4; omega
  refine ⟨fun _ => ⟨fun z => absurd z (by decide), fun _ => ?_⟩, fun z => absurd rfl z⟩
  unfold wpJ_X6_readNumbers_141
  rw [bnd_r e4] at pre
  refine sp_readNumber hT hq4 rfl okO_none (lo := 0) (hi := 3) (by decide) (by decide) rfl rfl (fun c q5 e5 => ⟨pk_in 3 6 (by decide), nm_e ?_⟩) (fun k e5 r q hq => ⟨pk_in 3 6 (by decide), nm_e ?_⟩)
  case refine_2 =>
    have hk := num_bad hq4 e5
    exact fm_145 hT hq (by omega) (hbad k (by rw [pre]; exact bnd_l e5 _) (by omega))
  have hq5 := num_ok e5
  rw [bnd_r e5] at pre
  unfold wpJ_X6_readNumbers_145
  rw [cl1, cl2, cl3]
  refine ⟨fun z => absurd z (by decide), fun _ => ?_⟩
  refine sp_readPM hT hq5.2.2.1 rfl okO_none (fun d q6 e6 => ⟨pk_in 4 6 (by decide), nm_e ?_⟩) (fun k e6 => ⟨pk_in 4 6 (by decide), nm_e ?_⟩)
  case refine_2 =>
    have hk := pm_bad e6
    exact hbad k (by rw [pre]; exact bnd_l e6 _) (by omega) _ _ hq5.2.2.1
  rw [cl4]
  refine hok _ q6 (by rw [pre]; exact bnd_r e6 _) (pm_ok e6).2 _ (by rw [pk_un (by decide), pk_un (by decide), pk_un (by decide), pk_un (by decide)]; exact hl) (by rw [pk_un (by decide), pk_un (by decide), pk_un (by decide), pk_us]) (by rw [pk_un (by decide), pk_un (by decide), pk_us]) (by rw [pk_un (by decide), pk_us]) pk_us (by rw [pk_un (by decide), pk_un (by decide), pk_un (by decide), pk_un (by decide)]; exact h1 5 (by decide) (by decide))
theorem sp_numsV {A : Nat → Int32} {l : Int32} {T : Nat → Nat} {n : Nat} (hT : TX A l T n) {p : Nat} (hp : p ≤ n) {parts : Nat → Int32} {L : Int32} (hl : parts 0 = L) (n4 : L = 4) (h1 : ∀ j, 1 ≤ j → j < 6 → parts j = -9) {post : (Nat → Int32) → Int32 → Int32 → Prop} (hok : ∀ r q, numsV T n p = .inr (r, q) → q ≤ n → ∀ pa : Nat → Int32, pa 0 = L → pa 1 = r.1 → pa 2 = r.2.1 → pa 3 = r.2.2.1 → pa 4 = r.2.2.2 → pa 5 = -9 → post pa (nI q) (ffI none)) (hbad : ∀ k, numsV T n p = .inl k → k ≤ 20 → ∀ pa q, q ≤ n → post pa (nI q) (ffI (some k))) : wp_X6_readNumbers A l parts (nI p) (ffI none) post := by
  have hn := hT.1
  unfold wp_X6_readNumbers
  refine ⟨pk_in 0 6 (by decide), ?_⟩
  rw [cl0, hl]
  refine ⟨fun _ => ⟨pk_in 0 6 (by decide), ?_⟩, fun z => absurd z (by rw [n4]; decide)⟩
  refine ⟨fun z => absurd n4 z, fun _ => ?_⟩
  unfold wpJ_X6_readNumbers_38
  refine ⟨pk_in 0 6 (by decide), ?_⟩
  rw [cl0, hl]
  refine ⟨fun _ => ?_, fun z => absurd z (by rw [n4]; decide)⟩
  unfold wpJ_X6_readNumbers_54
  refine sp_readNumber hT hp rfl okO_none (lo := 0) (hi := 2) (by decide) (by decide) rfl rfl (fun a q1 e1 => ⟨pk_in 1 6 (by decide), nm_e ?_⟩) (fun k e1 r q hq => ⟨pk_in 1 6 (by decide), nm_e ?_⟩)
  case refine_2 =>
    have hk := num_bad hp e1
    exact fm_sign hT hq (by omega) (c := 44) (by decide) rfl (fun q2 hq2 => fm_54s hT hq2 (by omega) (hbad k (by unfold numsV; exact bnd_l e1 _) (by omega)))
  have hq1 := num_ok e1
  refine sp_readSign hT hq1.2.2.1 rfl okO_none (c := 44) (by decide) rfl (fun q2 e2 => ?_) (fun k e2 => ?_)
  case refine_2 =>
    have hk := sg_bad e2
    exact fm_54s hT hq1.2.2.1 (by omega) (hbad k (by unfold numsV; rw [bnd_r e1]; exact bnd_l e2 _) (by omega))
  have hq2 : q2 ≤ n := by have := sg_ok e2; omega
  refine ⟨fun z => absurd z (by decide), fun _ => ?_⟩
  refine sp_readNumber hT hq2 rfl okO_none (lo := 0) (hi := 3) (by decide) (by decide) rfl rfl (fun b q3 e3 => ?_) (fun k e3 r q hq => ?_)
  case refine_2 =>
    have hk := num_bad hq2 e3
    exact fm_98 hT hq (by omega) (hbad k (by unfold numsV; rw [bnd_r e1]; show bnd (sgN T n q1 44) _ = _; rw [bnd_r e2]; exact bnd_l e3 _) (by omega))
  have hq3 := num_ok e3
  unfold wpJ_X6_readNumbers_98
  refine ⟨pk_in 2 6 (by decide), nm_e ?_⟩
  have pre : numsV T n p = bnd (sgN T n q3 44) fun p4 => bnd (numN T n p4 1 99) fun r3 => .inr ((nI a, nI b, nI r3.1, -9), r3.2) := by
    unfold numsV; rw [bnd_r e1]; show bnd (sgN T n q1 44) _ = _; rw [bnd_r e2, bnd_r e3]
  refine sp_readSign hT hq3.2.2.1 rfl okO_none (c := 44) (by decide) rfl (fun q4 e4 => ?_) (fun k e4 => ?_)
  case refine_2 =>
    have hk := sg_bad e4
    have HB := hbad k (by rw [pre]; exact bnd_l e4 _) (by omega)
    exact ⟨fun z => absurd z (by decide), fun _ => fm_num hT hq3.2.2.1 (by omega) (lo := 1) (hi := 99) (by decide) (by decide) rfl rfl (fun r q hq => ⟨pk_in 3 6 (by decide), nm_e (fm_145 hT hq (by omega) HB)⟩)⟩
  have hq4 : q4 ≤ n := by have := sg_ok e4; omega
  refine ⟨fun z => absurd z (by decide), fun _ => ?_⟩
  rw [bnd_r e4] at pre
  refine sp_readNumber hT hq4 rfl okO_none (lo := 1) (hi := 99) (by decide) (by decide) rfl rfl (fun c q5 e5 => ⟨pk_in 3 6 (by decide), nm_e ?_⟩) (fun k e5 r q hq => ⟨pk_in 3 6 (by decide), nm_e ?_⟩)
  case refine_2 =>
    have hk := num_bad hq4 e5
    exact fm_145 hT hq (by omega) (hbad k (by rw [pre]; exact bnd_l e5 _) (by omega))
  have hq5 := num_ok e5
  rw [bnd_r e5] at pre
  unfold wpJ_X6_readNumbers_145
  rw [cl1, cl2, cl3]
  refine ⟨fun _ => ?_, fun z => absurd rfl z⟩
  refine hok _ q5 pre hq5.2.2.1 _ (by rw [ pk_un (by decide), pk_un (by decide), pk_un (by decide)]; exact hl) (by rw [ pk_un (by decide), pk_un (by decide), pk_us]) (by rw [ pk_un (by decide), pk_us]) (by rw [ pk_us]) (by rw [pk_un (by decide), pk_un (by decide), pk_un (by decide)]; exact h1 4 (by decide) (by decide)) (by rw [pk_un (by decide), pk_un (by decide), pk_un (by decide)]; exact h1 5 (by decide) (by decide))
theorem sp_numsB {A : Nat → Int32} {l : Int32} {T : Nat → Nat} {n : Nat} (hT : TX A l T n) {p : Nat} (hp : p ≤ n) {parts : Nat → Int32} {L : Int32} (hl : parts 0 = L) (n3 : L = 3) (h1 : ∀ j, 1 ≤ j → j < 6 → parts j = -9) {post : (Nat → Int32) → Int32 → Int32 → Prop} (hok : ∀ r q, numsB T n p = .inr (r, q) → q ≤ n → ∀ pa : Nat → Int32, pa 0 = L → pa 1 = r.1 → pa 2 = r.2.1 → pa 3 = r.2.2.1 → pa 4 = r.2.2.2 → pa 5 = -9 → post pa (nI q) (ffI none)) (hbad : ∀ k, numsB T n p = .inl k → k ≤ 20 → ∀ pa q, q ≤ n → post pa (nI q) (ffI (some k))) : wp_X6_readNumbers A l parts (nI p) (ffI none) post := by
  have hn := hT.1
  unfold wp_X6_readNumbers
  refine ⟨pk_in 0 6 (by decide), ?_⟩
  rw [cl0, hl]
  refine ⟨fun z => absurd n3 z, fun _ => ?_⟩
  refine sp_readNumber hT hp rfl okO_none (lo := 0) (hi := 4) (by decide) (by decide) rfl rfl (fun a q1 e1 => ⟨pk_in 1 6 (by decide), nm_e ?_⟩) (fun k e1 r q hq => ⟨pk_in 1 6 (by decide), nm_e ?_⟩)
  · rw [cl1]
    refine hok _ q1 (by unfold numsB; exact bnd_r e1 _) (num_ok e1).2.2.1 _ (by rw [pk_un (by decide)]; exact hl) pk_us (by rw [pk_un (by decide)]; exact h1 2 (by decide) (by decide)) (by rw [pk_un (by decide)]; exact h1 3 (by decide) (by decide)) (by rw [pk_un (by decide)]; exact h1 4 (by decide) (by decide)) (by rw [pk_un (by decide)]; exact h1 5 (by decide) (by decide))
  · have hk := num_bad hp e1
    exact hbad k (by unfold numsB; exact bnd_l e1 _) (by omega) _ q hq
