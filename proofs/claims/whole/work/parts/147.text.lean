def TX (A : Nat → Int32) (l : Int32) (T : Nat → Nat) (n : Nat) : Prop := n ≤ 20 ∧ l = nI n ∧ ∀ j, j < n → A j = nI (T j) ∧ T j < 256
def figB (T : Nat → Nat) (n p : Nat) : Bool := decide (p < n) && (decide (48 ≤ T p) && decide (T p ≤ 57))
def numN (T : Nat → Nat) (n p lo hi : Nat) : Sum Nat (Nat × Nat) :=
  if figB T n p = false then .inl p
  else if hi < T p - 48 then .inl p
  else if figB T n (p + 1) = true then
    if hi < 10 * (T p - 48) + (T (p + 1) - 48) then .inl (p + 1)
    else if 10 * (T p - 48) + (T (p + 1) - 48) < lo then .inl p
    else .inr (10 * (T p - 48) + (T (p + 1) - 48), p + 2)
  else if T p - 48 < lo then (if p + 1 = n then .inl (p + 1) else .inl p)
  else .inr (T p - 48, p + 1)
def sgN (T : Nat → Nat) (n p c : Nat) : Sum Nat Nat := if p < n ∧ T p = c then .inr (p + 1) else .inl p
def pmN (T : Nat → Nat) (n p : Nat) : Sum Nat (Nat × Nat) := if p < n ∧ T p = 43 then .inr (1, p + 1) else if p < n ∧ T p = 45 then .inr (0, p + 1) else .inl p
theorem fig_iff {T : Nat → Nat} {n p : Nat} : figB T n p = true ↔ p < n ∧ 48 ≤ T p ∧ T p ≤ 57 := by
  unfold figB
  rw [Bool.and_eq_true, Bool.and_eq_true, decide_eq_true_iff, decide_eq_true_iff, decide_eq_true_iff]
theorem fig_no {T : Nat → Nat} {n p : Nat} (h : ¬ (p < n ∧ 48 ≤ T p ∧ T p ≤ 57)) : figB T n p = false := by
  cases e : figB T n p
  · rfl
  · exact absurd (fig_iff.mp e) h
theorem num_ok {T : Nat → Nat} {n p lo hi v q : Nat} (h : numN T n p lo hi = .inr (v, q)) : lo ≤ v ∧ v ≤ hi ∧ q ≤ n ∧ p < q := by
  unfold numN at h
  split at h
  · exact absurd h (by simp)
  · rename_i f1
    have g1 := fig_iff.mp (by cases e : figB T n p <;> simp_all : figB T n p = true)
    split at h
    · exact absurd h (by simp)
    · split at h
      · rename_i f2
        have g2 := fig_iff.mp f2
        split at h
        · exact absurd h (by simp)
        · split at h
          · exact absurd h (by simp)
          · injection h with h
            injection h with h1 h2
            omega
      · split at h
        · split at h <;> exact absurd h (by simp)
        · injection h with h
          injection h with h1 h2
          omega
theorem num_bad {T : Nat → Nat} {n p lo hi k : Nat} (hp : p ≤ n) (h : numN T n p lo hi = .inl k) : k ≤ n := by
  unfold numN at h
  split at h
  · injection h with h; omega
  · rename_i f1
    have g1 := fig_iff.mp (by cases e : figB T n p <;> simp_all : figB T n p = true)
    split at h
    · injection h with h; omega
    · split at h
      · split at h
        · injection h with h; omega
        · split at h
          · injection h with h; omega
          · exact absurd h (by simp)
      · split at h
        · split at h <;> injection h with h <;> omega
        · exact absurd h (by simp)
theorem sg_ok {T : Nat → Nat} {n p c q : Nat} (h : sgN T n p c = .inr q) : q = p + 1 ∧ p < n ∧ T p = c := by
  unfold sgN at h
  split at h
  · rename_i w
    injection h with h
    exact ⟨h.symm, w⟩
  · exact absurd h (by simp)
theorem sg_bad {T : Nat → Nat} {n p c k : Nat} (h : sgN T n p c = .inl k) : k = p ∧ ¬ (p < n ∧ T p = c) := by
  unfold sgN at h
  split at h
  · exact absurd h (by simp)
  · rename_i w
    injection h with h
    exact ⟨h.symm, w⟩
theorem pm_ok {T : Nat → Nat} {n p d q : Nat} (h : pmN T n p = .inr (d, q)) : d ≤ 1 ∧ q ≤ n := by
  unfold pmN at h
  split at h
  · injection h with h
    injection h with h1 h2
    omega
  · split at h
    · injection h with h
      injection h with h1 h2
      omega
    · exact absurd h (by simp)
theorem pm_bad {T : Nat → Nat} {n p k : Nat} (h : pmN T n p = .inl k) : k = p := by
  unfold pmN at h
  split at h
  · exact absurd h (by simp)
  · split at h
    · exact absurd h (by simp)
    · injection h with h
      exact h.symm
-- the class
def ffI : Option Nat → Int32
  | none => -9
  | some k => nI k
def ffo : Option Nat → Nat → Option Nat
  | none, k => some k
  | some j, _ => some j
def okO (o : Option Nat) : Prop := ∀ k, o = some k → k ≤ 20
theorem sp_failAt {o : Option Nat} (ho : okO o) {p : Nat} {x : Int32} (hx : x = nI p) {post : Int32 → Prop} (h : post (ffI (ffo o p))) : wp_X6_failAt (ffI o) x post := by
  unfold wp_X6_failAt
  subst hx
  cases o with
  | none => exact ⟨fun z => absurd rfl z, fun _ => h⟩
  | some k => exact ⟨fun _ => h, fun z => absurd z (neg9 (by have := ho k rfl; omega))⟩
theorem sp_next {A : Nat → Int32} {l : Int32} {T : Nat → Nat} {n : Nat} (hT : TX A l T n) {p : Nat} (hp : p ≤ n) {x : Int32} (hx : x = nI p) {post : Int32 → Prop} (h0 : n ≤ p → post (-1)) (h1 : p < n → post (nI (T p))) : wp_X6_next A l x post := by
  unfold wp_X6_next
  have hn := hT.1
  refine pk_lt p 0 (fun z => by omega) (fun _ => pk_le n p (fun w => h0 w) (fun w => pk_lt p 20 (fun _ => ⟨pk_in p 20 (by omega) hx, ?_⟩) (fun z => by omega) hx) hT.2.1 hx) hx
  rw [hx, nI_clamp (by omega), (hT.2.2 p w).1]
  exact h1 w
theorem sp_isFig {v : Nat} (hv : v < 256) {post : Int32 → Prop} (h0 : ¬ (48 ≤ v ∧ v ≤ 57) → post 0) (h1 : 48 ≤ v → v ≤ 57 → post 1) : wp_X6_isFigure (nI v) post := by
  unfold wp_X6_isFigure
  refine pk_lt v 48 (fun w => h0 (by omega)) (fun w => pk_lt 57 v (fun w2 => h0 (by omega)) (fun w2 => h1 w (by omega)))
theorem sp_fig {A : Nat → Int32} {l : Int32} {T : Nat → Nat} {n : Nat} (hT : TX A l T n) {p : Nat} (hp : p ≤ n) {x : Int32} (hx : x = nI p) {post : Int32 → Prop} (h0 : figB T n p = false → post 0) (h1 : figB T n p = true → post 1) : wp_X6_next A l x (fun r => wp_X6_isFigure r post) := by
  refine sp_next hT hp hx (fun w => ?_) (fun w => ?_)
  · unfold wp_X6_isFigure
    exact ⟨fun _ => h0 (fig_no (by omega)), fun z => absurd (by decide) z⟩
  · exact sp_isFig (hT.2.2 p w).2 (fun w2 => h0 (fig_no (fun z => w2 z.2))) (fun w1 w2 => h1 (fig_iff.mpr ⟨w, w1, w2⟩))
theorem sp_readSign {A : Nat → Int32} {l : Int32} {T : Nat → Nat} {n : Nat} (hT : TX A l T n) {p : Nat} (hp : p ≤ n) {x : Int32} (hx : x = nI p) {o : Option Nat} (ho : okO o) {c : Nat} (hc : c < 256) {y : Int32} (hy : y = nI c) {post : Int32 → Int32 → Prop} (h1 : ∀ q, sgN T n p c = .inr q → post (nI q) (ffI o)) (h0 : ∀ k, sgN T n p c = .inl k → post (nI p) (ffI (ffo o k))) : wp_X6_readSign A l x (ffI o) y post := by
  unfold wp_X6_readSign
  subst hx hy
  refine sp_next hT hp rfl (fun w => ?_) (fun w => ?_)
  · have e : sgN T n p c = .inl p := by unfold sgN; rw [if_neg (by omega)]
    exact ⟨fun _ => sp_failAt ho rfl (h0 p e), fun z => absurd (z ▸ nI_pos' (n := c) (by omega)) (by decide)⟩
  · have hb := (hT.2.2 p w).2
    refine pk_eq' (T p) c (fun w2 => ?_) (fun w2 => ?_)
    · have e : sgN T n p c = .inl p := by unfold sgN; rw [if_neg (fun z => w2 z.2)]
      exact sp_failAt ho rfl (h0 p e)
    · have e : sgN T n p c = .inr (p + 1) := by unfold sgN; rw [if_pos ⟨w, w2⟩]
      exact nm_r (nI_1 p) (h1 _ e)
theorem sp_readPM {A : Nat → Int32} {l : Int32} {T : Nat → Nat} {n : Nat} (hT : TX A l T n) {p : Nat} (hp : p ≤ n) {x : Int32} (hx : x = nI p) {o : Option Nat} (ho : okO o) {post : Int32 → Int32 → Int32 → Prop} (h1 : ∀ d q, pmN T n p = .inr (d, q) → post (nI d) (nI q) (ffI o)) (h0 : ∀ k, pmN T n p = .inl k → post 0 (nI p) (ffI (ffo o k))) : wp_X6_readPlusOrMinus A l x (ffI o) post := by
  unfold wp_X6_readPlusOrMinus
  subst hx
  refine sp_next hT hp rfl (fun w => ?_) (fun w => ?_)
  · have e : pmN T n p = .inl p := by unfold pmN; rw [if_neg (by omega), if_neg (by omega)]
    exact ⟨fun z => absurd z (by decide), fun _ => ⟨fun z => absurd z (by decide), fun _ => sp_failAt ho rfl (h0 p e)⟩⟩
  · have hb := (hT.2.2 p w).2
    unfold wpJ_X6_readPlusOrMinus_27
    refine pk_eq (T p) 43 (fun w2 => nm_r (nI_1 p) ?_) (fun w2 => pk_eq (T p) 45 (fun w3 => nm_r (nI_1 p) ?_) (fun w3 => ?_))
    · have e : pmN T n p = .inr (1, p + 1) := by unfold pmN; rw [if_pos ⟨w, w2⟩]
      rw [w2]
      exact ⟨fun z => absurd rfl z, fun _ => h1 1 _ e⟩
    · have e : pmN T n p = .inr (0, p + 1) := by unfold pmN; rw [if_neg (fun z => w2 z.2), if_pos ⟨w, w3⟩]
      rw [w3]
      exact ⟨fun _ => h1 0 _ e, fun z => absurd z (by decide)⟩
    · have e : pmN T n p = .inl p := by unfold pmN; rw [if_neg (fun z => w2 z.2), if_neg (fun z => w3 z.2)]
      exact sp_failAt ho rfl (h0 p e)
theorem w_fig1 {a : Nat} (h : 48 ≤ a) : ((10 : Int32) * (0 : Int32) + nI a) - (48 : Int32) = nI (a - 48) := by
  rw [show (10 : Int32) * (0 : Int32) = nI 0 from by decide, nI_add, Nat.zero_add]
  exact pk_sub (b := 48) h
theorem w_fig2 {v a : Nat} (h : 48 ≤ a) : ((10 : Int32) * nI v + nI a) - (48 : Int32) = nI (10 * v + (a - 48)) := by
  rw [show (10 : Int32) * nI v = nI (10 * v) from pk_mul 10 v, nI_add]
  have e : 10 * v + (a - 48) = 10 * v + a - 48 := by omega
  rw [e]
  exact pk_sub (b := 48) (by omega)
theorem sp_readNumber {A : Nat → Int32} {l : Int32} {T : Nat → Nat} {n : Nat} (hT : TX A l T n) {p : Nat} (hp : p ≤ n) {x : Int32} (hx : x = nI p) {o : Option Nat} (ho : okO o) {lo hi : Nat} (hlo : lo < 100) (hhi : hi < 100) {y z : Int32} (hy : y = nI lo) (hz : z = nI hi) {post : Int32 → Int32 → Int32 → Prop} (h1 : ∀ v q, numN T n p lo hi = .inr (v, q) → post (nI v) (nI q) (ffI o)) (h0 : ∀ k, numN T n p lo hi = .inl k → ∀ r q, q ≤ n → post r (nI q) (ffI (ffo o k))) : wp_X6_readNumber A l x (ffI o) y z post := by
  unfold wp_X6_readNumber
  subst hx hy hz
  have hn := hT.1
  refine ⟨3, ?_⟩
  rw [wpL_X6_readNumber_11]
  refine ⟨fun w => absurd w (by decide), fun _ => ?_⟩
  refine sp_fig hT hp rfl (fun w => ?_) (fun w => ?_)
  · have e : numN T n p lo hi = .inl p := by unfold numN; rw [if_pos w]
    refine y0' ?_
    unfold wpJ_X6_readNumber_74
    exact ⟨fun w2 => absurd rfl w2, fun _ => sp_failAt ho rfl (h0 p e _ p hp)⟩
  · have g := fig_iff.mp w
    refine y1' ?_
    refine sp_next hT hp rfl (fun w2 => by omega) (fun _ => nm_r (w_fig1 g.2.1) ?_)
    refine pk_le (T p - 48) hi (fun w2 => nm_r (nI_1 p) (nm_e ?_)) (fun w2 => ?_)
    · rw [show ((0 : Int32) + 1) = nI 1 from by decide, wpL_X6_readNumber_11]
      refine pk_le 2 1 (fun z => by omega) (fun _ => ?_)
      have e00 : numN T n p lo hi = if figB T n (p + 1) = true then (if hi < 10 * (T p - 48) + (T (p + 1) - 48) then .inl (p + 1) else if 10 * (T p - 48) + (T (p + 1) - 48) < lo then .inl p else .inr (10 * (T p - 48) + (T (p + 1) - 48), p + 2)) else if T p - 48 < lo then (if p + 1 = n then .inl (p + 1) else .inl p) else .inr (T p - 48, p + 1) := by
        conv => lhs; unfold numN
        rw [if_neg (by rw [w]; decide), if_neg (by omega)]
      refine sp_fig hT (by omega) rfl (fun w3 => y0' ?_) (fun w3 => y1' ?_)
      · rw [if_neg (by rw [w3]; decide)] at e00
        unfold wpJ_X6_readNumber_74
        refine pk_eq' (p + 1) p (fun _ => ?_) (fun z => by omega)
        refine pk_le lo (T p - 48) (fun w4 => ?_) (fun w4 => ?_)
        · rw [if_neg (by omega)] at e00
          exact h1 _ _ e00
        · rw [if_pos w4] at e00
          refine pk_eq' (p + 1) (p + 1) (fun z => absurd rfl z) (fun _ => ?_) rfl (nI_1 p)
          refine pk_lt (p + 1) n (fun w5 => ?_) (fun w5 => ?_) rfl hT.2.1
          · rw [if_neg (by omega)] at e00
            exact sp_failAt ho rfl (h0 p e00 _ _ (by omega))
          · rw [if_pos (by omega)] at e00
            exact sp_failAt ho rfl (h0 (p + 1) e00 _ _ (by omega))
      · have g2 := fig_iff.mp w3
        rw [if_pos w3] at e00
        refine sp_next hT (by omega) rfl (fun w2 => by omega) (fun _ => nm_r (w_fig2 g2.2.1) ?_)
        refine pk_le (10 * (T p - 48) + (T (p + 1) - 48)) hi (fun w4 => nm_r (nI_1 (p + 1)) (nm_r (nI_1 1) ?_)) (fun w4 => ?_)
        · rw [if_neg (by omega)] at e00
          rw [wpL_X6_readNumber_11]
          refine pk_le 2 (1 + 1) (fun _ => ?_) (fun z => by omega)
          unfold wpJ_X6_readNumber_74
          refine pk_eq' (p + 1 + 1) p (fun _ => ?_) (fun z => by omega)
          refine pk_le lo (10 * (T p - 48) + (T (p + 1) - 48)) (fun w5 => ?_) (fun w5 => ?_)
          · rw [if_neg (by omega)] at e00
            exact h1 _ _ e00
          · rw [if_pos w5] at e00
            refine pk_eq' (p + 1 + 1) (p + 1) (fun _ => ?_) (fun z => by omega) rfl (nI_1 p)
            exact sp_failAt ho rfl (h0 p e00 _ _ (by omega))
        · rw [if_pos w4] at e00
          exact sp_failAt ho rfl (h0 (p + 1) e00 _ _ (by omega))
    · have e : numN T n p lo hi = .inl p := by unfold numN; rw [if_neg (by rw [w]; decide), if_pos w2]
      exact sp_failAt ho rfl (h0 p e _ p hp)
-- the reference
theorem sp8_fig {A : Nat → Int32} {l : Int32} {T : Nat → Nat} {n : Nat} (hT : TX A l T n) {p : Nat} (hp : p ≤ n) {x : Int32} (hx : x = nI p) {post : Int32 → Prop} (h0 : figB T n p = false → post 0) (h1 : figB T n p = true → post 1) : wp_X8_isFigure A l x post := by
  unfold wp_X8_isFigure
  have hn := hT.1
  subst hx
  refine pk_le n p (fun w => h0 (fig_no (by omega))) (fun w => ⟨pk_in p 20 (by omega), ?_⟩) hT.2.1
  rw [nI_clamp (by omega), (hT.2.2 p w).1]
  have hb := (hT.2.2 p w).2
  have e48 : (48 : Int64).toInt = 48 := by decide
  have e57 : (57 : Int64).toInt = 57 := by decide
  refine sp8_in (fun g1 g2 => y1' (h1 (fig_iff.mpr ⟨w, ?_⟩))) (fun g => y0' (h0 (fig_no (fun z => ?_))))
  · rw [i64, nI_toInt (by omega)] at g1 g2
    rw [e48] at g1
    rw [e57] at g2
    omega
  · rw [i64, nI_toInt (by omega), e48, e57] at g
    omega
theorem sp8_sign {A : Nat → Int32} {l : Int32} {T : Nat → Nat} {n : Nat} (hT : TX A l T n) {p : Nat} (hp : p ≤ n) {x : Int32} (hx : x = nI p) {c : Nat} (hc : c < 256) {y : Int32} (hy : y = nI c) {post : Int32 → Int32 → Prop} (h1 : ∀ q, sgN T n p c = .inr q → post 1 (nI q)) (h0 : ∀ k, sgN T n p c = .inl k → post 0 (nI k)) : wp_X8_sign A l x y post := by
  unfold wp_X8_sign wp_X8_isAt
  have hn := hT.1
  subst hx hy
  have no : sgN T n p c = .inl p → (0 = (0 : Int32) → ∀ v_3 : Int32, v_3 = nI p + (0 : Int32) → isB (0 : Int32) ∧ post 0 v_3) ∧ (¬ 0 = (0 : Int32) → ∀ v_4 : Int32, v_4 = nI p + (1 : Int32) → isB (0 : Int32) ∧ post 0 v_4) := by
    intro e
    refine y0' ?_
    refine nm_r (nI_add p 0) ⟨isB_bool false, h0 p e⟩
  refine pk_le n p (fun w => no ?_) (fun w => ⟨pk_in p 20 (by omega), ?_⟩) hT.2.1
  · unfold sgN; rw [if_neg (by omega)]
  · rw [nI_clamp (by omega), (hT.2.2 p w).1]
    have hb := (hT.2.2 p w).2
    refine pk_eq' (T p) c (fun w2 => no ?_) (fun w2 => y1' (nm_r (nI_1 p) ⟨isB_bool true, h1 _ ?_⟩))
    · unfold sgN; rw [if_neg (fun z => w2 z.2)]
    · unfold sgN; rw [if_pos ⟨w, w2⟩]
theorem sp8_plus {A : Nat → Int32} {l : Int32} {T : Nat → Nat} {n : Nat} (hT : TX A l T n) {p : Nat} (hp : p ≤ n) {x : Int32} (hx : x = nI p) {post : Int32 → Int32 → Prop} (h1 : ∀ d q, pmN T n p = .inr (d, q) → post (nI d) (nI q)) (h0 : ∀ k, pmN T n p = .inl k → post (-9) (nI k)) : wp_X8_plus A l x post := by
  unfold wp_X8_plus
  refine sp8_sign hT hp hx (c := 43) (by decide) rfl (fun q e => y1' (h1 1 q ?_)) (fun k e => y0' ?_)
  · obtain ⟨rfl, w⟩ := sg_ok e
    unfold pmN; rw [if_pos w]
  · obtain ⟨rfl, w⟩ := sg_bad e
    refine sp8_sign hT hp rfl (c := 45) (by decide) rfl (fun q e2 => y1' (h1 0 q ?_)) (fun k2 e2 => y0' (h0 k2 ?_))
    · obtain ⟨rfl, w2⟩ := sg_ok e2
      unfold pmN; rw [if_neg w, if_pos w2]
    · obtain ⟨rfl, w2⟩ := sg_bad e2
      unfold pmN; rw [if_neg w, if_neg w2]
theorem sp8_number {A : Nat → Int32} {l : Int32} {T : Nat → Nat} {n : Nat} (hT : TX A l T n) {p : Nat} (hp : p ≤ n) {x : Int32} (hx : x = nI p) {lo hi : Nat} (hlo : lo < 100) (hhi : hi < 100) {y z : Int32} (hy : y = nI lo) (hz : z = nI hi) {post : Int32 → Int32 → Prop} (h1 : ∀ v q, numN T n p lo hi = .inr (v, q) → post (nI v) (nI q)) (h0 : ∀ k, numN T n p lo hi = .inl k → post (-9) (nI k)) : wp_X8_number A l x y z post := by
  unfold wp_X8_number
  subst hx hy hz
  have hn := hT.1
  refine sp8_fig hT hp rfl (fun w => y0 (h0 p ?_)) (fun w => y1 ?_)
  · unfold numN; rw [if_pos w]
  · have g := fig_iff.mp w
    refine ⟨pk_in p 20 (by omega), ?_⟩
    rw [nI_clamp (by omega), (hT.2.2 p g.1).1]
    refine nm_r (by exact pk_sub (a := T p) (b := 48) g.2.1) ?_
    have hb := (hT.2.2 p g.1).2
    refine pk_le (T p - 48) hi (fun w2 => nm_r (nI_1 p) ?_) (fun w2 => h0 p ?_)
    · have e00 : numN T n p lo hi = if figB T n (p + 1) = true then (if hi < 10 * (T p - 48) + (T (p + 1) - 48) then .inl (p + 1) else if 10 * (T p - 48) + (T (p + 1) - 48) < lo then .inl p else .inr (10 * (T p - 48) + (T (p + 1) - 48), p + 2)) else if T p - 48 < lo then (if p + 1 = n then .inl (p + 1) else .inl p) else .inr (T p - 48, p + 1) := by
        conv => lhs; unfold numN
        rw [if_neg (by rw [w]; decide), if_neg (by omega)]
      refine sp8_fig hT (by omega) rfl (fun w3 => y0' ?_) (fun w3 => y1' ?_)
      · rw [if_neg (by rw [w3]; decide)] at e00
        unfold wpJ_X8_number_106 wpJ_X8_number_131
        refine pk_le lo (T p - 48) (fun w4 => ?_) (fun w4 => ?_)
        · rw [if_neg (by omega)] at e00
          exact pk_le lo (T p - 48) (fun _ => h1 _ _ e00) (fun z => by omega)
        · rw [if_pos w4] at e00
          refine y0 ?_
          refine pk_eq' (p + 1) n (fun w5 => ?_) (fun w5 => ?_) rfl hT.2.1
          · rw [if_neg w5] at e00
            exact pk_le lo (T p - 48) (fun z => by omega) (fun _ => h0 _ e00)
          · rw [if_pos w5] at e00
            exact h0 _ e00
      · have g2 := fig_iff.mp w3
        rw [if_pos w3] at e00
        refine ⟨pk_in (p + 1) 20 (by omega), ?_⟩
        rw [nI_clamp (by omega), (hT.2.2 (p + 1) g2.1).1]
        refine nm_r (w_fig2 g2.2.1) ?_
        refine pk_le (10 * (T p - 48) + (T (p + 1) - 48)) hi (fun w4 => nm_r (nI_1 (p + 1)) ?_) (fun w4 => ?_)
        · rw [if_neg (by omega)] at e00
          unfold wpJ_X8_number_106 wpJ_X8_number_131
          refine pk_le lo (10 * (T p - 48) + (T (p + 1) - 48)) (fun w5 => ?_) (fun w5 => y1 ?_)
          · rw [if_neg (by omega)] at e00
            exact pk_le lo (10 * (T p - 48) + (T (p + 1) - 48)) (fun _ => h1 _ _ e00) (fun z => by omega)
          · rw [if_pos w5] at e00
            exact pk_le lo (10 * (T p - 48) + (T (p + 1) - 48)) (fun z => by omega) (fun _ => h0 _ e00)
        · rw [if_pos w4] at e00
          exact h0 _ e00
    · unfold numN; rw [if_neg (by rw [w]; decide), if_pos w2]
