/-! arguments that are none -/
theorem lgc_lt {a b : Int64} : lg_cmp a b < 0 ↔ a.toInt < b.toInt := by
  unfold lg_cmp
  by_cases h : a > b
  · rw [if_pos h]
    have h2 : b.toInt < a.toInt := Int64.lt_iff_toInt_lt.mp h
    exact ⟨fun z => absurd z (by decide), fun z => by omega⟩
  · rw [if_neg h]
    have h2 : ¬ b.toInt < a.toInt := fun z => h (Int64.lt_iff_toInt_lt.mpr z)
    by_cases e : a = b
    · rw [if_pos e, e]
      exact ⟨fun z => absurd z (by decide), fun z => by omega⟩
    · rw [if_neg e]
      have h3 : ¬ a.toInt = b.toInt := fun z => e (Int64.toInt_inj.mp z)
      exact ⟨fun _ => by omega, fun _ => by decide⟩
theorem lgc_gt {a b : Int64} : 0 < lg_cmp a b ↔ b.toInt < a.toInt := by
  unfold lg_cmp
  by_cases h : a > b
  · rw [if_pos h]
    have h2 : b.toInt < a.toInt := Int64.lt_iff_toInt_lt.mp h
    exact ⟨fun _ => h2, fun _ => by decide⟩
  · rw [if_neg h]
    have h2 : ¬ b.toInt < a.toInt := fun z => h (Int64.lt_iff_toInt_lt.mpr z)
    by_cases e : a = b
    · rw [if_pos e]
      exact ⟨fun z => absurd z (by decide), fun z => absurd z h2⟩
    · rw [if_neg e]
      exact ⟨fun z => absurd z (by decide), fun z => absurd z h2⟩
theorem sp8_in {a b c : Int64} {post : Int32 → Prop} (h1 : b.toInt ≤ a.toInt → a.toInt ≤ c.toInt → post 1) (h0 : a.toInt < b.toInt ∨ c.toInt < a.toInt → post 0) : wp_X8_in a b c post := by
  unfold wp_X8_in
  rw [lgc_lt, lgc_gt]
  refine ⟨fun z => h0 (Or.inl z), fun z => ⟨fun w => h0 (Or.inr w), fun w => h1 (by omega) (by omega)⟩⟩
theorem i64 (x : Int32) : x.toInt64.toInt = x.toInt := by simp
theorem neg_or {x : Int32} {B : Nat} (hB : B < 2 ^ 31) (h : x < 0 ∨ nI B ≤ x) : x.toInt < 0 ∨ (B : Int) ≤ x.toInt := by
  rcases h with h | h
  · left
    have := Int32.lt_iff_toInt_lt.mp h
    rwa [Int32.toInt_zero] at this
  · right
    have := Int32.le_iff_toInt_le.mp h
    rwa [nI_toInt hB] at this
theorem range_cases (x : Int32) (B : Nat) (hB : B < 2 ^ 31) : (∃ c, c < B ∧ x = nI c) ∨ (x < 0 ∨ nI B ≤ x) := by
  rcases pk_ix x hB with h | h | ⟨j, h1, h2⟩
  · exact Or.inr (Or.inl h)
  · exact Or.inr (Or.inr h)
  · exact Or.inl ⟨j, h1, h2⟩
theorem sp_isClause_bad {x : Int32} (hx : x < 0 ∨ nI 5 ≤ x) {post : Int32 → Prop} (h : post 0) : wp_X7_isClause x post := by
  unfold wp_X7_isClause
  refine ⟨fun _ => h, fun q => ⟨fun _ => h, fun q2 => ?_⟩⟩
  rcases hx with hx | hx
  · exact absurd hx q
  · exact absurd hx q2
theorem sp_isSet {x : Int32} {c : Nat} (hx : x = nI c) (hc : c < 16) {post : Int32 → Prop} (h : post 1) : wp_X7_isSet x post := by
  unfold wp_X7_isSet
  exact pk_lt c 0 (fun h => by omega) (fun _ => pk_le 16 c (fun h => by omega) (fun _ => h) rfl hx) hx
theorem sp_isSet_bad {x : Int32} (hx : x < 0 ∨ nI 16 ≤ x) {post : Int32 → Prop} (h : post 0) : wp_X7_isSet x post := by
  unfold wp_X7_isSet
  refine ⟨fun _ => h, fun q => ⟨fun _ => h, fun q2 => ?_⟩⟩
  rcases hx with hx | hx
  · exact absurd hx q
  · exact absurd hx q2
theorem c64 (n : Nat) (h : n < 2 ^ 31) : (Int64.ofNat n).toInt = (n : Int) := lN_toInt h
theorem sp8_noClause {x : Int32} {c : Nat} (hx : x = nI c) (hc : c < 5) {post : Int32 → Prop} (h : post 0) : wp_X8_noClause x post := by
  unfold wp_X8_noClause
  refine sp8_in (fun _ _ => ⟨fun _ => h, fun z => absurd z (by decide)⟩) (fun z => ?_)
  rw [i64, hx, nI_toInt (by omega)] at z
  have e1 : ((0 : Int64)).toInt = 0 := by decide
  have e2 : ((4 : Int64)).toInt = 4 := by decide
  rw [e1, e2] at z
  omega
theorem sp8_noClause_bad {x : Int32} (hx : x < 0 ∨ nI 5 ≤ x) {post : Int32 → Prop} (h : post 1) : wp_X8_noClause x post := by
  unfold wp_X8_noClause
  have hx := neg_or (by decide) hx
  refine sp8_in (fun z1 z2 => ?_) (fun _ => ⟨fun z => absurd rfl z, fun _ => h⟩)
  rw [i64] at z1 z2
  have e1 : ((0 : Int64)).toInt = 0 := by decide
  have e2 : ((4 : Int64)).toInt = 4 := by decide
  rw [e1] at z1
  rw [e2] at z2
  omega
theorem sp8_noSet {x : Int32} {c : Nat} (hx : x = nI c) (hc : c < 16) {post : Int32 → Prop} (h : post 0) : wp_X8_noSet x post := by
  unfold wp_X8_noSet
  refine sp8_in (fun _ _ => ⟨fun _ => h, fun z => absurd z (by decide)⟩) (fun z => ?_)
  rw [i64, hx, nI_toInt (by omega)] at z
  have e1 : ((0 : Int64)).toInt = 0 := by decide
  have e2 : ((15 : Int64)).toInt = 15 := by decide
  rw [e1, e2] at z
  omega
theorem sp8_noSet_bad {x : Int32} (hx : x < 0 ∨ nI 16 ≤ x) {post : Int32 → Prop} (h : post 1) : wp_X8_noSet x post := by
  unfold wp_X8_noSet
  have hx := neg_or (by decide) hx
  refine sp8_in (fun z1 z2 => ?_) (fun _ => ⟨fun z => absurd rfl z, fun _ => h⟩)
  rw [i64] at z1 z2
  have e1 : ((0 : Int64)).toInt = 0 := by decide
  have e2 : ((15 : Int64)).toInt = 15 := by decide
  rw [e1] at z1
  rw [e2] at z2
  omega
-- acts
theorem act_cases (x : Int32) : (∃ k, k < 20 ∧ x = nI (actN k)) ∨ ∀ k, k < 20 → x ≠ nI (actN k) := by
  by_cases h : ∃ k, k < 20 ∧ x = nI (actN k)
  · exact Or.inl h
  · exact Or.inr (fun k hk z => h ⟨k, hk, z⟩)
theorem act_of {a : Nat} (h1 : a % 10 = 0) (h2 : a / 100 < 5) (h3 : a / 10 % 10 ≤ 3) : ∃ k, k < 20 ∧ a = actN k := ⟨a / 100 * 4 + a / 10 % 10, by omega, by unfold actN; omega⟩
theorem sp_actExists {x : Int32} {k : Nat} (hx : x = nI (actN k)) (hk : k < 20) {post : Int32 → Prop} (h : post 1) : wp_X0_exists x post := by
  unfold wp_X0_exists
  subst hx
  have hal := actN_lt hk
  refine pk_lt (actN k) 0 (fun z => by omega) (fun _ => ?_)
  have er : nI (actN k) - nI (actN k) / (10 : Int32) * (10 : Int32) = nI (actN k % 10) := pk_rem (a := actN k) (d := 10) (by omega) (by decide) (by decide)
  rw [er, actN_ten hk]
  refine ⟨fun z => absurd rfl z, fun _ => ?_⟩
  refine sp_X0_clauseOf rfl (by omega) ?_
  rw [actN_div hk]
  refine pk_le 5 (k / 4) (fun z => by omega) (fun _ => ?_)
  refine sp_X0_formOf rfl (by omega) ?_
  rw [actN_mod hk]
  exact pk_lt 3 (k % 4) (fun z => by omega) (fun _ => h)
theorem sp_actExists_bad {x : Int32} (hx : ∀ k, k < 20 → x ≠ nI (actN k)) {post : Int32 → Prop} (h : post 0) : wp_X0_exists x post := by
  unfold wp_X0_exists
  refine ⟨fun _ => h, fun q => ?_⟩
  obtain ⟨a, ha, rfl⟩ := nI_of q
  have er : nI a - nI a / (10 : Int32) * (10 : Int32) = nI (a % 10) := pk_rem (a := a) (d := 10) (by omega) (by decide) (by decide)
  rw [er]
  refine ⟨fun _ => h, fun q1 => ?_⟩
  have q1 : a % 10 = 0 := (nI_eq (b := 0) (by omega) (by decide)).mp q1
  refine sp_X0_clauseOf rfl (by omega) ?_
  refine pk_le 5 (a / 100) (fun _ => h) (fun q2 => ?_)
  refine sp_X0_formOf rfl (by omega) ?_
  refine pk_lt 3 (a / 10 % 10) (fun _ => h) (fun q3 => ?_)
  obtain ⟨k, hk, e⟩ := act_of q1 q2 q3
  exact absurd (by rw [e]) (hx k hk)
theorem sp8_noAct {x : Int32} {k : Nat} (hx : x = nI (actN k)) (hk : k < 20) {post : Int32 → Prop} (h : post 0) : wp_X8_noAct x post := by
  unfold wp_X8_noAct
  have hal := actN_lt hk
  subst hx
  have er : nI (actN k) - nI (actN k) / (10 : Int32) * (10 : Int32) = nI (actN k % 10) := pk_rem (a := actN k) (d := 10) (by omega) (by decide) (by decide)
  rw [er, actN_ten hk, w_formA (by omega), actN_mod hk]
  refine sp8_in (fun _ _ => ⟨fun z => absurd z (by decide), fun _ => ⟨fun z => absurd rfl z, fun _ => pk_le (k % 4) 3 (fun _ => h) (fun z => by omega)⟩⟩) (fun z => ?_)
  rw [i64, nI_toInt (by omega)] at z
  have e1 : ((0 : Int64)).toInt = 0 := by decide
  have e2 : ((430 : Int64)).toInt = 430 := by decide
  rw [e1, e2] at z
  omega
theorem sp8_noAct_bad {x : Int32} (hx : ∀ k, k < 20 → x ≠ nI (actN k)) {post : Int32 → Prop} (h : post 1) : wp_X8_noAct x post := by
  unfold wp_X8_noAct
  refine sp8_in (fun z1 z2 => ?_) (fun _ => ⟨fun _ => h, fun z => absurd rfl z⟩)
  refine ⟨fun _ => h, fun _ => ⟨fun _ => h, fun q1 => ⟨fun q3 => ?_, fun _ => h⟩⟩⟩
  rw [i64] at z1 z2
  have e1 : ((0 : Int64)).toInt = 0 := by decide
  have e2 : ((430 : Int64)).toInt = 430 := by decide
  rw [e1] at z1
  rw [e2] at z2
  have hq : ¬ x < 0 := fun w => by
    have := Int32.lt_iff_toInt_lt.mp w
    rw [Int32.toInt_zero] at this
    omega
  obtain ⟨a, ha, rfl⟩ := nI_of hq
  rw [nI_toInt ha] at z2
  have er : nI a - nI a / (10 : Int32) * (10 : Int32) = nI (a % 10) := pk_rem (a := a) (d := 10) (by omega) (by decide) (by decide)
  rw [er] at q1
  have q1 : a % 10 = 0 := (nI_eq (b := 0) (by omega) (by decide)).mp q1
  rw [w_formA (by omega)] at q3
  have q3 : a / 10 % 10 ≤ 3 := (nI_leI (b := 3) (by omega) (by decide)).mp q3
  obtain ⟨k, hk, e⟩ := act_of q1 (by omega) q3
  exact absurd (by rw [e]) (hx k hk)
-- goals
theorem goal_cases (x : Int32) : (∃ g, goalN g ∧ x = nI g) ∨ ∀ g, goalN g → x ≠ nI g := by
  by_cases h : ∃ g, goalN g ∧ x = nI g
  · exact Or.inl h
  · exact Or.inr (fun k hk z => h ⟨k, hk, z⟩)
theorem sp_goalExists {x : Int32} {g : Nat} (hx : x = nI g) (hg : goalN g) {post : Int32 → Prop} (h : post 1) : wp_X1_exists x post := by
  unfold wp_X1_exists
  subst hx
  have hl := hg.lt
  have er : nI g - nI g / (10 : Int32) * (10 : Int32) = nI (g % 10) := pk_rem (a := g) (d := 10) (by omega) (by decide) (by decide)
  rw [er]
  have e2 : nI g / (10 : Int32) = nI (g / 10) := pk_div (a := g) (d := 10) (by omega) (by decide) (by decide)
  rw [e2]
  unfold goalN at hg
  exact pk_le 0 g (fun _ => pk_le 100 g (fun _ => pk_le 150 g (fun z => by omega) (fun _ => pk_lt 3 (g % 10) (fun z => by omega) (fun _ => h))) (fun _ => pk_le 4 (g / 10) (fun z => by omega) (fun _ => pk_lt 1 (g % 10) (fun z => by omega) (fun _ => h)))) (fun z => by omega)
theorem sp_goalExists_bad {x : Int32} (hx : ∀ g, goalN g → x ≠ nI g) {post : Int32 → Prop} (h : post 0) : wp_X1_exists x post := by
  unfold wp_X1_exists
  refine ⟨fun q => ?_, fun _ => h⟩
  have hq : ¬ x < 0 := fun w => by
    have h1 := Int32.lt_iff_toInt_lt.mp w
    have h2 := Int32.le_iff_toInt_le.mp q
    omega
  obtain ⟨g, hl, rfl⟩ := nI_of hq
  have er : nI g - nI g / (10 : Int32) * (10 : Int32) = nI (g % 10) := pk_rem (a := g) (d := 10) (by omega) (by decide) (by decide)
  rw [er]
  have e2 : nI g / (10 : Int32) = nI (g / 10) := pk_div (a := g) (d := 10) (by omega) (by decide) (by decide)
  rw [e2]
  refine pk_le 100 g (fun z0 => pk_le 150 g (fun _ => h) (fun z1 => pk_lt 3 (g % 10) (fun _ => h) (fun z2 => ?_))) (fun z0 => pk_le 4 (g / 10) (fun _ => h) (fun z1 => pk_lt 1 (g % 10) (fun _ => h) (fun z2 => ?_)))
  · exact absurd rfl (hx g (by unfold goalN; omega))
  · exact absurd rfl (hx g (by unfold goalN; omega))
