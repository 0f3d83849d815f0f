theorem nI_ofInt {x : Int32} {n : Nat} (h0 : 0 ≤ x.toInt) (h1 : x.toInt ≤ n) : ∃ a, a ≤ n ∧ x = nI a := by
  have hq : ¬ x < 0 := fun w => by
    have := Int32.lt_iff_toInt_lt.mp w
    rw [Int32.toInt_zero] at this
    omega
  obtain ⟨a, ha, rfl⟩ := nI_of hq
  rw [nI_toInt ha] at h1
  exact ⟨a, by omega, rfl⟩
theorem J53_thing {post : Int32 → Prop} {y : Int32} (h : post 0) : wpJ_X8_noGoal_53 post 1 y := ⟨fun _ => h, fun z => absurd z (by decide)⟩
theorem J25_thing {post : Int32 → Prop} {x : Int32} (h : post 0) : wpJ_X8_noGoal_25 post x 1 := by
  unfold wpJ_X8_noGoal_25 wpJ_X8_noGoal_52
  exact sp8_in (fun _ _ => ⟨fun z => absurd z (by decide), fun _ => ⟨fun _ => J53_thing h, fun _ => J53_thing h⟩⟩) (fun _ => ⟨fun _ => J53_thing h, fun z => absurd rfl z⟩)
theorem J25_no {post : Int32 → Prop} {x : Int32} (hx : ∀ g, goalN g → x ≠ nI g) (h : post 1) : wpJ_X8_noGoal_25 post x 0 := by
  unfold wpJ_X8_noGoal_25 wpJ_X8_noGoal_52
  have no : wpJ_X8_noGoal_53 post 0 0 := ⟨fun z => absurd rfl z, fun _ => ⟨fun z => absurd rfl z, fun _ => h⟩⟩
  refine sp8_in (fun z1 z2 => ⟨fun z => absurd z (by decide), fun _ => ⟨fun _ => no, fun q => ?_⟩⟩) (fun _ => ⟨fun _ => no, fun z => absurd rfl z⟩)
  rw [i64] at z1 z2
  have e1 : ((100 : Int64)).toInt = 100 := by decide
  have e2 : ((143 : Int64)).toInt = 143 := by decide
  rw [e1] at z1
  rw [e2] at z2
  obtain ⟨g, hl, rfl⟩ := nI_ofInt (x := x) (n := 143) (by omega) (by omega)
  rw [nI_toInt (by omega)] at z1
  have er : nI g - nI g / (10 : Int32) * (10 : Int32) = nI (g % 10) := pk_rem (a := g) (d := 10) (by omega) (by decide) (by decide)
  rw [er] at q
  have q2 : ¬ 4 ≤ g % 10 := fun w => q ((nI_leI (a := 4) (by decide) (by omega)).mpr w)
  exact absurd rfl (hx g (by unfold goalN; omega))
theorem J25_clause {post : Int32 → Prop} {g : Nat} {y : Int32} (hg : goalN g) (h100 : 100 ≤ g) (h : post 0) (hy : y = 0 ∨ y = 1) : wpJ_X8_noGoal_25 post (nI g) y := by
  rcases hy with rfl | rfl
  · unfold wpJ_X8_noGoal_25
    have hl := hg.lt
    have er : nI g - nI g / (10 : Int32) * (10 : Int32) = nI (g % 10) := pk_rem (a := g) (d := 10) (by omega) (by decide) (by decide)
    rw [er]
    refine sp8_in (fun z1 z2 => ⟨fun z => absurd z (by decide), fun _ => ?_⟩) (fun z => ?_)
    · refine pk_le 4 (g % 10) (fun z => by unfold goalN at hg; omega) (fun _ => ?_)
      exact ⟨fun z => absurd rfl z, fun _ => ⟨fun _ => h, fun z => absurd z (by decide)⟩⟩
    · rw [i64, nI_toInt (by omega)] at z
      have e1 : ((100 : Int64)).toInt = 100 := by decide
      have e2 : ((143 : Int64)).toInt = 143 := by decide
      rw [e1, e2] at z
      unfold goalN at hg
      omega
  · exact J25_thing h
theorem sp8_noGoal {x : Int32} {g : Nat} (hx : x = nI g) (hg : goalN g) {post : Int32 → Prop} (h : post 0) : wp_X8_noGoal x post := by
  unfold wp_X8_noGoal wpJ_X8_noGoal_24
  subst hx
  have hl := hg.lt
  have er : nI g - nI g / (10 : Int32) * (10 : Int32) = nI (g % 10) := pk_rem (a := g) (d := 10) (by omega) (by decide) (by decide)
  rw [er]
  by_cases h100 : 100 ≤ g
  · have hc := fun (y : Int32) (hy : y = 0 ∨ y = 1) => J25_clause (post := post) hg h100 h hy
    exact sp8_in (fun _ _ => ⟨fun z => absurd z (by decide), fun _ => ⟨fun _ => hc 0 (Or.inl rfl), fun _ => hc 1 (Or.inr rfl)⟩⟩) (fun _ => ⟨fun _ => hc 0 (Or.inl rfl), fun z => absurd rfl z⟩)
  · refine sp8_in (fun _ _ => ⟨fun z => absurd z (by decide), fun _ => ?_⟩) (fun z => ?_)
    · exact pk_le 2 (g % 10) (fun z => by unfold goalN at hg; omega) (fun _ => J25_thing h)
    · rw [i64, nI_toInt (by omega)] at z
      have e1 : ((0 : Int64)).toInt = 0 := by decide
      have e2 : ((31 : Int64)).toInt = 31 := by decide
      rw [e1, e2] at z
      unfold goalN at hg
      omega
theorem sp8_noGoal_bad {x : Int32} (hx : ∀ g, goalN g → x ≠ nI g) {post : Int32 → Prop} (h : post 1) : wp_X8_noGoal x post := by
  unfold wp_X8_noGoal wpJ_X8_noGoal_24
  have hn := J25_no (post := post) hx h
  refine sp8_in (fun z1 z2 => ⟨fun z => absurd z (by decide), fun _ => ⟨fun _ => hn, fun q => ?_⟩⟩) (fun _ => ⟨fun _ => hn, fun z => absurd rfl z⟩)
  rw [i64] at z1 z2
  have e1 : ((0 : Int64)).toInt = 0 := by decide
  have e2 : ((31 : Int64)).toInt = 31 := by decide
  rw [e1] at z1
  rw [e2] at z2
  obtain ⟨g, hl, rfl⟩ := nI_ofInt (x := x) (n := 31) (by omega) (by omega)
  have er : nI g - nI g / (10 : Int32) * (10 : Int32) = nI (g % 10) := pk_rem (a := g) (d := 10) (by omega) (by decide) (by decide)
  rw [er] at q
  have q2 : ¬ 2 ≤ g % 10 := fun w => q ((nI_leI (a := 2) (by decide) (by omega)).mpr w)
  exact absurd rfl (hx g (by unfold goalN; omega))
/-! how the class and the reference agree between calls -/
def RT (bytes : Nat → Int32) (length : Int32) (text : Nat → Int32) (textSize : Int32) : Prop := ∃ n, n ≤ 20 ∧ length = nI n ∧ textSize = nI n ∧ ∀ j, j < n → bytes j = text j ∧ ∃ v, v < 256 ∧ bytes j = nI v
def RS (t : Nat → Nat) (state now : Int32) : Prop := ∃ s, SV t s ∧ state = nI s ∧ now = nI (ph s)
def RRo (rolled rolls : Int32) (rollSets rollActs rollSet rollAct : Nat → Int32) : Prop := ∃ (r : Nat) (S A : Nat → Nat), r ≤ 20 ∧ rolled = nI r ∧ rolls = nI r ∧ ∀ j, j < r → S j < 16 ∧ A j < 20 ∧ rollSets j = nI (S j) ∧ rollSet j = nI (S j) ∧ rollActs j = nI (actN (A j)) ∧ rollAct j = nI (actN (A j))
def RKe (kept slots isKept : Nat → Int32) : Prop := ∀ j, j < 3 → (isKept j = 0 ∧ kept j = -9) ∨ (isKept j = 1 ∧ ∃ k, k < 16384 ∧ kept j = nI k ∧ slots j = nI (ph k))
def RCb (N : Nat) (cameBy : Nat → Int32) (runs : Int32) : Prop := ∃ R, R ≤ 100 * N ∧ CB cameBy runs R
def RLa (t : Nat → Nat) (G : Nat → Nat) (told parts hm hv ownSeats forms formMany seats : Nat → Int32) : Prop := LW t parts G told hm hv ∧ SD G ownSeats ∧ MLW t parts G forms formMany seats
def REL (N : Nat) (tx_bytes : Nat → Int32) (tx_length : Int32) (md_text : Nat → Int32) (md_textSize : Int32) (lw_told : Nat → Int32) (lw_parts : Nat → Int32) (lw_hangMasks : Nat → Int32) (lw_hangValues : Nat → Int32) (lw_ownSeats : Nat → Int32) (md_forms : Nat → Int32) (md_formMany : Nat → Int32) (md_seats : Nat → Int32) (sl_state : Int32) (md_now : Int32) (sl_rolled : Int32) (md_rolls : Int32) (sl_rollSets : Nat → Int32) (sl_rollActs : Nat → Int32) (md_rollSet : Nat → Int32) (md_rollAct : Nat → Int32) (sl_kept : Nat → Int32) (md_slots : Nat → Int32) (md_isKept : Nat → Int32) (md_barAlways : Int32) (md_noPut : Int32) (se_cameBy : Nat → Int32) (se_runs : Int32) : Prop :=
  RT tx_bytes tx_length md_text md_textSize ∧ (∃ t G, RLa t G lw_told lw_parts lw_hangMasks lw_hangValues lw_ownSeats md_forms md_formMany md_seats ∧ RS t sl_state md_now) ∧ RRo sl_rolled md_rolls sl_rollSets sl_rollActs md_rollSet md_rollAct ∧ RKe sl_kept md_slots md_isKept ∧ (md_barAlways = -9 ∧ md_noPut = -9) ∧ RCb N se_cameBy se_runs
theorem RCb.succ {N : Nat} {c : Nat → Int32} {r : Int32} (h : RCb N c r) : RCb (N + 1) c r := by
  obtain ⟨R, h1, h2⟩ := h
  exact ⟨R, by omega, h2⟩
theorem REL.succ {N : Nat} {tx_bytes : Nat → Int32} {tx_length : Int32} {md_text : Nat → Int32} {md_textSize : Int32} {lw_told : Nat → Int32} {lw_parts : Nat → Int32} {lw_hangMasks : Nat → Int32} {lw_hangValues : Nat → Int32} {lw_ownSeats : Nat → Int32} {md_forms : Nat → Int32} {md_formMany : Nat → Int32} {md_seats : Nat → Int32} {sl_state : Int32} {md_now : Int32} {sl_rolled : Int32} {md_rolls : Int32} {sl_rollSets : Nat → Int32} {sl_rollActs : Nat → Int32} {md_rollSet : Nat → Int32} {md_rollAct : Nat → Int32} {sl_kept : Nat → Int32} {md_slots : Nat → Int32} {md_isKept : Nat → Int32} {md_barAlways : Int32} {md_noPut : Int32} {se_cameBy : Nat → Int32} {se_runs : Int32} (h : REL N tx_bytes tx_length md_text md_textSize lw_told lw_parts lw_hangMasks lw_hangValues lw_ownSeats md_forms md_formMany md_seats sl_state md_now sl_rolled md_rolls sl_rollSets sl_rollActs md_rollSet md_rollAct sl_kept md_slots md_isKept md_barAlways md_noPut se_cameBy se_runs) : REL (N + 1) tx_bytes tx_length md_text md_textSize lw_told lw_parts lw_hangMasks lw_hangValues lw_ownSeats md_forms md_formMany md_seats sl_state md_now sl_rolled md_rolls sl_rollSets sl_rollActs md_rollSet md_rollAct sl_kept md_slots md_isKept md_barAlways md_noPut se_cameBy se_runs := ⟨h.1, h.2.1, h.2.2.1, h.2.2.2.1, h.2.2.2.2.1, h.2.2.2.2.2.succ⟩
