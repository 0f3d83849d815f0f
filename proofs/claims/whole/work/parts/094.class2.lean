/-! the class's sight of a state -/
def VB (P : Nat → Int32) (G : Nat → Nat) (set bars s i : Nat) (votes : Nat → Int32) (barred : Int32) : Prop :=
  (∀ b, b < 3 → votes b = nI (ownV G set b + sm (exT P set s b) i)) ∧ ∃ m, m < 32 ∧ barred = nI m ∧ ∀ x, x < 5 → bt m x = (bt bars x || anyN (baT P s x) i)
theorem frc_fo {P : Nat → Int32} {s c : Nat} (h : frc P s c = true) : fo s c ≠ 0 := by
  unfold frc at h
  simp only [Bool.and_eq_true, bne_iff_ne] at h
  exact h.1
theorem VB.same {P : Nat → Int32} {G : Nat → Nat} {set bars s i : Nat} {votes : Nat → Int32} {barred : Int32} (h : VB P G set bars s i votes barred) (h1 : ∀ b, b < 3 → exT P set s b i = 0) (h2 : ∀ x, x < 5 → baT P s x i = false) : VB P G set bars s (i + 1) votes barred := by
  obtain ⟨hv, m, hm, e, hb⟩ := h
  refine ⟨fun b hb => ?_, m, hm, e, fun x hx => ?_⟩
  · rw [hv b hb]
    show _ = nI (ownV G set b + (sm (exT P set s b) i + exT P set s b i))
    rw [h1 b hb]
    rfl
  · rw [hb x hx]
    show _ = (bt bars x || (anyN (baT P s x) i || baT P s x i))
    rw [h2 x hx, Bool.or_false]
theorem VB.idle {P : Nat → Int32} {G : Nat → Nat} {set bars s i : Nat} {votes : Nat → Int32} {barred : Int32} (h : VB P G set bars s i votes barred) (hf : frc P s i = false) : VB P G set bars s (i + 1) votes barred := by
  refine h.same (fun b _ => ?_) (fun x _ => ?_)
  · unfold exT; simp [hf]
  · unfold baT; simp [hf]
theorem sp_heed {t : Nat → Nat} {P : Nat → Int32} {G : Nat → Nat} (hP : LWP t P) {set bars s c : Nat} (hs : SV t s) (hc : c < 5) (hset : set < 16) (hf : frc P s c = true) {x : Int32} (hx : x = nI (rwN c s)) {votes : Nat → Int32} {barred : Int32} (hv : VB P G set bars s c votes barred) {post : (Nat → Int32) → Int32 → Prop} (h : ∀ v b, VB P G set bars s (c + 1) v b → post v b) : wp_X4_heed votes (nI set) barred P x post := by
  unfold wp_X4_heed
  have hr := rwN_lt (s := s) hc
  have hwf := hP.wf hs hc (frc_fo hf)
  subst hx
  refine sp_part (rwN c s) (by exact nI_add _ 0) (by omega) ?_
  refine ⟨fun h3 => ⟨fun h4 => ?_, fun h4 => ?_⟩, fun h3 => ?_⟩
  · refine h _ _ (hv.same (fun b _ => ?_) (fun x _ => ?_))
    · unfold exT; simp [h4]
    · unfold baT; simp [h3]
  · obtain ⟨n1, n2, n3⟩ := hwf.seats h4
    have e1 := n1.val
    have e2 := n2.val
    have e3 := n3.val
    have hbt : ∀ x, x < 5 → baT P s x c = false := fun x _ => by unfold baT; simp [h3]
    refine sp_part (rwN c s + 2) (by exact nI_add _ 2) (by omega) ?_
    rw [e2.1, w_bit (by omega) (by omega)]
    have hlt := Nat.mod_lt (set / 2 ^ Pn P (rwN c s + 2)) (show 0 < 2 by decide)
    refine ⟨fun q => ?_, fun q => ?_⟩
    · have hb : bt set (Pn P (rwN c s + 2)) = false := by
        rw [bt_zero]
        have : ¬ set / 2 ^ Pn P (rwN c s + 2) % 2 = 1 := fun z => q (by rw [z]; rfl)
        omega
      refine h _ _ (hv.same (fun b _ => ?_) hbt)
      unfold exT; simp [hb]
    · have hb : bt set (Pn P (rwN c s + 2)) = true := by
        rw [bt_iff]
        exact (nI_eq (b := 1) (by omega) (by decide)).mp q
      refine sp_part (rwN c s + 1) (by exact nI_add _ 1) (by omega) ?_
      refine sp_part (rwN c s + 3) (by exact nI_add _ 3) (by omega) ?_
      refine sp_addVotes e1.1 (by omega) ?_
      obtain ⟨hv, m, hm, e, hbb⟩ := hv
      refine h _ _ ⟨fun b hb3 => ?_, m, hm, e, fun x hx => ?_⟩
      · show upd votes _ _ b = nI (ownV G set b + (sm (exT P set s b) c + exT P set s b c))
        by_cases hbq : b = Pn P (rwN c s + 1)
        · subst hbq
          rw [pk_us, hv _ hb3, e3.1, nI_add]
          have : exT P set s (Pn P (rwN c s + 1)) c = Pn P (rwN c s + 3) := by unfold exT; simp [hf, h4, hb]
          rw [this, Nat.add_assoc]
        · rw [pk_un hbq, hv b hb3]
          have : exT P set s b c = 0 := by
            unfold exT
            have : (Pn P (rwN c s + 1) == b) = false := by simp; omega
            simp [this]
          rw [this]
          rfl
      · rw [hbb x hx]
        show _ = (bt bars x || (anyN (baT P s x) c || baT P s x c))
        rw [hbt x hx, Bool.or_false]
  · have e1 := (hwf.bar h3).val
    refine sp_part (rwN c s + 1) (by exact nI_add _ 1) (by omega) ?_
    refine nm_e ?_
    obtain ⟨hv, m, hm, e, hbb⟩ := hv
    rw [e, e1.1, w_set hm (by omega)]
    obtain ⟨g1, g2⟩ := bt_set m hm (Pn P (rwN c s + 1)) (by omega)
    refine h _ _ ⟨fun b hb3 => ?_, _, g1, rfl, fun x hx => ?_⟩
    · rw [hv b hb3]
      show _ = nI (ownV G set b + (sm (exT P set s b) c + exT P set s b c))
      have : exT P set s b c = 0 := by
        unfold exT
        simp [h3]
      rw [this]
      rfl
    · rw [g2 x hx, hbb x hx]
      show _ = (bt bars x || (anyN (baT P s x) c || baT P s x c))
      have : baT P s x c = decide (x = Pn P (rwN c s + 1)) := by
        unfold baT
        rw [hf, h3]
        simp
        by_cases q : x = Pn P (rwN c s + 1)
        · simp [q]
        · have q2 : ¬ Pn P (rwN c s + 1) = x := fun z => q z.symm
          simp [q, q2]
      rw [this, Bool.or_assoc]
/-- what a look at a state leaves -/
def LK (P : Nat → Int32) (G : Nat → Nat) (set bars s i : Nat) (votes rows : Nat → Int32) (now forced barred : Int32) : Prop :=
  VB P G set bars s i votes barred ∧ (∀ c, c < i → rows c = nI (rwN c s)) ∧ now = nI s ∧ ∃ m, m < 32 ∧ forced = nI m ∧ ∀ c, c < 5 → bt m c = (decide (c < i) && frc P s c)
/-- a sight that was chosen -/
def SC (G : Nat → Nat) (set bars : Nat) (ownVotes : Nat → Int32) (groups barsI : Int32) : Prop := set < 16 ∧ bars < 32 ∧ (∀ b, b < 3 → ownVotes b = nI (ownV G set b)) ∧ groups = nI set ∧ barsI = nI bars
theorem sp_look {t : Nat → Nat} {P hm hv : Nat → Int32} {G : Nat → Nat} (hP : LWP t P) (hH : LH t P hm hv) {set bars s : Nat} (hs : SV t s) {x : Int32} (hx : x = nI s) {ownVotes votes rows : Nat → Int32} {groups barsI now forced barred : Int32} (hS : SC G set bars ownVotes groups barsI) {post : (Nat → Int32) → (Nat → Int32) → Int32 → Int32 → Int32 → Prop} (h : ∀ v r n f b, LK P G set bars s 5 v r n f b → post v r n f b) : wp_X4_look ownVotes votes rows groups barsI now forced barred P hm hv x post := by
  obtain ⟨hset, hbars, hov, hg, hbi⟩ := hS
  unfold wp_X4_look
  refine nm_e ?_
  subst hx hg hbi
  have main : ∀ n i, i ≤ 5 → 5 < n + i → ∀ v r nw f b, LK P G set bars s i v r nw f b → wpL_X4_look_34 ownVotes (nI set) (nI bars) P hm hv post n v r nw f b (nI s) (nI i) := by
    intro n
    induction n with
    | zero => intro i hi hn; omega
    | succ n ih =>
      intro i hi hn v r nw f b hL
      rw [wpL_X4_look_34]
      refine pk_le 5 i (fun h5 => ?_) (fun h5 => ?_)
      · have : i = 5 := by omega
        subst this
        exact h _ _ _ _ _ hL
      · have hs1 := hs.1
        refine sp_X5_formOf rfl rfl (by omega) h5 ?_
        refine sp_X2_rowOf rfl rfl ?_
        refine ⟨pk_in i 5 h5, nm_e ?_⟩
        rw [nI_clamp (by omega)]
        obtain ⟨hVB, hrows, hnow, m, hm32, ef, hfb⟩ := hL
        have hrows2 : ∀ c, c < i + 1 → upd r i (nI ((i * 4 + fo s i) * 6)) c = nI (rwN c s) := by
          intro c hc
          by_cases q : c = i
          · subst q; exact pk_us
          · rw [pk_un q]; exact hrows c (by omega)
        refine sp_inForce hH hP.1 rfl rfl hs h5 ?_
        refine nbool rfl (fun hf => ?_) (fun hf => ?_)
        · refine nm_r (nI_1 i) (ih (i + 1) (by omega) (by omega) _ _ _ _ _ ⟨hVB.idle hf, hrows2, hnow, m, hm32, ef, fun c hc => ?_⟩)
          rw [hfb c hc]
          by_cases q : c = i
          · subst q; simp [hf]
          · have : (decide (c < i + 1)) = decide (c < i) := by simp; omega
            rw [this]
        · refine nm_e ⟨pk_in i 5 h5, ?_⟩
          rw [ef, w_set hm32 h5, hrows2 i (by omega)]
          obtain ⟨g1, g2⟩ := bt_set m hm32 i h5
          refine sp_heed hP hs h5 hset hf rfl hVB (fun v2 b2 hVB2 => ?_)
          refine nm_r (nI_1 i) (ih (i + 1) (by omega) (by omega) _ _ _ _ _ ⟨hVB2, hrows2, hnow, _, g1, rfl, fun c hc => ?_⟩)
          rw [g2 c hc, hfb c hc]
          by_cases q : c = i
          · subst q; simp [hf]
          · have : (decide (c < i + 1)) = decide (c < i) := by simp; omega
            rw [this]
            simp [q]
  refine ⟨6, main 6 0 (by omega) (by omega) _ _ _ _ _ ⟨⟨fun b hb => ?_, bars, hbars, rfl, fun x hx => ?_⟩, fun c hc => by omega, rfl, 0, by decide, rfl, fun c hc => ?_⟩⟩
  · rw [pk_cpy_in (by omega) (by omega)]
    show ownVotes (0 + (b - 0)) = nI (ownV G set b + 0)
    rw [Nat.zero_add, Nat.sub_zero]
    exact hov b hb
  · show _ = (bt bars x || false)
    rw [Bool.or_false]
  · have : bt 0 c = false := by unfold bt; simp
    rw [this]
    simp
theorem sp_after {t : Nat → Nat} {P : Nat → Int32} {G : Nat → Nat} (hP : LWP t P) {set bars s k : Nat} (hs : SV t s) (hk : k < 20) {votes rows : Nat → Int32} {now forced barred : Int32} (hL : LK P G set bars s 5 votes rows now forced barred) (hg : P (rwN (k / 4) s) = 0 ∨ P (rwN (k / 4) s) = 1 ∨ P (rwN (k / 4) s) = 2) {x : Int32} (hx : x = nI (actN k)) {post : Int32 → Prop} (h : post (nI (aft P s k))) : wp_X4_after rows now P x post := by
  unfold wp_X4_after
  have hs1 := hs.1
  have hc : k / 4 < 5 := by omega
  have hal := actN_lt hk
  have hr := rwN_lt (s := s) hc
  refine sp_X0_clauseOf hx (by omega) ?_
  rw [actN_div hk]
  refine sp_isClause rfl hc ?_
  refine ⟨fun _ => ⟨pk_in _ 5 hc, ?_⟩, fun q => absurd q (by decide)⟩
  obtain ⟨-, hrows, hnow, -⟩ := hL
  rw [nI_clamp (by omega), hrows _ hc]
  refine nm_e ?_
  refine sp_part (rwN (k / 4) s + 3) (by exact nI_add _ 3) (by omega) ?_
  refine sp_part (rwN (k / 4) s) (by exact nI_add _ 0) (by omega) ?_
  have hfo : fo s (k / 4) ≠ 0 := by
    intro z
    have := hP.2.2 (k / 4) 0 hc (by decide)
    have e : rwN (k / 4) s = k / 4 * 4 * 6 + 0 := by unfold rwN; rw [z]; omega
    rw [e, this] at hg
    rcases hg with q | q | q <;> exact absurd q (by decide)
  have hwf := hP.wf hs hc hfo
  unfold aft at h
  refine ⟨fun q => ?_, fun q => ?_⟩
  · rw [if_neg q] at h
    have h01 : P (rwN (k / 4) s) = 0 ∨ P (rwN (k / 4) s) = 1 := by
      rcases hg with z | z | z
      · exact Or.inl z
      · exact Or.inr z
      · exact absurd z q
    have e3 := (hwf.ch h01).2.2.val
    refine sp_X0_formOf hx (by omega) ?_
    rw [actN_mod hk]
    exact sp_X5_put hnow e3.1 rfl hs1 (by omega) (by omega) h
  · rw [if_pos q] at h
    obtain ⟨-, -, n3, n4⟩ := hwf.do_ q
    have e3 := n3.val
    have e4 := n4.val
    refine sp_part (rwN (k / 4) s + 4) (by exact nI_add _ 4) (by omega) ?_
    exact sp_X5_make hnow e3.1 e4.1 hs1 (by omega) (by omega) h
