theorem bnd_inv {α β : Type} {x : Sum Nat α} {f : α → Sum Nat β} {b : β} (h : bnd x f = .inr b) : ∃ a, x = .inr a ∧ f a = .inr b := by
  cases x with
  | inl k => exact absurd h (by unfold bnd; simp)
  | inr a => exact ⟨a, rfl, h⟩
theorem numsC_inv {T : Nat → Nat} {n p q : Nat} {r : Int32 × Int32 × Int32 × Int32} (h : numsC T n p = .inr (r, q)) : ∃ a b c, a ≤ 2 ∧ 1 ≤ b ∧ b ≤ 99 ∧ c ≤ 4 ∧ r = (nI a, nI b, nI c, -9) := by
  unfold numsC at h
  obtain ⟨⟨a, q1⟩, e1, h⟩ := bnd_inv h
  obtain ⟨q2, e2, h⟩ := bnd_inv h
  obtain ⟨⟨b, q3⟩, e3, h⟩ := bnd_inv h
  obtain ⟨q4, e4, h⟩ := bnd_inv h
  obtain ⟨⟨c, q5⟩, e5, h⟩ := bnd_inv h
  have g1 := num_ok e1
  have g3 := num_ok e3
  have g5 := num_ok e5
  injection h with h
  injection h with h h'
  exact ⟨a, b, c, by omega, by omega, by omega, by omega, h.symm⟩
theorem numsV_inv {T : Nat → Nat} {n p q : Nat} {r : Int32 × Int32 × Int32 × Int32} (h : numsV T n p = .inr (r, q)) : ∃ a b c, a ≤ 2 ∧ b ≤ 3 ∧ 1 ≤ c ∧ c ≤ 99 ∧ r = (nI a, nI b, nI c, -9) := by
  unfold numsV at h
  obtain ⟨⟨a, q1⟩, e1, h⟩ := bnd_inv h
  obtain ⟨q2, e2, h⟩ := bnd_inv h
  obtain ⟨⟨b, q3⟩, e3, h⟩ := bnd_inv h
  obtain ⟨q4, e4, h⟩ := bnd_inv h
  obtain ⟨⟨c, q5⟩, e5, h⟩ := bnd_inv h
  have g1 := num_ok e1
  have g3 := num_ok e3
  have g5 := num_ok e5
  injection h with h
  injection h with h h'
  exact ⟨a, b, c, by omega, by omega, by omega, by omega, h.symm⟩
theorem numsD_inv {T : Nat → Nat} {n p q : Nat} {r : Int32 × Int32 × Int32 × Int32} (h : numsD T n p = .inr (r, q)) : ∃ a b c d, a ≤ 2 ∧ 1 ≤ b ∧ b ≤ 99 ∧ c ≤ 3 ∧ d ≤ 1 ∧ r = (nI a, nI b, nI c, nI d) := by
  unfold numsD at h
  obtain ⟨⟨a, q1⟩, e1, h⟩ := bnd_inv h
  obtain ⟨q2, e2, h⟩ := bnd_inv h
  obtain ⟨⟨b, q3⟩, e3, h⟩ := bnd_inv h
  obtain ⟨q4, e4, h⟩ := bnd_inv h
  obtain ⟨⟨c, q5⟩, e5, h⟩ := bnd_inv h
  obtain ⟨⟨d, q6⟩, e6, h⟩ := bnd_inv h
  have g1 := num_ok e1
  have g3 := num_ok e3
  have g5 := num_ok e5
  have g6 := pm_ok e6
  injection h with h
  injection h with h h'
  exact ⟨a, b, c, d, by omega, by omega, by omega, by omega, by omega, h.symm⟩
theorem numsB_inv {T : Nat → Nat} {n p q : Nat} {r : Int32 × Int32 × Int32 × Int32} (h : numsB T n p = .inr (r, q)) : ∃ a, a ≤ 4 ∧ r = (nI a, -9, -9, -9) := by
  unfold numsB at h
  obtain ⟨⟨a, q1⟩, e1, h⟩ := bnd_inv h
  have g1 := num_ok e1
  injection h with h
  injection h with h h'
  exact ⟨a, by omega, h.symm⟩
def FT (t : Int32 × Int32 × Int32 × Int32 × Int32) : Prop :=
  (∃ a b c, a ≤ 2 ∧ 1 ≤ b ∧ b ≤ 99 ∧ c ≤ 4 ∧ t = (0, nI a, nI b, nI c, -9)) ∨
  (∃ a b c, a ≤ 2 ∧ 1 ≤ b ∧ b ≤ 99 ∧ c ≤ 4 ∧ t = (1, nI a, nI b, nI c, -9)) ∨
  (∃ a b c d, a ≤ 2 ∧ 1 ≤ b ∧ b ≤ 99 ∧ c ≤ 3 ∧ d ≤ 1 ∧ t = (2, nI a, nI b, nI c, nI d)) ∨
  (∃ a, a ≤ 4 ∧ t = (3, nI a, -9, -9, -9)) ∨
  (∃ a b c, a ≤ 2 ∧ b ≤ 3 ∧ 1 ≤ c ∧ c ≤ 99 ∧ t = (4, nI a, nI b, nI c, -9))
theorem hd_inv {T : Nat → Nat} {n q : Nat} {t : Int32 × Int32 × Int32 × Int32 × Int32} (h : hdN T n = .inr (t, q)) : FT t := by
  unfold hdN at h
  unfold FT
  split at h
  · obtain ⟨⟨r, q1⟩, e1, h⟩ := bnd_inv h
    injection h with h
    injection h with h h'
    obtain ⟨a, b, c, h1, h2, h3, h4, rfl⟩ := numsC_inv e1
    exact Or.inl ⟨a, b, c, h1, h2, h3, h4, h.symm⟩
  · split at h
    · obtain ⟨⟨r, q1⟩, e1, h⟩ := bnd_inv h
      injection h with h
      injection h with h h'
      obtain ⟨a, b, c, h1, h2, h3, h4, rfl⟩ := numsC_inv e1
      exact Or.inr (Or.inl ⟨a, b, c, h1, h2, h3, h4, h.symm⟩)
    · split at h
      · obtain ⟨⟨r, q1⟩, e1, h⟩ := bnd_inv h
        injection h with h
        injection h with h h'
        obtain ⟨a, b, c, d, h1, h2, h3, h4, h5, rfl⟩ := numsD_inv e1
        exact Or.inr (Or.inr (Or.inl ⟨a, b, c, d, h1, h2, h3, h4, h5, h.symm⟩))
      · split at h
        · obtain ⟨⟨r, q1⟩, e1, h⟩ := bnd_inv h
          injection h with h
          injection h with h h'
          obtain ⟨a, h1, rfl⟩ := numsB_inv e1
          exact Or.inr (Or.inr (Or.inr (Or.inl ⟨a, h1, h.symm⟩)))
        · split at h
          · obtain ⟨⟨r, q1⟩, e1, h⟩ := bnd_inv h
            injection h with h
            injection h with h h'
            obtain ⟨a, b, c, h1, h2, h3, h4, rfl⟩ := numsV_inv e1
            exact Or.inr (Or.inr (Or.inr (Or.inr ⟨a, b, c, h1, h2, h3, h4, h.symm⟩)))
          · exact absurd h (by simp)
theorem hc_inv {T : Nat → Nat} {n p q g : Nat} (h : hcN T n p = .inr (g, q)) : goalN g := by
  unfold hcN at h
  obtain ⟨p1, e0, h⟩ := bnd_inv h
  replace h : (if p1 < n ∧ T p1 = 61 then bnd (numN T n (p1 + 1) 0 4) fun r1 => bnd (sgN T n r1.2 44) fun p3 => bnd (numN T n p3 0 3) fun r2 => .inr (100 + 10 * r1.1 + r2.1, r2.2) else bnd (numN T n p1 0 3) fun r1 => bnd (pmN T n r1.2) fun r2 => .inr (10 * r1.1 + r2.1, r2.2)) = (Sum.inr (g, q) : Sum Nat (Nat × Nat)) := h
  split at h
  · obtain ⟨⟨a, q1⟩, e1, h⟩ := bnd_inv h
    obtain ⟨q2, e2, h⟩ := bnd_inv h
    obtain ⟨⟨b, q3⟩, e3, h⟩ := bnd_inv h
    have g1 := num_ok e1
    have g3 := num_ok e3
    injection h with h
    injection h with h h'
    replace h : 100 + 10 * a + b = g := h
    unfold goalN
    omega
  · obtain ⟨⟨a, q1⟩, e1, h⟩ := bnd_inv h
    obtain ⟨⟨b, q3⟩, e3, h⟩ := bnd_inv h
    have g1 := num_ok e1
    have g3 := pm_ok e3
    injection h with h
    injection h with h h'
    replace h : 10 * a + b = g := h
    unfold goalN
    omega
theorem rd_inv {T : Nat → Nat} {n : Nat} {t : Int32 × Int32 × Int32 × Int32 × Int32} {g : Int32} (h : rdN T n = .inr (t, g)) : FT t ∧ (g = -9 ∨ ∃ k, g = nI k ∧ goalN k) := by
  unfold rdN at h
  obtain ⟨⟨t1, q1⟩, e1, h⟩ := bnd_inv h
  have ht := hd_inv e1
  split at h
  · injection h with h
    injection h with h h'
    subst h
    exact ⟨ht, Or.inl h'.symm⟩
  · obtain ⟨⟨k, q2⟩, e2, h⟩ := bnd_inv h
    have hg := hc_inv e2
    split at h
    · injection h with h
      injection h with h h'
      subst h
      exact ⟨ht, Or.inr ⟨k, h'.symm, hg⟩⟩
    · exact absurd h (by simp)
theorem FT.wf {t : Int32 × Int32 × Int32 × Int32 × Int32} {g : Int32} (ht : FT t) (hg : g = -9 ∨ ∃ k, g = nI k ∧ goalN k) {P : Nat → Int32} {r : Nat} (h0 : P r = t.1) (h1 : P (r + 1) = t.2.1) (h2 : P (r + 2) = t.2.2.1) (h3 : P (r + 3) = t.2.2.2.1) (h4 : P (r + 4) = t.2.2.2.2) (h5 : P (r + 5) = g) : WF P r := by
  refine ⟨?_, ?_⟩
  · rcases ht with ⟨a, b, c, g1, g2, g3, g4, rfl⟩ | ⟨a, b, c, g1, g2, g3, g4, rfl⟩ | ⟨a, b, c, d, g1, g2, g3, g4, g5, rfl⟩ | ⟨a, g1, rfl⟩ | ⟨a, b, c, g1, g2, g3, g4, rfl⟩
    · exact Or.inl ⟨h0, ⟨a, h1, by omega, g1⟩, ⟨b, h2, g2, g3⟩, ⟨c, h3, by omega, g4⟩, h4⟩
    · exact Or.inr (Or.inl ⟨h0, ⟨a, h1, by omega, g1⟩, ⟨b, h2, g2, g3⟩, ⟨c, h3, by omega, g4⟩, h4⟩)
    · exact Or.inr (Or.inr (Or.inl ⟨h0, ⟨a, h1, by omega, g1⟩, ⟨b, h2, g2, g3⟩, ⟨c, h3, by omega, g4⟩, ⟨d, h4, by omega, g5⟩⟩))
    · exact Or.inr (Or.inr (Or.inr (Or.inl ⟨h0, ⟨a, h1, by omega, g1⟩, h2, h3, h4⟩)))
    · exact Or.inr (Or.inr (Or.inr (Or.inr ⟨h0, ⟨a, h1, by omega, g1⟩, ⟨b, h2, by omega, g2⟩, ⟨c, h3, g3, g4⟩, h4⟩)))
  · rw [h5]
    exact hg
theorem WF.congr {P Q : Nat → Int32} {r : Nat} (h : WF P r) (e : ∀ w, w < 6 → Q (r + w) = P (r + w)) : WF Q r := by
  have e0 := e 0 (by decide)
  have e1 := e 1 (by decide)
  have e2 := e 2 (by decide)
  have e3 := e 3 (by decide)
  have e4 := e 4 (by decide)
  have e5 := e 5 (by decide)
  rw [Nat.add_zero] at e0
  unfold WF numAt at h ⊢
  rw [e0, e1, e2, e3, e4, e5]
  exact h
def rowP (parts pa : Nat → Int32) (R w j : Nat) : Int32 := if R ≤ j ∧ j < R + w then pa (j - R) else parts j
theorem rowP_in {parts pa : Nat → Int32} {R w i : Nat} (h : i < w) : rowP parts pa R w (R + i) = pa i := by
  unfold rowP
  rw [if_pos (by omega), Nat.add_sub_cancel_left]
theorem rowP_out {parts pa : Nat → Int32} {R w j : Nat} (h : j < R ∨ R + w ≤ j) : rowP parts pa R w j = parts j := by
  unfold rowP
  rw [if_neg (by omega)]
theorem rowP_succ {parts pa : Nat → Int32} {R w : Nat} : rowP parts pa R (w + 1) = upd (rowP parts pa R w) (R + w) (pa w) := by
  funext j
  by_cases e : j = R + w
  · subst e
    rw [pk_us, rowP_in (by omega)]
  · rw [pk_un e]
    unfold rowP
    by_cases q : R ≤ j ∧ j < R + w
    · rw [if_pos q, if_pos (by omega)]
    · rw [if_neg q, if_neg (by omega)]
def HS (g m v : Int32) : Prop := ∀ s, s < 16384 → ((nI s &&& m = v) ↔ (if g = -9 then true else soN g.toNatClampNeg s) = true)
theorem HS_none : HS (-9) 0 0 := by
  intro s hs
  rw [if_pos rfl]
  refine ⟨fun _ => rfl, fun _ => ?_⟩
  rw [show (0 : Int32) = nI 0 from rfl, nb_and (by omega) (by decide)]
  exact congrArg nI (Nat.and_zero s)
theorem HS_goal {k : Nat} (hk : goalN k) : HS (nI k) (nI (gMask k)) (nI (gVal k)) := by
  intro s hs
  have hl := hk.lt
  rw [if_neg (neg9 (by omega)), nI_clamp (by omega)]
  exact gSo hk hs
theorem sp_add {t : Nat → Nat} {told parts hm hv pa : Nat → Int32} (hT : TD t told) {c : Nat} (hc : c < 5) (htc : t c ≤ 3) {g : Int32} (h5 : pa 5 = g) (hg : g = -9 ∨ ∃ k, g = nI k ∧ goalN k) {post : Int32 → (Nat → Int32) → (Nat → Int32) → (Nat → Int32) → (Nat → Int32) → Prop} (hfull : t c = 3 → post (-4) told parts hm hv) (hadd : t c < 3 → ∀ m v, HS g m v → post (nI (t c + 1)) (upd told c (nI (t c + 1))) (rowP parts pa ((c * 4 + (t c + 1)) * 6) 6) (upd hm (c * 4 + (t c + 1)) m) (upd hv (c * 4 + (t c + 1)) v)) : wp_X2_add told parts hm hv pa (nI c) post := by
  unfold wp_X2_add
  refine sp_isClause rfl hc (y1' ⟨pk_in c 5 hc, ?_⟩)
  rw [nI_clamp (by omega), hT c hc]
  refine pk_lt (t c) 3 (fun w => ?_) (fun w => hfull (by omega))
  refine ⟨pk_in c 5 hc, pk_in c 5 hc, nm_r (e' := upd told c (nI (t c + 1))) (by rw [nI_1]) ⟨pk_in c 5 hc, ?_⟩⟩
  rw [pk_us]
  refine sp_X2_rowOf rfl rfl ⟨7, ?_⟩
  have hadd := hadd w
  have hR : c * 4 + (t c + 1) < 20 := by omega
  generalize hpl : c * 4 + (t c + 1) = pl at hadd hR ⊢
  have fin : wpJ_X2_add_88 pa post (upd told c (nI (t c + 1))) (rowP parts pa (pl * 6) 6) hm hv (nI c) := by
    unfold wpJ_X2_add_88
    refine ⟨pk_in c 5 hc, ?_⟩
    rw [nI_clamp (by omega), pk_us]
    refine sp_X2_placeOf rfl rfl ?_
    rw [hpl]
    unfold wp_X6_part
    refine ⟨fun z => absurd z (by decide), fun _ => ⟨fun _ => ⟨pk_in 5 6 (by decide), ?_⟩, fun z => absurd (by decide) z⟩⟩
    rw [cl5, h5]
    unfold wp_X2_hangOn
    refine pk_lt pl 0 (fun z => by omega) (fun _ => pk_le 20 pl (fun z => by omega) (fun _ => ?_))
    rw [nI_clamp (by omega)]
    rcases hg with rfl | ⟨k, rfl, hk⟩
    · unfold wp_X1_maskOf wp_X1_valueOf
      exact ⟨fun z => absurd z (by decide), fun _ => ⟨pk_in pl 20 hR, nm_e ⟨fun z => absurd z (by decide), fun _ => ⟨pk_in pl 20 hR, nm_e ⟨pk_in c 5 hc, hadd 0 0 HS_none⟩⟩⟩⟩⟩
    · exact sp_maskOf rfl hk ⟨pk_in pl 20 hR, nm_e (sp_valueOf rfl hk ⟨pk_in pl 20 hR, nm_e ⟨pk_in c 5 hc, hadd _ _ (HS_goal hk)⟩⟩)⟩
  have main : ∀ q i, i ≤ 6 → 6 < q + i → wpL_X2_add_44 pa post q (upd told c (nI (t c + 1))) (rowP parts pa (pl * 6) i) hm hv (nI c) (nI (pl * 6)) (nI i) := by
    intro q
    induction q with
    | zero => intro i h1 h2; omega
    | succ q ih =>
      intro i h1 h2
      rw [wpL_X2_add_44]
      refine pk_le 6 i (fun h6 => ?_) (fun h6 => pk_lt (pl * 6) 0 (fun z => by omega) (fun _ => ?_))
      · have : i = 6 := by omega
        subst this
        exact fin
      · rw [nI_add]
        refine pk_le 120 (pl * 6 + i) (fun z => by omega) (fun _ => ?_)
        unfold wp_X6_part
        refine pk_lt i 0 (fun z => by omega) (fun _ => pk_lt i 6 (fun _ => ⟨pk_in i 6 (by omega), ?_⟩) (fun z => by omega))
        refine ⟨pk_in (pl * 6 + i) 120 (by omega), nm_e (nm_r (nI_1 i) ?_)⟩
        rw [nI_clamp (by omega), nI_clamp (by omega)]
        have next := ih (i + 1) (by omega) (by omega)
        rw [rowP_succ] at next
        exact next
  have h0 := main 7 0 (by omega) (by omega)
  have e0 : rowP parts pa (pl * 6) 0 = parts := by funext j; exact rowP_out (by omega)
  rw [e0] at h0
  exact h0
