theorem giv_letter {t : Nat → Nat} {P : Nat → Int32} {np s k : Nat} (h : givB t P np s k = true) : fo s (k / 4) ≠ 0 ∧ (P (rwN (k / 4) s) = 0 ∨ P (rwN (k / 4) s) = 1 ∨ P (rwN (k / 4) s) = 2) ∧ (P (rwN (k / 4) s) = 0 → k % 4 ≤ t (Pn P (rwN (k / 4) s + 3))) ∧ (P (rwN (k / 4) s) = 1 → k % 4 = 0) := by
  unfold givB at h
  simp only [Bool.and_eq_true, bne_iff_ne] at h
  obtain ⟨h0, h1⟩ := h
  refine ⟨h0, ?_⟩
  by_cases e : k % 4 = 0
  · rw [if_pos e] at h1
    simp only [Bool.or_eq_true, decide_eq_true_eq] at h1
    rcases h1 with h1 | h1
    · exact ⟨Or.inr (Or.inl h1), fun z => by rw [h1] at z; exact absurd z (by decide), fun _ => e⟩
    · exact ⟨Or.inr (Or.inr h1), fun z => by rw [h1] at z; exact absurd z (by decide), fun z => by rw [h1] at z; exact absurd z (by decide)⟩
  · rw [if_neg e] at h1
    simp only [Bool.and_eq_true, decide_eq_true_eq, bne_iff_ne] at h1
    exact ⟨Or.inl h1.1.1, fun _ => h1.1.2, fun z => by rw [h1.1.1] at z; exact absurd z (by decide)⟩
theorem giv_wf {t : Nat → Nat} {P : Nat → Int32} (hP : LWP t P) {np s k : Nat} (hs : SV t s) (hk : k < 20) (h : givB t P np s k = true) : P (rwN (k / 4) s + 1) = nI (Pn P (rwN (k / 4) s + 1)) ∧ Pn P (rwN (k / 4) s + 1) ≤ 2 ∧ P (rwN (k / 4) s + 2) = nI (Pn P (rwN (k / 4) s + 2)) ∧ Pn P (rwN (k / 4) s + 2) ≤ 99 ∧ P (rwN (k / 4) s + 3) = nI (Pn P (rwN (k / 4) s + 3)) ∧ Pn P (rwN (k / 4) s + 3) ≤ 4 := by
  obtain ⟨h0, h1, -, -⟩ := giv_letter h
  have hwf := hP.wf hs (by omega) h0
  rcases h1 with h1 | h1 | h1
  · obtain ⟨a, b, c⟩ := hwf.ch (Or.inl h1)
    exact ⟨a.val.1, a.val.2.2, b.val.1, b.val.2.2, c.val.1, c.val.2.2⟩
  · obtain ⟨a, b, c⟩ := hwf.ch (Or.inr h1)
    exact ⟨a.val.1, a.val.2.2, b.val.1, b.val.2.2, c.val.1, c.val.2.2⟩
  · obtain ⟨a, b, c, -⟩ := hwf.do_ h1
    have := c.val
    exact ⟨a.val.1, a.val.2.2, b.val.1, b.val.2.2, this.1, by omega⟩
/-- an act that is given leads to a state -/
theorem giv_aft {t : Nat → Nat} {P : Nat → Int32} (hP : LWP t P) {np s k : Nat} (hs : SV t s) (hk : k < 20) (h : givB t P np s k = true) : SV t (aft P s k) := by
  obtain ⟨h0, h1, h2, h3⟩ := giv_letter h
  have hwf := hP.wf hs (by omega) h0
  have hs1 := hs.1
  unfold aft
  by_cases e : P (rwN (k / 4) s) = 2
  · rw [if_pos e]
    obtain ⟨-, -, c, d⟩ := hwf.do_ e
    have c := c.val
    have d := d.val
    refine ⟨mk_lt hs1 (by omega) (by omega), fun x hx => ?_⟩
    rw [fo_mk hs1 (by omega) (by omega) hx]
    exact hs.2 x hx
  · rw [if_neg e]
    have h01 : P (rwN (k / 4) s) = 0 ∨ P (rwN (k / 4) s) = 1 := by
      rcases h1 with z | z | z
      · exact Or.inl z
      · exact Or.inr z
      · exact absurd z e
    have c := (hwf.ch h01).2.2.val
    refine ⟨pu_lt hs1 (by omega) (by omega), fun x hx => ?_⟩
    rw [fo_pu hs1 (by omega) (by omega) hx]
    split
    · rename_i q
      subst q
      rcases h01 with z | z
      · exact h2 z
      · rw [h3 z]; exact Nat.zero_le _
    · exact hs.2 x hx
theorem votesN_le {t : Nat → Nat} {P : Nat → Int32} {G : Nat → Nat} (hP : LWP t P) (hG : LG G) {set s b : Nat} (hs : SV t s) (hb : b < 3) : votesN P G set s b ≤ 891 := by
  have h1 := ownV_le hG (set := set) hb
  have h2 := sm_le (f := exT P set s b) (B := 99) 5 (fun i hi => exT_le hP hs hi)
  unfold votesN
  omega
theorem sp_votesIn {v : Nat → Int32} {x : Int32} {b : Nat} (hx : x = nI b) (hb : b < 3) {post : Int32 → Prop} (h : post (v b)) : wp_X4_votesIn v x post := by
  unfold wp_X4_votesIn
  subst hx
  refine pk_lt b 0 (fun h => by omega) (fun _ => pk_lt b 3 (fun _ => ⟨pk_in b 3 hb, ?_⟩) (fun h => by omega))
  rw [nI_clamp (by omega)]
  exact h
theorem sp_whyNot {t : Nat → Nat} {P told : Nat → Int32} {G : Nat → Nat} (hP : LWP t P) (hT : TD t told) (hG : LG G) {set bars s k : Nat} (hs : SV t s) (hk : k < 20) {votes rows : Nat → Int32} {now forced barred : Int32} (hL : LK P G set bars s 5 votes rows now forced barred) {x : Int32} (hx : x = nI (actN k)) {post : Int32 → Prop} (h : post (nI (whyN t P G set bars 5 s k))) : wp_X4_whyNot votes rows now forced barred told P x post := by
  unfold wp_X4_whyNot
  have hs1 := hs.1
  have hc : k / 4 < 5 := by omega
  have hal := actN_lt hk
  have hr := rwN_lt (s := s) hc
  refine sp_X0_clauseOf hx (by omega) ?_
  rw [actN_div hk]
  refine sp_isClause rfl hc ?_
  refine ⟨fun _ => ⟨pk_in _ 5 hc, ?_⟩, fun q => absurd q (by decide)⟩
  obtain ⟨⟨hvotes, mb, hmb, eb, hbb⟩, hrows, hnow, mf, hmf, ef, hfb⟩ := id hL
  rw [nI_clamp (by omega), hrows _ hc]
  refine nm_e ?_
  refine sp_part (rwN (k / 4) s) (by exact nI_add _ 0) (by omega) ?_
  refine sp_part (rwN (k / 4) s + 3) (by exact nI_add _ 3) (by omega) ?_
  refine sp_X0_formOf hx (by omega) ?_
  rw [actN_mod hk]
  refine sp_gives hP hT hs hk rfl ?_
  unfold whyN at h
  refine nbool' rfl (fun hg => ?_) (fun hg => ?_)
  · rw [if_pos hg] at h
    exact h
  · rw [if_neg (by rw [hg]; decide)] at h
    obtain ⟨g1, g1b, g2, g2b, g3, g3b⟩ := giv_wf hP hs hk hg
    obtain ⟨-, hlet, -, -⟩ := giv_letter hg
    rw [ef, w_bit (by omega) hc]
    have hfb2 := hfb _ hc
    have hd : decide (k / 4 < 5) = true := by simp; exact hc
    rw [hd, Bool.true_and] at hfb2
    refine pk_eq' _ 0 (fun q => ?_) (fun q => ?_) rfl rfl (by omega)
    · have hf : frc P s (k / 4) = true := by
        rw [← hfb2, bt_iff]
        have := Nat.mod_lt (mf / 2 ^ (k / 4)) (show 0 < 2 by decide)
        omega
      rw [if_neg (by rw [hf]; decide)] at h
      refine sp_part (rwN (k / 4) s + 1) (by exact nI_add _ 1) (by omega) ?_
      refine sp_votesIn g1 (by omega) ?_
      refine sp_part (rwN (k / 4) s + 2) (by exact nI_add _ 2) (by omega) ?_
      have hvl := votesN_le hP hG (set := set) hs (b := Pn P (rwN (k / 4) s + 1)) (by omega)
      have hve : votes (Pn P (rwN (k / 4) s + 1)) = nI (votesN P G set s (Pn P (rwN (k / 4) s + 1))) := hvotes _ (by omega)
      rw [hve, g2]
      have hJ : (aft P s k = s → post (nI 5)) → (¬ aft P s k = s → post (nI 0)) → wpJ_X4_whyNot_125 votes rows now (nI mf) barred told P post x := by
        intro j1 j2
        unfold wpJ_X4_whyNot_125
        refine sp_after hP hs hk hL hlet hx ?_
        rw [hnow]
        have := (giv_aft hP hs hk hg).1
        exact pk_eq' _ _ (fun q => j2 q) (fun q => j1 q)
      refine pk_le _ _ (fun hv => ?_) (fun hv => ?_)
      · rw [if_neg (by omega)] at h
        have last : (if aft P s k = s then 5 else 0) = (if aft P s k = s then 5 else 0) := rfl
        refine ⟨fun q2 => ?_, fun q2 => ?_⟩
        · rw [if_neg (fun z => z.1 q2)] at h
          refine hJ (fun z => ?_) (fun z => ?_)
          · rw [if_pos z] at h; exact h
          · rw [if_neg z] at h; exact h
        · rw [eb, g3, w_bit (by omega) (by omega)]
          have hbx := hbb (Pn P (rwN (k / 4) s + 3)) (by omega)
          refine pk_eq' _ 1 (fun q => ?_) (fun q => ?_) rfl rfl (by omega)
          · have hb0 : barB P bars s (Pn P (rwN (k / 4) s + 3)) = false := by
              show (bt bars _ || _) = false
              rw [← hbx, bt_zero]
              have := Nat.mod_lt (mb / 2 ^ Pn P (rwN (k / 4) s + 3)) (show 0 < 2 by decide)
              omega
            rw [if_neg (fun z => by rw [hb0] at z; exact absurd z.2 (by decide))] at h
            refine hJ (fun z => ?_) (fun z => ?_)
            · rw [if_pos z] at h; exact h
            · rw [if_neg z] at h; exact h
          · have hb1 : barB P bars s (Pn P (rwN (k / 4) s + 3)) = true := by
              show (bt bars _ || _) = true
              rw [← hbx, bt_iff]
              exact q
            rw [if_pos ⟨q2, hb1⟩] at h
            exact h
      · rw [if_pos hv] at h
        exact h
    · have hf : frc P s (k / 4) = false := by
        rw [← hfb2, bt_zero]
        exact q
      rw [if_pos hf] at h
      exact h
