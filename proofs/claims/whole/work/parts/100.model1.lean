/-! the reference's leaves -/
def MF (t : Nat → Nat) (P forms : Nat → Int32) : Prop := ∀ c f w, c < 5 → 1 ≤ f → f ≤ t c → w < 6 → forms (18 * c + 6 * (f - 1) + w) = P ((c * 4 + f) * 6 + w)
theorem sp8_formOf {x y : Int32} {s c : Nat} (hx : x = nI (ph s)) (hy : y = nI c) (hs : s < 16384) (hc : c < 5) {post : Int32 → Prop} (h : post (nI (fo s c))) : wp_X8_formOf x y post := by
  unfold wp_X8_formOf
  subst hx hy
  rw [w8_formOf hs hc]
  exact h
theorem sp8_told {t : Nat → Nat} {P forms : Nat → Int32} (hM : MF t P forms) (hP : LWP t P) {x y z : Int32} {s c w : Nat} (hx : x = nI (ph s)) (hy : y = nI c) (hz : z = nI w) (hs : SV t s) (hc : c < 5) (hw : w < 6) (h0 : fo s c ≠ 0) {post : Int32 → Prop} (h : post (P (rwN c s + w))) : wp_X8_told forms x y z post := by
  unfold wp_X8_told
  refine sp8_formOf hx hy hs.1 hc ?_
  subst hx hy hz
  have hf := fo_lt s c
  have e1 : (18 : Int32) * nI c = nI (18 * c) := pk_mul 18 c
  have e2 : nI (fo s c) - (1 : Int32) = nI (fo s c - 1) := pk_sub (a := fo s c) (b := 1) (by omega)
  have e3 : (6 : Int32) * nI (fo s c - 1) = nI (6 * (fo s c - 1)) := pk_mul 6 _
  rw [e1, e2, e3, nI_add, nI_add]
  refine ⟨pk_in (18 * c + 6 * (fo s c - 1) + w) 90 (by omega), ?_⟩
  rw [nI_clamp (by omega), hM c (fo s c) w hc (by omega) (hs.2 c hc) hw]
  exact h
theorem sp8_isSo {x y : Int32} {s g : Nat} (hx : x = nI (ph s)) (hy : y = nI g) (hs : s < 16384) (hg : goalN g) {post : Int32 → Prop} (h : post (nI (soN g s).toNat)) : wp_X8_isSo x y post := by
  unfold wp_X8_isSo
  subst hx hy
  have hl := hg.lt
  have er : nI g - nI g / (10 : Int32) * (10 : Int32) = nI (g % 10) := pk_rem (a := g) (d := 10) (by omega) (by decide) (by decide)
  rw [er]
  unfold soN at h
  refine pk_le 100 g (fun h1 => ?_) (fun h1 => ?_)
  · rw [if_neg (by omega)] at h
    have e1 : nI g - (100 : Int32) = nI (g - 100) := pk_sub (a := g) (b := 100) h1
    have e2 : nI (g - 100) / (10 : Int32) = nI ((g - 100) / 10) := pk_div (a := g - 100) (d := 10) (by omega) (by decide) (by decide)
    rw [e1, e2]
    have e3 : (g - 100) / 10 = g / 10 - 10 := by omega
    rw [e3]
    have hc : g / 10 - 10 < 5 := by omega
    refine sp8_formOf rfl rfl hs hc ?_
    have hf := fo_lt s (g / 10 - 10)
    refine pk_eq' _ _ (fun q => ?_) (fun q => ?_)
    · have : (fo s (g / 10 - 10) == g % 10) = false := by simp; exact q
      rw [this] at h; exact h
    · have : (fo s (g / 10 - 10) == g % 10) = true := by simp; exact q
      rw [this] at h; exact h
  · rw [if_pos h1] at h
    have e2 : nI g / (10 : Int32) = nI (g / 10) := pk_div (a := g) (d := 10) (by omega) (by decide) (by decide)
    have ht : g / 10 < 4 := by unfold goalN at hg; omega
    rw [e2, w8_thing hs ht]
    have hf : th s (g / 10) < 2 := Nat.mod_lt _ (by decide)
    refine pk_eq' _ _ (fun q => ?_) (fun q => ?_) rfl rfl (by omega)
    · have : (th s (g / 10) == g % 10) = false := by simp; exact q
      rw [this] at h; exact h
    · have : (th s (g / 10) == g % 10) = true := by simp; exact q
      rw [this] at h; exact h
theorem sp8_isForce {t : Nat → Nat} {P forms : Nat → Int32} (hM : MF t P forms) (hP : LWP t P) {x y : Int32} {s c : Nat} (hx : x = nI (ph s)) (hy : y = nI c) (hs : SV t s) (hc : c < 5) {post : Int32 → Prop} (h : post (nI (frc P s c).toNat)) : wp_X8_isForce forms x y post := by
  unfold wp_X8_isForce
  refine sp8_formOf hx hy hs.1 hc ?_
  have hf := fo_lt s c
  unfold frc at h
  refine pk_eq' (fo s c) 0 (fun h0 => ?_) (fun h0 => ?_)
  · refine sp8_told hM hP hx hy rfl hs hc (w := 5) (by decide) h0 ?_
    have hb : (fo s c != 0) = true := by simp; exact h0
    rw [hb, Bool.true_and] at h
    unfold hgB at h
    refine ⟨fun q => ?_, fun q => ?_⟩
    · rw [if_pos q] at h; exact h
    · rw [if_neg q] at h
      rcases (hP.wf hs hc h0).2 with z | ⟨g, z, hg⟩
      · exact absurd z q
      · have hl := hg.lt
        have e : Pn P (rwN c s + 5) = g := by unfold Pn; rw [z]; exact nI_clamp (by omega)
        rw [e] at h
        refine sp8_isSo hx z hs.1 hg ?_
        exact nbool rfl (fun q => by rw [q] at h; exact h) (fun q => by rw [q] at h; exact h)
  · have hb : (fo s c != 0) = false := by simp; exact h0
    rw [hb] at h
    exact h
theorem sp8_votesIn {t : Nat → Nat} {P forms seats : Nat → Int32} {G : Nat → Nat} (hM : MF t P forms) (hP : LWP t P) (hD : SD G seats) {x y z : Int32} {s set b : Nat} (hx : x = nI (ph s)) (hy : y = nI set) (hz : z = nI b) (hs : SV t s) (hset : set < 16) (hb : b < 3) {post : Int32 → Prop} (h : post (nI (votesN P G set s b))) : wp_X8_votesIn forms seats x y z post := by
  unfold wp_X8_votesIn
  subst hx hy hz
  have main2 : ∀ q i, i ≤ 5 → 5 < q + i → wpL_X8_votesIn_51 forms seats post q (nI (ph s)) (nI set) (nI b) (nI (ownV G set b + sm (exT P set s b) i)) (nI i) := by
    intro q
    induction q with
    | zero => intro i h1 h2; omega
    | succ q ih =>
      intro i h1 h2
      rw [wpL_X8_votesIn_51]
      refine pk_le 5 i (fun h5 => ?_) (fun h5 => ?_)
      · have : i = 5 := by omega
        subst this
        exact h
      · have next := ih (i + 1) (by omega) (by omega)
        have ex : ownV G set b + sm (exT P set s b) (i + 1) = ownV G set b + sm (exT P set s b) i + exT P set s b i := by
          show ownV G set b + (sm (exT P set s b) i + exT P set s b i) = _
          omega
        rw [ex] at next
        have zero : exT P set s b i = 0 → wpJ_X8_votesIn_95 forms seats (fun y0 y1 y2 y3 y4 => wpL_X8_votesIn_51 forms seats post q y0 y1 y2 y3 y4) post (nI (ph s)) (nI set) (nI b) (nI (ownV G set b + sm (exT P set s b) i)) (nI i) := by
          intro e0
          rw [e0] at next
          unfold wpJ_X8_votesIn_95 wpJ_X8_votesIn_96
          exact ⟨fun _ => nm_r (by exact nI_add _ 0) (nm_r (nI_1 i) next), fun z => absurd rfl z⟩
        refine sp8_isForce hM hP rfl rfl hs h5 ?_
        refine nbool rfl (fun hf => zero (by unfold exT; simp [hf])) (fun hf => ?_)
        have h0 := frc_fo hf
        refine sp8_told hM hP rfl rfl rfl hs h5 (w := 0) (by decide) h0 ?_
        refine ⟨fun h4 => zero (by unfold exT; have : ¬ P (rwN i s) = 4 := h4; simp [this]), fun h4 => ?_⟩
        have h4 : P (rwN i s) = 4 := h4
        obtain ⟨n1, n2, n3⟩ := (hP.wf hs h5 h0).seats h4
        have e1 := n1.val
        have e2 := n2.val
        have e3 := n3.val
        refine sp8_told hM hP rfl rfl rfl hs h5 (w := 1) (by decide) h0 ?_
        rw [e1.1]
        refine pk_eq' _ _ (fun q1 => zero ?_) (fun q1 => ?_)
        · unfold exT
          have : (Pn P (rwN i s + 1) == b) = false := by simp; exact q1
          simp [this]
        · unfold wpJ_X8_votesIn_96
          refine ⟨fun z => absurd z (by decide), fun _ => ?_⟩
          refine sp8_told hM hP rfl rfl rfl hs h5 (w := 2) (by decide) h0 ?_
          rw [e2.1, w_bit4 hset (by omega)]
          have hml := Nat.mod_lt (set / 2 ^ Pn P (rwN i s + 2)) (show 0 < 2 by decide)
          refine pk_eq' _ 1 (fun z => ?_) (fun z => ?_) rfl rfl (by omega)
          · have hbt : bt set (Pn P (rwN i s + 2)) = false := by rw [bt_zero]; omega
            have e0 : exT P set s b i = 0 := by unfold exT; simp [hbt]
            rw [e0] at next
            exact nm_r (by exact nI_add _ 0) (nm_r (nI_1 i) next)
          · have hbt : bt set (Pn P (rwN i s + 2)) = true := by rw [bt_iff]; exact z
            have e0 : exT P set s b i = Pn P (rwN i s + 3) := by unfold exT; simp [hf, h4, q1, hbt]
            rw [e0] at next
            refine sp8_told hM hP rfl rfl rfl hs h5 (w := 3) (by decide) h0 ?_
            rw [e3.1]
            exact nm_r (nI_add _ _) (nm_r (nI_1 i) next)
  have main : ∀ q i, i ≤ 4 → 4 < q + i → wpL_X8_votesIn_6 forms seats post q (nI (ph s)) (nI set) (nI b) (nI (sm (ownT G set b) i)) (nI i) := by
    intro q
    induction q with
    | zero => intro i h1 h2; omega
    | succ q ih =>
      intro i h1 h2
      rw [wpL_X8_votesIn_6]
      refine pk_le 4 i (fun h5 => ?_) (fun h5 => ?_)
      · have : i = 4 := by omega
        subst this
        exact ⟨6, main2 6 0 (by omega) (by omega)⟩
      · have next := ih (i + 1) (by omega) (by omega)
        rw [w_bit4 hset h5]
        have hml := Nat.mod_lt (set / 2 ^ i) (show 0 < 2 by decide)
        refine pk_eq' _ 1 (fun z => ?_) (fun z => ?_) rfl rfl (by omega)
        · have e : sm (ownT G set b) (i + 1) = sm (ownT G set b) i := by
            show sm (ownT G set b) i + ownT G set b i = _
            have : bt set i = false := by rw [bt_zero]; omega
            unfold ownT
            simp [this]
          rw [e] at next
          exact nm_r (by exact nI_add _ 0) (nm_r (nI_1 i) next)
        · have e : sm (ownT G set b) (i + 1) = sm (ownT G set b) i + G (b * 4 + i) := by
            show sm (ownT G set b) i + ownT G set b i = _
            have : bt set i = true := by rw [bt_iff]; exact z
            unfold ownT
            simp [this]
          rw [e] at next
          have e1 : (4 : Int32) * nI b = nI (b * 4) := by rw [Nat.mul_comm]; exact pk_mul 4 b
          rw [e1, nI_add]
          refine ⟨pk_in (b * 4 + i) 12 (by omega), ?_⟩
          rw [nI_clamp (by omega), hD _ (by omega)]
          exact nm_r (nI_add _ _) (nm_r (nI_1 i) next)
  exact ⟨5, main 5 0 (by omega) (by omega)⟩
def BA (bars : Nat) (barAlways : Int32) : Prop := (bars = 0 ∧ barAlways = -9) ∨ ∃ c, c < 5 ∧ bars = 2 ^ c ∧ barAlways = nI c
theorem BA.bt {bars x : Nat} {ba : Int32} (h : BA bars ba) (hx : x < 5) : (ba = nI x ↔ bt bars x = true) ∧ bars < 32 := by
  rcases h with ⟨rfl, rfl⟩ | ⟨c, hc, rfl, rfl⟩
  · refine ⟨⟨fun h => ?_, fun h => ?_⟩, by decide⟩
    · rcases lt5 hx with rfl | rfl | rfl | rfl | rfl <;> exact absurd h (by decide)
    · rcases lt5 hx with rfl | rfl | rfl | rfl | rfl <;> exact absurd h (by decide)
  · rw [nI_eq (by omega) (by omega)]
    rcases lt5 hc with rfl | rfl | rfl | rfl | rfl <;> rcases lt5 hx with rfl | rfl | rfl | rfl | rfl <;> decide
def NPt (np : Nat) (noPut : Int32) : Prop := (np = 5 ∧ noPut = -9) ∨ (np < 5 ∧ noPut = nI np)
theorem NPt.eq {np x : Nat} {v : Int32} (h : NPt np v) (hx : x < 5) : v = nI x ↔ np = x := by
  rcases h with ⟨rfl, rfl⟩ | ⟨h, rfl⟩
  · refine ⟨fun h => ?_, fun h => by omega⟩
    rcases lt5 hx with rfl | rfl | rfl | rfl | rfl <;> exact absurd h (by decide)
  · exact nI_eq (by omega) (by omega)
theorem isB_bool (b : Bool) : isB (nI b.toNat) := by cases b <;> rfl
theorem sp8_isBarred {t : Nat → Nat} {P forms : Nat → Int32} (hM : MF t P forms) (hP : LWP t P) {bars : Nat} {ba : Int32} (hB : BA bars ba) {x y : Int32} {s c : Nat} (hx : x = nI (ph s)) (hy : y = nI c) (hs : SV t s) (hc : c < 5) {post : Int32 → Prop} (h : post (nI (barB P bars s c).toNat)) : wp_X8_isBarred forms ba x y post := by
  unfold wp_X8_isBarred
  subst hx hy
  have main : ∀ q i, i ≤ 5 → 5 < q + i → wpL_X8_isBarred_17 forms ba post q (nI (ph s)) (nI c) (nI (bt bars c || anyN (baT P s c) i).toNat) (nI i) := by
    intro q
    induction q with
    | zero => intro i h1 h2; omega
    | succ q ih =>
      intro i h1 h2
      rw [wpL_X8_isBarred_17]
      refine pk_le 5 i (fun h5 => ?_) (fun h5 => ?_)
      · have : i = 5 := by omega
        subst this
        exact ⟨isB_bool _, h⟩
      · have next := ih (i + 1) (by omega) (by omega)
        have ex : (bt bars c || anyN (baT P s c) (i + 1)) = ((bt bars c || anyN (baT P s c) i) || baT P s c i) := by
          show (bt bars c || (anyN (baT P s c) i || baT P s c i)) = _
          rw [Bool.or_assoc]
        rw [ex] at next
        refine nbool' rfl (fun hz => ?_) (fun hz => ?_)
        · rw [hz, Bool.false_or] at next
          have no : baT P s c i = false → ∀ z : Int32, z = nI i + 1 → wpL_X8_isBarred_17 forms ba post q (nI (ph s)) (nI c) 0 z := fun e => nm_r (nI_1 i) (by rw [e] at next; exact next)
          have yes : baT P s c i = true → ∀ z : Int32, z = nI i + 1 → wpL_X8_isBarred_17 forms ba post q (nI (ph s)) (nI c) 1 z := fun e => nm_r (nI_1 i) (by rw [e] at next; exact next)
          refine sp8_isForce hM hP rfl rfl hs h5 ?_
          refine nbool rfl (fun hf => no (by unfold baT; simp [hf])) (fun hf => ?_)
          have h0 := frc_fo hf
          refine sp8_told hM hP rfl rfl rfl hs h5 (w := 0) (by decide) h0 ?_
          refine ⟨fun h3 => no (by unfold baT; have : ¬ P (rwN i s) = 3 := h3; simp [this]), fun h3 => ?_⟩
          have h3 : P (rwN i s) = 3 := h3
          have e1 := ((hP.wf hs h5 h0).bar h3).val
          refine sp8_told hM hP rfl rfl rfl hs h5 (w := 1) (by decide) h0 ?_
          rw [e1.1]
          refine pk_eq' _ _ (fun q1 => no ?_) (fun q1 => yes ?_)
          · unfold baT
            have : (Pn P (rwN i s + 1) == c) = false := by simp; exact q1
            simp [this]
          · unfold baT
            simp [hf, h3, q1]
        · rw [hz, Bool.true_or] at next
          exact nm_r (nI_1 i) next
  have hb := (hB.bt hc).1
  refine ⟨fun q => ⟨6, ?_⟩, fun q => ⟨6, ?_⟩⟩
  · have : bt bars c = false := by
      cases e : bt bars c
      · rfl
      · exact absurd (hb.mpr e) q
    have := main 6 0 (by omega) (by omega)
    rw [‹bt bars c = false›] at this
    exact this
  · have := main 6 0 (by omega) (by omega)
    rw [hb.mp q] at this
    exact this
theorem sp8_done {t : Nat → Nat} {P forms : Nat → Int32} (hM : MF t P forms) (hP : LWP t P) {np s k : Nat} (hs : SV t s) (hk : k < 20) (hg : givB t P np s k = true) {x y : Int32} (hx : x = nI (ph s)) (hy : y = nI (actN k)) {post : Int32 → Prop} (h : post (nI (ph (aft P s k)))) : wp_X8_done forms x y post := by
  unfold wp_X8_done
  subst hy
  have hs1 := hs.1
  have hc : k / 4 < 5 := by omega
  have hal := actN_lt hk
  have ed : nI (actN k) / (100 : Int32) = nI (k / 4) := by
    have := pk_div (a := actN k) (d := 100) (by omega) (by decide) (by decide)
    rw [actN_div hk] at this
    exact this
  refine nm_r ed ?_
  obtain ⟨h0, hlet, -, -⟩ := giv_letter hg
  have hwf := hP.wf hs hc h0
  refine sp8_told hM hP hx rfl rfl hs hc (w := 3) (by decide) h0 ?_
  refine sp8_told hM hP hx rfl rfl hs hc (w := 0) (by decide) h0 ?_
  unfold aft at h
  subst hx
  refine ⟨fun q => ?_, fun q => ?_⟩
  · have q : ¬ P (rwN (k / 4) s) = 2 := q
    rw [if_neg q] at h
    have h01 : P (rwN (k / 4) s) = 0 ∨ P (rwN (k / 4) s) = 1 := by
      rcases hlet with z | z | z
      · exact Or.inl z
      · exact Or.inr z
      · exact absurd z q
    have e3 := (hwf.ch h01).2.2.val
    unfold wp_X8_put
    rw [w_formA (by omega), actN_mod hk, e3.1, w8_put hs1 (by omega) (by omega)]
    exact h
  · have q : P (rwN (k / 4) s) = 2 := q
    rw [if_pos q] at h
    obtain ⟨-, -, n3, n4⟩ := hwf.do_ q
    have e3 := n3.val
    have e4 := n4.val
    refine sp8_told hM hP rfl rfl rfl hs hc (w := 4) (by decide) h0 ?_
    unfold wp_X8_turned
    rw [e3.1, e4.1, w8_turned hs1 (by omega) (by omega)]
    exact h
theorem sp8_whyNot {t : Nat → Nat} {P forms formMany seats : Nat → Int32} {G : Nat → Nat} (hM : MF t P forms) (hP : LWP t P) (hT : TD t formMany) (hD : SD G seats) (hG : LG G) {bars np : Nat} {ba noPut : Int32} (hB : BA bars ba) (hN : NPt np noPut) {set s k : Nat} (hs : SV t s) (hset : set < 16) (hk : k < 20) {x y z : Int32} (hx : x = nI (ph s)) (hy : y = nI set) (hz : z = nI (actN k)) {post : Int32 → Prop} (h : post (nI (whyN t P G set bars np s k))) : wp_X8_whyNot forms formMany seats ba noPut x y z post := by
  unfold wp_X8_whyNot
  subst hz
  have hs1 := hs.1
  have hc : k / 4 < 5 := by omega
  have hal := actN_lt hk
  have ed : nI (actN k) / (100 : Int32) = nI (k / 4) := by
    have := pk_div (a := actN k) (d := 100) (by omega) (by decide) (by decide)
    rw [actN_div hk] at this
    exact this
  refine nm_r ed ?_
  refine nm_r (by rw [w_formA (by omega), actN_mod hk]) ?_
  refine sp8_formOf hx rfl hs1 hc ?_
  have hf4 := fo_lt s (k / 4)
  unfold whyN at h
  -- behind the tests of what is given
  have hJ : givB t P np s k = true → wpJ_X8_whyNot_94 forms formMany seats ba noPut post x y (nI (actN k)) (nI (k / 4)) (P (rwN (k / 4) s)) (P (rwN (k / 4) s + 3)) := by
    intro hg
    rw [if_neg (by rw [hg]; decide)] at h
    obtain ⟨h0, hlet, -, -⟩ := giv_letter hg
    obtain ⟨g1, g1b, g2, g2b, g3, g3b⟩ := giv_wf hP hs hk hg
    unfold wpJ_X8_whyNot_94
    refine sp8_isForce hM hP hx rfl hs hc ?_
    have hK : (aft P s k = s → post (nI 5)) → (¬ aft P s k = s → post (nI 0)) → wpJ_X8_whyNot_151 forms formMany seats ba noPut post x (nI (actN k)) := by
      intro j1 j2
      unfold wpJ_X8_whyNot_151
      refine sp8_done hM hP hs hk hg hx rfl ?_
      have ha := (giv_aft hP hs hk hg).1
      have p1 := ph_lt ha
      have p2 := ph_lt hs1
      rw [hx]
      exact pk_eq' _ _ (fun q => j2 (fun z => q (by rw [z]))) (fun q => j1 (ph_inj ha hs1 q))
    refine nbool' rfl (fun hf => ?_) (fun hf => ?_)
    · rw [if_pos hf] at h; exact h
    · rw [if_neg (by rw [hf]; decide)] at h
      refine sp8_told hM hP hx rfl rfl hs hc (w := 1) (by decide) h0 ?_
      refine sp8_votesIn hM hP hD hx hy g1 hs hset (by omega) ?_
      refine sp8_told hM hP hx rfl rfl hs hc (w := 2) (by decide) h0 ?_
      have hvl := votesN_le hP hG (set := set) hs (b := Pn P (rwN (k / 4) s + 1)) (by omega)
      rw [g2]
      refine pk_le _ _ (fun hv => ?_) (fun hv => ?_)
      · rw [if_neg (by omega)] at h
        have two : ((2 : Int32) ≤ P (rwN (k / 4) s)) ↔ P (rwN (k / 4) s) = 2 := by
          rcases hlet with e | e | e <;> rw [e] <;> decide
        refine ⟨fun q2 => ?_, fun q2 => ?_⟩
        · rw [if_neg (fun z => z.1 (two.mp q2))] at h
          refine hK (fun z => ?_) (fun z => ?_)
          · rw [if_pos z] at h; exact h
          · rw [if_neg z] at h; exact h
        · refine sp8_isBarred hM hP hB hx g3 hs (by omega) ?_
          refine nbool rfl (fun hb => ?_) (fun hb => ?_)
          · rw [if_neg (fun z => by rw [hb] at z; exact absurd z.2 (by decide))] at h
            refine hK (fun z => ?_) (fun z => ?_)
            · rw [if_pos z] at h; exact h
            · rw [if_neg z] at h; exact h
          · rw [if_pos ⟨fun z => q2 (two.mpr z), hb⟩] at h
            exact h
      · rw [if_pos hv] at h; exact h
  have hno : givB t P np s k = false → post 1 := fun e => by rw [if_pos e] at h; exact h
  refine pk_eq' (fo s (k / 4)) 0 (fun h0 => ?_) (fun h0 => hno (by unfold givB; simp [h0]))
  have hwf := hP.wf hs hc h0
  have hb0 : (fo s (k / 4) != 0) = true := by simp; exact h0
  refine sp8_told hM hP hx rfl rfl hs hc (w := 0) (by decide) h0 ?_
  refine sp8_told hM hP hx rfl rfl hs hc (w := 3) (by decide) h0 ?_
  refine pk_le (k % 4) 0 (fun e => ?_) (fun e => ?_)
  · have e : k % 4 = 0 := by omega
    refine ⟨fun q => hJ (by unfold givB; have q : P (rwN (k / 4) s) = 1 := q; simp [h0, e, q]), fun q1 => ⟨fun q => hJ (by unfold givB; have q : P (rwN (k / 4) s) = 2 := q; simp [h0, e, q]), fun q2 => hno ?_⟩⟩
    have q1 : ¬ P (rwN (k / 4) s) = 1 := q1
    have q2 : ¬ P (rwN (k / 4) s) = 2 := q2
    unfold givB
    simp [e, q1, q2]
  · have e : ¬ k % 4 = 0 := by omega
    refine ⟨fun q => hno ?_, fun q => ?_⟩
    · have q : ¬ P (rwN (k / 4) s) = 0 := q
      unfold givB
      simp [e, q]
    · have q : P (rwN (k / 4) s) = 0 := q
      have e3 := (hwf.ch (Or.inl q)).2.2.val
      have ht := hP.1 (Pn P (rwN (k / 4) s + 3)) (by omega)
      have hmn : (P (rwN (k / 4) s + 3)).toNatClampNeg = Pn P (rwN (k / 4) s + 3) := rfl
      rw [hmn, hT _ (by omega), e3.1]
      refine ⟨pk_in (Pn P (rwN (k / 4) s + 3)) 5 (by omega), pk_lt _ _ (fun z => hno ?_) (fun z => ⟨fun w => ?_, fun w => hno ?_⟩)⟩
      · unfold givB
        have : ¬ k % 4 ≤ t (Pn P (rwN (k / 4) s + 3)) := by omega
        simp [e, this]
      · rw [← e3.1]
        refine hJ ?_
        have w2 : np ≠ Pn P (rwN (k / 4) s + 3) := fun z => w ((hN.eq (by omega)).mpr z)
        unfold givB
        have w3 : (np != Pn P (rwN (k / 4) s + 3)) = true := by simp; exact w2
        simp only [hb0, Bool.true_and, if_neg e, w3, q, z, decide_true, Bool.and_true]
      · have w2 := (hN.eq (by omega)).mp w
        unfold givB
        have w3 : (np != Pn P (rwN (k / 4) s + 3)) = false := by simp; exact w2
        simp only [w3, Bool.and_false, if_neg e]
