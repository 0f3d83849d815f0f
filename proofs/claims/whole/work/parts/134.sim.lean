/-! helpers of both searches -/
def holdB (t : Nat → Nat) (P : Nat → Int32) (G : Nat → Nat) (set bars np s g : Nat) : Bool := (bfs (mvs t P G set bars np) (aft P) s).all (fun e => soN g e.1)
theorem sp_searchAs {t : Nat → Nat} {G : Nat → Nat} {R s set : Nat} {p0 : Int32} {sl_state : Int32} {se_order : Nat → Int32} {se_from : Nat → Int32} {se_cameBy : Nat → Int32} {se_runs : Int32} {se_length : Int32} {sg_ownVotes : Nat → Int32} {sg_votes : Nat → Int32} {sg_rows : Nat → Int32} {sg_groups : Int32} {sg_bars : Int32} {sg_now : Int32} {sg_forced : Int32} {sg_barred : Int32} {sg_mayActs : Nat → Int32} {sg_mayEnds : Nat → Int32} {sg_mays : Int32} {lw_told : Nat → Int32} {lw_parts : Nat → Int32} {lw_hangMasks : Nat → Int32} {lw_hangValues : Nat → Int32} {lw_ownSeats : Nat → Int32} (hW : LW t lw_parts G lw_told lw_hangMasks lw_hangValues) (hSD : SD G lw_ownSeats) (hB : CB se_cameBy se_runs R) (hR : R + 1 < 1000000) (hs : SV t s) (es : sl_state = nI s) (hset : set < 16) (hp : p0 = nI set) {post : (Nat → Int32) → (Nat → Int32) → (Nat → Int32) → Int32 → Int32 → (Nat → Int32) → (Nat → Int32) → (Nat → Int32) → Int32 → Int32 → Int32 → Int32 → Int32 → (Nat → Int32) → (Nat → Int32) → Int32 → Prop} (h : ∀ (se_order1 : Nat → Int32) (se_from1 : Nat → Int32) (se_cameBy1 : Nat → Int32) (se_runs1 : Int32) (se_length1 : Int32) (sg_ownVotes1 : Nat → Int32) (sg_votes1 : Nat → Int32) (sg_rows1 : Nat → Int32) (sg_groups1 : Int32) (sg_bars1 : Int32) (sg_now1 : Int32) (sg_forced1 : Int32) (sg_barred1 : Int32) (sg_mayActs1 : Nat → Int32) (sg_mayEnds1 : Nat → Int32) (sg_mays1 : Int32), CS (bfs (mvs t lw_parts G set 0 5) (aft lw_parts) s) se_order1 se_from1 se_cameBy1 se_runs1 se_length1 (R + 1) → SC G set 0 sg_ownVotes1 sg_groups1 sg_bars1 → post se_order1 se_from1 se_cameBy1 se_runs1 se_length1 sg_ownVotes1 sg_votes1 sg_rows1 sg_groups1 sg_bars1 sg_now1 sg_forced1 sg_barred1 sg_mayActs1 sg_mayEnds1 sg_mays1) : wp_X7_searchAs sl_state se_order se_from se_cameBy se_runs se_length sg_ownVotes sg_votes sg_rows sg_groups sg_bars sg_now sg_forced sg_barred sg_mayActs sg_mayEnds sg_mays lw_told lw_parts lw_hangMasks lw_hangValues lw_ownSeats p0 post := by
  unfold wp_X7_searchAs
  refine sp_choose hSD hset (bars := 0) (by decide) hp rfl (fun o g ba hSC => ?_)
  exact sp_run hW hSC hB hR hs es (fun o2 f c r l v rr n fo b a e m hC => h _ _ _ _ _ _ _ _ _ _ _ _ _ _ _ _ hC hSC)
theorem sp_findAs {t : Nat → Nat} {G : Nat → Nat} {R s set g : Nat} {p0 p1 : Int32} {sl_state : Int32} {se_order : Nat → Int32} {se_from : Nat → Int32} {se_cameBy : Nat → Int32} {se_runs : Int32} {se_length : Int32} {sg_ownVotes : Nat → Int32} {sg_votes : Nat → Int32} {sg_rows : Nat → Int32} {sg_groups : Int32} {sg_bars : Int32} {sg_now : Int32} {sg_forced : Int32} {sg_barred : Int32} {sg_mayActs : Nat → Int32} {sg_mayEnds : Nat → Int32} {sg_mays : Int32} {lw_told : Nat → Int32} {lw_parts : Nat → Int32} {lw_hangMasks : Nat → Int32} {lw_hangValues : Nat → Int32} {lw_ownSeats : Nat → Int32} (hW : LW t lw_parts G lw_told lw_hangMasks lw_hangValues) (hSD : SD G lw_ownSeats) (hB : CB se_cameBy se_runs R) (hR : R + 1 < 1000000) (hs : SV t s) (es : sl_state = nI s) (hset : set < 16) (hp : p0 = nI set) (hg : goalN g) (hp1 : p1 = nI g) {post : Int32 → (Nat → Int32) → (Nat → Int32) → (Nat → Int32) → Int32 → Int32 → (Nat → Int32) → (Nat → Int32) → (Nat → Int32) → Int32 → Int32 → Int32 → Int32 → Int32 → (Nat → Int32) → (Nat → Int32) → Int32 → Prop} (h : ∀ L r (se_order1 : Nat → Int32) (se_from1 : Nat → Int32) (se_cameBy1 : Nat → Int32) (se_runs1 : Int32) (se_length1 : Int32) (sg_ownVotes1 : Nat → Int32) (sg_votes1 : Nat → Int32) (sg_rows1 : Nat → Int32) (sg_groups1 : Int32) (sg_bars1 : Int32) (sg_now1 : Int32) (sg_forced1 : Int32) (sg_barred1 : Int32) (sg_mayActs1 : Nat → Int32) (sg_mayEnds1 : Nat → Int32) (sg_mays1 : Int32), FND t (mvs t lw_parts G set 0 5) lw_parts s g true L r → CS L se_order1 se_from1 se_cameBy1 se_runs1 se_length1 (R + 1) → post r se_order1 se_from1 se_cameBy1 se_runs1 se_length1 sg_ownVotes1 sg_votes1 sg_rows1 sg_groups1 sg_bars1 sg_now1 sg_forced1 sg_barred1 sg_mayActs1 sg_mayEnds1 sg_mays1) : wp_X7_findAs sl_state se_order se_from se_cameBy se_runs se_length sg_ownVotes sg_votes sg_rows sg_groups sg_bars sg_now sg_forced sg_barred sg_mayActs sg_mayEnds sg_mays lw_told lw_parts lw_hangMasks lw_hangValues lw_ownSeats p0 p1 post := by
  unfold wp_X7_findAs
  refine sp_choose hSD hset (bars := 0) (by decide) hp rfl (fun o g2 ba hSC => ?_)
  exact sp_find hW hSC hB hR hs hg es hp1 (bb := true) rfl (fun L ans o2 f c r l v rr n fo b a e m hF hC => h L ans _ _ _ _ _ _ _ _ _ _ _ _ _ _ _ _ hF hC)
theorem neg9 {k : Nat} (hk : k < 2 ^ 31) : ¬ nI k = (-9 : Int32) := fun z => absurd (z ▸ nI_pos' (n := k) hk) (by decide)
theorem sp_holdsFrom {t : Nat → Nat} {G : Nat → Nat} {R s set g bars : Nat} {p0 p1 p2 p3 : Int32} {se_order : Nat → Int32} {se_from : Nat → Int32} {se_cameBy : Nat → Int32} {se_runs : Int32} {se_length : Int32} {sg_ownVotes : Nat → Int32} {sg_votes : Nat → Int32} {sg_rows : Nat → Int32} {sg_groups : Int32} {sg_bars : Int32} {sg_now : Int32} {sg_forced : Int32} {sg_barred : Int32} {sg_mayActs : Nat → Int32} {sg_mayEnds : Nat → Int32} {sg_mays : Int32} {lw_told : Nat → Int32} {lw_parts : Nat → Int32} {lw_hangMasks : Nat → Int32} {lw_hangValues : Nat → Int32} {lw_ownSeats : Nat → Int32} (hW : LW t lw_parts G lw_told lw_hangMasks lw_hangValues) (hSD : SD G lw_ownSeats) (hB : CB se_cameBy se_runs R) (hR : R + 1 < 1000000) (hs : SV t s) (es : p0 = nI s) (hset : set < 16) (hp : p1 = nI set) (hg : goalN g) (hp1 : p2 = nI g) (hbars : bars < 32) (hp3 : p3 = nI bars) {post : Int32 → (Nat → Int32) → (Nat → Int32) → (Nat → Int32) → Int32 → Int32 → (Nat → Int32) → (Nat → Int32) → (Nat → Int32) → Int32 → Int32 → Int32 → Int32 → Int32 → (Nat → Int32) → (Nat → Int32) → Int32 → Prop} (h : ∀ (se_order1 : Nat → Int32) (se_from1 : Nat → Int32) (se_cameBy1 : Nat → Int32) (se_runs1 : Int32) (se_length1 : Int32) (sg_ownVotes1 : Nat → Int32) (sg_votes1 : Nat → Int32) (sg_rows1 : Nat → Int32) (sg_groups1 : Int32) (sg_bars1 : Int32) (sg_now1 : Int32) (sg_forced1 : Int32) (sg_barred1 : Int32) (sg_mayActs1 : Nat → Int32) (sg_mayEnds1 : Nat → Int32) (sg_mays1 : Int32), CB se_cameBy1 se_runs1 (R + 1) → post (nI (holdB t lw_parts G set bars 5 s g).toNat) se_order1 se_from1 se_cameBy1 se_runs1 se_length1 sg_ownVotes1 sg_votes1 sg_rows1 sg_groups1 sg_bars1 sg_now1 sg_forced1 sg_barred1 sg_mayActs1 sg_mayEnds1 sg_mays1) : wp_X7_holdsFrom se_order se_from se_cameBy se_runs se_length sg_ownVotes sg_votes sg_rows sg_groups sg_bars sg_now sg_forced sg_barred sg_mayActs sg_mayEnds sg_mays lw_told lw_parts lw_hangMasks lw_hangValues lw_ownSeats p0 p1 p2 p3 post := by
  unfold wp_X7_holdsFrom
  refine sp_choose hSD hset hbars hp hp3 (fun o g2 ba hSC => ?_)
  refine sp_find hW hSC hB hR hs hg es hp1 (bb := false) rfl (fun L ans o2 f c r l v rr n fo b a e m hF hC => ?_)
  have h := h o2 f c r l o v rr g2 ba n fo b a e m (hC.cb hR)
  obtain ⟨hGL, hpre, hcase⟩ := hF
  rcases hcase with ⟨ha, hL, hall⟩ | ⟨i, e2, he, ha, hso, -⟩
  · have : holdB t lw_parts G set bars 5 s g = true := by
      unfold holdB
      rw [List.all_eq_true]
      intro x hx
      have := hall x (hL ▸ hx)
      simpa using this
    rw [this] at h
    rw [ha]
    exact ⟨fun z => absurd rfl z, fun _ => h⟩
  · have hx := List.mem_of_getElem? (pre_get hpre he)
    have : holdB t lw_parts G set bars 5 s g = false := by
      unfold holdB
      rw [List.all_eq_false]
      exact ⟨e2, hx, by rw [hso]; decide⟩
    rw [this] at h
    have hlt := (hGL.2.1 e2 (List.mem_of_getElem? he)).1
    rw [ha]
    exact ⟨fun _ => h, fun z => absurd z (neg9 (by omega))⟩
-- the reference
theorem sp8_soMany {t : Nat → Nat} {mv : Nat → List Nat} {P : Nat → Int32} {s0 g : Nat} {L : List En} {far queue frm by_ : Nat → Int32} {many : Int32} (hM : MS L far queue frm by_ many) (hL : GL (SV t) mv (aft P) s0 L) (hg : goalN g) {x : Int32} (hx : x = nI g) {post : Int32 → Prop} (h : post (nI (cntN g L L.length))) : wp_X8_soMany queue many x post := by
  unfold wp_X8_soMany
  have hlen := hL.len (fun _ q => q.1)
  have main : ∀ q i, i ≤ L.length → L.length < q + i → wpL_X8_soMany_4 queue many post q x (nI (cntN g L i)) (nI i) := by
    intro q
    induction q with
    | zero => intro i h1 h2; omega
    | succ q ih =>
      intro i h1 h2
      rw [wpL_X8_soMany_4, hM.1]
      refine pk_le L.length i (fun h5 => ?_) (fun h5 => ?_)
      · have : i = L.length := by omega
        subst this
        exact h
      · refine ⟨pk_in i 16384 (by omega), ?_⟩
        rw [nI_clamp (by omega), ← hM.1]
        have hgd := getD_some h5
        refine sp8_isSo ((hM.2.1 i _ hgd).1) hx (hL.2.1 _ (List.mem_of_getElem? hgd)).1 hg ?_
        have next := ih (i + 1) (by omega) (by omega)
        have e1 : cntN g L (i + 1) = cntN g L i + (soN g (L.getD i e0).1).toNat := rfl
        rw [e1] at next
        refine nbool rfl (fun hb => ?_) (fun hb => ?_)
        · rw [hb] at next
          exact nm_r (by exact nI_add _ 0) (nm_r (nI_1 i) next)
        · rw [hb] at next
          exact nm_r (by exact nI_add _ 1) (nm_r (nI_1 i) next)
  exact ⟨L.length + 1, main _ 0 (by omega) (by omega)⟩
theorem sp8_rows {t : Nat → Nat} {mv : Nat → List Nat} {P : Nat → Int32} {s0 : Nat} {L : List En} {far queue frm by_ : Nat → Int32} {many : Int32} (hM : MS L far queue frm by_ many) (hL : GL (SV t) mv (aft P) s0 L) {post : Int32 → Prop} (h : post (rwI L L.length)) : wp_X8_rows queue many post := by
  unfold wp_X8_rows
  have hlen := hL.len (fun _ q => q.1)
  have main : ∀ q i, i ≤ L.length → L.length < q + i → wpL_X8_rows_4 queue many post q (rwI L i) (nI i) := by
    intro q
    induction q with
    | zero => intro i h1 h2; omega
    | succ q ih =>
      intro i h1 h2
      rw [wpL_X8_rows_4, hM.1]
      refine pk_le L.length i (fun h5 => ?_) (fun h5 => ?_)
      · have : i = L.length := by omega
        subst this
        exact h
      · refine ⟨pk_in i 16384 (by omega), ?_⟩
        rw [nI_clamp (by omega), ← hM.1]
        have hgd := getD_some h5
        have hx := (hL.2.1 _ (List.mem_of_getElem? hgd)).1
        have hp := ph_lt hx
        have e15 : nI (ph (L.getD i e0).1) &&& (15 : Int32) = nI ((L.getD i e0).1 / 1024) := by
          rw [pk_andN (by omega) 4 (by decide)]
          congr 1
          unfold ph
          omega
        rw [(hM.2.1 i _ hgd).1, e15]
        exact nm_e (nm_r (nI_1 i) (ih (i + 1) (by omega) (by omega)))
  exact ⟨L.length + 1, main _ 0 (by omega) (by omega)⟩
theorem sp8_firstSo {t : Nat → Nat} {mv : Nat → List Nat} {P : Nat → Int32} {s0 g : Nat} {L : List En} {far queue frm by_ : Nat → Int32} {many : Int32} (hM : MS L far queue frm by_ many) (hL : GL (SV t) mv (aft P) s0 L) (hg : goalN g) {x : Int32} (hx : x = nI g) {post : Int32 → Prop} (h0 : (∀ e ∈ L, soN g e.1 = false) → post (-9)) (h1 : ∀ (i : Nat) (e : En), L[i]? = some e → soN g e.1 = true → (∀ (j : Nat) (e2 : En), j < i → L[j]? = some e2 → soN g e2.1 = false) → post (nI (ph e.1))) : wp_X8_firstSo queue many x post := by
  unfold wp_X8_firstSo
  have hlen := hL.len (fun _ q => q.1)
  have main : ∀ q i, i ≤ L.length → L.length < q + i → (∀ (j : Nat) (e2 : En), j < i → L[j]? = some e2 → soN g e2.1 = false) → wpL_X8_firstSo_2 queue many post q x (nI i) := by
    intro q
    induction q with
    | zero => intro i h1 h2; omega
    | succ q ih =>
      intro i hi1 hi2 hno
      rw [wpL_X8_firstSo_2, hM.1]
      refine pk_le L.length i (fun h5 => h0 (fun e he => ?_)) (fun h5 => ?_)
      · obtain ⟨j, hj⟩ := List.getElem?_of_mem he
        exact hno j e (by have := (List.getElem?_eq_some_iff.mp hj).1; omega) hj
      · refine ⟨pk_in i 16384 (by omega), ?_⟩
        rw [nI_clamp (by omega), ← hM.1]
        have hgd := getD_some h5
        have hq := (hM.2.1 i _ hgd).1
        refine sp8_isSo hq hx (hL.2.1 _ (List.mem_of_getElem? hgd)).1 hg ?_
        refine nbool rfl (fun hb => ?_) (fun hb => ⟨pk_in i 16384 (by omega), ?_⟩)
        · refine nm_r (nI_1 i) (ih (i + 1) (by omega) (by omega) (fun j e2 hj he2 => ?_))
          by_cases w : j = i
          · subst w
            rw [hgd] at he2
            rw [← Option.some.inj he2]
            exact hb
          · exact hno j e2 (by omega) he2
        · rw [hq]
          exact h1 i _ hgd hb hno
  exact ⟨L.length + 1, main _ 0 (by omega) (by omega) (fun j e2 hj => absurd hj (Nat.not_lt_zero j))⟩
theorem cnt_le (g : Nat) (L : List En) : ∀ n, cntN g L n ≤ n := by
  intro n
  induction n with
  | zero => exact Nat.le_refl 0
  | succ n ih =>
    have e1 : cntN g L (n + 1) = cntN g L n + (soN g (L.getD n e0).1).toNat := rfl
    rw [e1]
    cases soN g (L.getD n e0).1 <;> simp <;> omega
theorem cnt_eq (g : Nat) (L : List En) : ∀ n, cntN g L n = n ↔ ∀ j, j < n → soN g (L.getD j e0).1 = true := by
  intro n
  induction n with
  | zero => exact ⟨fun _ j hj => absurd hj (Nat.not_lt_zero j), fun _ => rfl⟩
  | succ n ih =>
    have e1 : cntN g L (n + 1) = cntN g L n + (soN g (L.getD n e0).1).toNat := rfl
    have hle := cnt_le g L n
    rw [e1]
    cases hb : soN g (L.getD n e0).1
    · constructor
      · intro h; simp at h; omega
      · intro h
        rw [h n (by omega)] at hb
        exact absurd hb (by decide)
    · constructor
      · intro h j hj
        by_cases q : j = n
        · subst q; exact hb
        · exact ih.mp (by simp at h; omega) j (by omega)
      · intro h
        have := ih.mpr (fun j hj => h j (by omega))
        simp
        omega
theorem all_cnt (g : Nat) (L : List En) : cntN g L L.length = L.length ↔ L.all (fun e => soN g e.1) = true := by
  rw [cnt_eq, List.all_eq_true]
  constructor
  · intro h e he
    obtain ⟨j, hj⟩ := List.getElem?_of_mem he
    have hl := (List.getElem?_eq_some_iff.mp hj).1
    have := h j hl
    rw [getD_some hl] at hj
    rw [← Option.some.inj hj]
    exact this
  · intro h j hj
    exact h _ (List.mem_of_getElem? (getD_some hj))
theorem sp8_holds {t : Nat → Nat} {P : Nat → Int32} {G : Nat → Nat} {s set g bars np : Nat} {p0 p1 p2 : Int32} {md_forms : Nat → Int32} {md_formMany : Nat → Int32} {md_seats : Nat → Int32} {md_barAlways : Int32} {md_noPut : Int32} {md_far : Nat → Int32} {md_queue : Nat → Int32} {md_from : Nat → Int32} {md_by : Nat → Int32} {md_many : Int32} (hW : MLW t P G md_forms md_formMany md_seats) (hB : BA bars md_barAlways) (hN : NPt np md_noPut) (hs : SV t s) (es : p0 = nI (ph s)) (hset : set < 16) (hp : p1 = nI set) (hg : goalN g) (hp1 : p2 = nI g) {post : Int32 → (Nat → Int32) → (Nat → Int32) → (Nat → Int32) → (Nat → Int32) → Int32 → Prop} (h : ∀ (md_far1 : Nat → Int32) (md_queue1 : Nat → Int32) (md_from1 : Nat → Int32) (md_by1 : Nat → Int32) (md_many1 : Int32), post (nI (holdB t P G set bars np s g).toNat) md_far1 md_queue1 md_from1 md_by1 md_many1) : wp_X8_holds md_forms md_formMany md_seats md_barAlways md_noPut md_far md_queue md_from md_by md_many p0 p1 p2 post := by
  unfold wp_X8_holds
  refine sp8_wave hW hB hN hset hset hs es hp hp (fun fa q fr b m hM => ?_)
  rw [umv_same] at hM
  have hGL := bfs_GL (cmv_ok hW.2.1 (G := G) (set := set) (bars := bars) (np := np)) hs
  refine sp8_soMany hM hGL hg hp1 ?_
  have h := h fa q fr b m
  have hlen := hGL.len (fun _ q => q.1)
  have hcl := cnt_le g (bfs (mvs t P G set bars np) (aft P) s) (bfs (mvs t P G set bars np) (aft P) s).length
  have hiff := all_cnt g (bfs (mvs t P G set bars np) (aft P) s)
  rw [hM.1]
  rw [hM.1] at h
  refine pk_eq' _ _ (fun w => ?_) (fun w => ?_)
  · have : holdB t P G set bars np s g = false := by
      unfold holdB
      cases e : (bfs (mvs t P G set bars np) (aft P) s).all (fun e => soN g e.1)
      · rfl
      · exact absurd (hiff.mpr e) w
    rw [this] at h
    exact h
  · have : holdB t P G set bars np s g = true := hiff.mp w
    rw [this] at h
    exact h
theorem first_uniq {L : List En} {g i j : Nat} {e f : En} (he : L[i]? = some e) (hf : L[j]? = some f) (h1 : soN g e.1 = true) (h2 : soN g f.1 = true) (h3 : ∀ (k : Nat) (x : En), k < i → L[k]? = some x → soN g x.1 = false) (h4 : ∀ (k : Nat) (x : En), k < j → L[k]? = some x → soN g x.1 = false) : e = f := by
  rcases Nat.lt_trichotomy i j with q | q | q
  · have := h4 i e q he
    rw [h1] at this
    exact absurd this (by decide)
  · subst q
    rw [he] at hf
    exact Option.some.inj hf
  · have := h3 j f q hf
    rw [h2] at this
    exact absurd this (by decide)
