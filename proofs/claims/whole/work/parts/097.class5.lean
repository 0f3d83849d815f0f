/-- the acts (by their places) that a set may do -/
def mvT (t : Nat → Nat) (P : Nat → Int32) (G : Nat → Nat) (set bars np s n : Nat) : List Nat := (List.range n).filter (fun k => whyN t P G set bars np s k == 0)
def mvs (t : Nat → Nat) (P : Nat → Int32) (G : Nat → Nat) (set bars np s : Nat) : List Nat := mvT t P G set bars np s 20
theorem mvT_succ {t : Nat → Nat} {P : Nat → Int32} {G : Nat → Nat} {set bars np s n : Nat} : mvT t P G set bars np s (n + 1) = mvT t P G set bars np s n ++ (if whyN t P G set bars np s n = 0 then [n] else []) := by
  unfold mvT
  rw [List.range_succ, List.filter_append]
  congr 1
  by_cases h : whyN t P G set bars np s n = 0
  · simp [h]
  · simp [h]
theorem mvT_len {t : Nat → Nat} {P : Nat → Int32} {G : Nat → Nat} {set bars np s n : Nat} : (mvT t P G set bars np s n).length ≤ n := by
  unfold mvT
  have := List.length_filter_le (fun k => whyN t P G set bars np s k == 0) (List.range n)
  rw [List.length_range] at this
  exact this
theorem mvT_mem {t : Nat → Nat} {P : Nat → Int32} {G : Nat → Nat} {set bars np s n k : Nat} : k ∈ mvT t P G set bars np s n ↔ k < n ∧ whyN t P G set bars np s k = 0 := by
  unfold mvT
  simp
/-- the list that a sight holds -/
def LSt (P : Nat → Int32) (s : Nat) (L : List Nat) (acts ends : Nat → Int32) (mays : Int32) : Prop := mays = nI L.length ∧ ∀ j, j < L.length → acts j = nI (actN (L.getD j 0)) ∧ ends j = nI (aft P s (L.getD j 0))
theorem LSt.push {P : Nat → Int32} {s k : Nat} {L : List Nat} {acts ends : Nat → Int32} {mays : Int32} (h : LSt P s L acts ends mays) : LSt P s (L ++ [k]) (upd acts L.length (nI (actN k))) (upd ends L.length (nI (aft P s k))) (nI (L.length + 1)) := by
  refine ⟨by rw [List.length_append]; rfl, fun j hj => ?_⟩
  rw [List.length_append, List.length_singleton] at hj
  by_cases e : j = L.length
  · subst e
    rw [pk_us, pk_us]
    have : (L ++ [k]).getD L.length 0 = k := by simp
    rw [this]
    exact ⟨rfl, rfl⟩
  · rw [pk_un e, pk_un e]
    have : (L ++ [k]).getD j 0 = L.getD j 0 := by
      simp only [List.getD_eq_getElem?_getD]
      rw [List.getElem?_append_left (by omega)]
    rw [this]
    exact h.2 j (by omega)
theorem why_frc {t : Nat → Nat} {P : Nat → Int32} {G : Nat → Nat} {set bars np s k : Nat} (h : frc P s (k / 4) = false) : whyN t P G set bars np s k ≠ 0 := by
  unfold whyN
  split
  · decide
  · first | decide | (rw [if_pos h]; decide)
theorem why_giv {t : Nat → Nat} {P : Nat → Int32} {G : Nat → Nat} {set bars np s k : Nat} (h : whyN t P G set bars np s k = 0) : givB t P np s k = true := by
  unfold whyN at h
  cases e : givB t P np s k
  · rw [if_pos e] at h; exact absurd h (by decide)
  · rfl
theorem sp_list {t : Nat → Nat} {P hm hv told : Nat → Int32} {G : Nat → Nat} (hP : LWP t P) (hH : LH t P hm hv) (hT : TD t told) (hG : LG G) {set bars s : Nat} (hs : SV t s) {x : Int32} (hx : x = nI s) {ownVotes votes rows mayActs mayEnds : Nat → Int32} {groups barsI now forced barred mays : Int32} (hS : SC G set bars ownVotes groups barsI) {post : (Nat → Int32) → (Nat → Int32) → Int32 → Int32 → Int32 → (Nat → Int32) → (Nat → Int32) → Int32 → Prop} (h : ∀ v r n f b a e m, LSt P s (mvs t P G set bars 5 s) a e m → n = nI s → post v r n f b a e m) : wp_X4_list ownVotes votes rows groups barsI now forced barred mayActs mayEnds mays told P hm hv x post := by
  unfold wp_X4_list
  refine sp_look hP hH hs hx hS (fun v r n f b hL => ?_)
  have main : ∀ q i, i ≤ 20 → 20 < q + i → ∀ a e m, LSt P s (mvT t P G set bars 5 s i) a e m → wpL_X4_list_12 ownVotes groups barsI told P hm hv post q v r n f b a e m (nI i) := by
    intro q
    induction q with
    | zero => intro i h1 h2; omega
    | succ q ih =>
      intro i h1 h2 a e m hM
      rw [wpL_X4_list_12]
      refine pk_le 20 i (fun h5 => ?_) (fun h5 => ?_)
      · have : i = 20 := by omega
        subst this
        exact h _ _ _ _ _ _ _ _ hM hL.2.2.1
      · have hc : i / 4 < 5 := by omega
        have hal := actN_lt h5
        refine sp_X0_nth rfl h5 ?_
        refine sp_X0_clauseOf rfl (by omega) ?_
        rw [actN_div h5]
        obtain ⟨-, -, -, mf, hmf, ef, hfb⟩ := id hL
        rw [ef, w_bit (by omega) hc]
        have hfb2 := hfb _ hc
        have hd : decide (i / 4 < 5) = true := by simp; exact hc
        rw [hd, Bool.true_and] at hfb2
        have skip : whyN t P G set bars 5 s i ≠ 0 → ∀ z : Int32, z = nI i + 1 → wpL_X4_list_12 ownVotes groups barsI told P hm hv post q v r n (nI mf) b a e m z := by
          intro hw
          refine nm_r (nI_1 i) ?_
          rw [← ef]
          refine ih (i + 1) (by omega) (by omega) _ _ _ ?_
          rw [mvT_succ, if_neg hw, List.append_nil]
          exact hM
        have hLf : LK P G set bars s 5 v r n (nI mf) b := ef ▸ hL
        refine pk_eq' _ 1 (fun z => ?_) (fun z => ?_) rfl rfl (by omega)
        · unfold wpJ_X4_list_43
          refine ⟨fun _ => skip (why_frc ?_), fun z => absurd rfl z⟩
          rw [← hfb2, bt_zero]
          have := Nat.mod_lt (mf / 2 ^ (i / 4)) (show 0 < 2 by decide)
          omega
        · unfold wpJ_X4_list_43
          refine ⟨fun z => absurd z (by decide), fun _ => ?_⟩
          refine sp_whyNot hP hT hG hs h5 hLf rfl ?_
          have hwl : whyN t P G set bars 5 s i < 2 ^ 31 := by
            unfold whyN
            repeat' split
            all_goals decide
          refine pk_eq' _ 0 (fun hw => skip hw) (fun hw => ?_)
          have hlen := mvT_len (t := t) (P := P) (G := G) (set := set) (bars := bars) (np := 5) (s := s) (n := i)
          obtain ⟨em, hM2⟩ := id hM
          rw [em]
          refine pk_le 20 (mvT t P G set bars 5 s i).length (fun z => by omega) (fun z => ?_)
          refine ⟨pk_in _ 20 z, nm_e ?_⟩
          have hg := why_giv hw
          refine sp_after hP hs h5 hLf (giv_letter hg).2.1 rfl ?_
          refine ⟨pk_in _ 20 z, nm_e ?_⟩
          rw [nI_clamp (by omega)]
          refine nm_r (nI_1 _) (nm_r (nI_1 i) ?_)
          rw [← ef]
          refine ih (i + 1) (by omega) (by omega) _ _ _ ?_
          rw [mvT_succ, if_pos hw]
          exact hM.push
  exact ⟨21, main 21 0 (by omega) (by omega) _ _ _ ⟨rfl, fun j hj => absurd hj (Nat.not_lt_zero j)⟩⟩
theorem w_bit4 {m c : Nat} (hm : m < 16) (hc : c < 4) : (nI m >>> (nI c &&& 31)) &&& (1 : Int32) = nI (m / 2 ^ c % 2) := w_bit (by omega) (by omega)
def SD (G : Nat → Nat) (seats : Nat → Int32) : Prop := ∀ i, i < 12 → seats i = nI (G i)
theorem sp_ownSeatsOf {G : Nat → Nat} {seats : Nat → Int32} (hD : SD G seats) {set b : Nat} (hset : set < 16) (hb : b < 3) {x y : Int32} (hx : x = nI set) (hy : y = nI b) {post : Int32 → Prop} (h : post (nI (ownV G set b))) : wp_X2_ownSeatsOf seats x y post := by
  unfold wp_X2_ownSeatsOf
  subst hx hy
  have main : ∀ q i, i ≤ 4 → 4 < q + i → wpL_X2_ownSeatsOf_5 seats post q (nI set) (nI b) (nI (sm (ownT G set b) i)) (nI i) := by
    intro q
    induction q with
    | zero => intro i h1 h2; omega
    | succ q ih =>
      intro i h1 h2
      rw [wpL_X2_ownSeatsOf_5]
      refine pk_le 4 i (fun h5 => ?_) (fun h5 => ?_)
      · have : i = 4 := by omega
        subst this
        exact h
      · have e1 : nI b * (4 : Int32) = nI (b * 4) := pk_mul b 4
        refine nm_r (by rw [e1, nI_add]) ?_
        rw [w_bit4 hset h5]
        have hml := Nat.mod_lt (set / 2 ^ i) (show 0 < 2 by decide)
        refine pk_eq' _ 1 (fun z => ?_) (fun z => ?_) rfl rfl (by omega)
        · refine nm_r (nI_1 i) ?_
          have := ih (i + 1) (by omega) (by omega)
          have e : sm (ownT G set b) (i + 1) = sm (ownT G set b) i := by
            show sm (ownT G set b) i + ownT G set b i = _
            have : bt set i = false := by rw [bt_zero]; omega
            unfold ownT
            simp [this]
          rw [e] at this
          exact this
        · refine pk_lt (b * 4 + i) 0 (fun h => by omega) (fun _ => pk_le 12 (b * 4 + i) (fun h => by omega) (fun _ => ?_))
          refine ⟨pk_in _ 12 (by omega), ?_⟩
          rw [nI_clamp (by omega), hD _ (by omega)]
          refine nm_r (nI_add _ _) (nm_r (nI_1 i) ?_)
          have := ih (i + 1) (by omega) (by omega)
          have e : sm (ownT G set b) (i + 1) = sm (ownT G set b) i + G (b * 4 + i) := by
            show sm (ownT G set b) i + ownT G set b i = _
            have : bt set i = true := by rw [bt_iff]; exact z
            unfold ownT
            simp [this]
          rw [e] at this
          exact this
  exact ⟨5, main 5 0 (by omega) (by omega)⟩
theorem sp_choose {G : Nat → Nat} {seats : Nat → Int32} (hD : SD G seats) {set bars : Nat} (hset : set < 16) (hbars : bars < 32) {x y : Int32} (hx : x = nI set) (hy : y = nI bars) {ov : Nat → Int32} {gr ba : Int32} {post : (Nat → Int32) → Int32 → Int32 → Prop} (h : ∀ o g b, SC G set bars o g b → post o g b) : wp_X4_choose ov gr ba seats x y post := by
  unfold wp_X4_choose
  subst hx hy
  have main : ∀ q i, i ≤ 3 → 3 < q + i → ∀ o : Nat → Int32, (∀ b, b < i → o b = nI (ownV G set b)) → wpL_X4_choose_12 seats post q o (nI set) (nI bars) (nI set) (nI i) := by
    intro q
    induction q with
    | zero => intro i h1 h2; omega
    | succ q ih =>
      intro i h1 h2 o ho
      rw [wpL_X4_choose_12]
      refine pk_le 3 i (fun h5 => ?_) (fun h5 => ?_)
      · exact h _ _ _ ⟨hset, hbars, fun b hb => ho b (by omega), rfl, rfl⟩
      · refine sp_ownSeatsOf hD hset h5 rfl rfl ?_
        refine ⟨pk_in _ 3 h5, nm_e (nm_r (nI_1 i) ?_)⟩
        rw [nI_clamp (by omega)]
        refine ih (i + 1) (by omega) (by omega) _ (fun b hb => ?_)
        by_cases e : b = i
        · subst e; exact pk_us
        · rw [pk_un e]; exact ho b (by omega)
  exact ⟨4, main 4 0 (by omega) (by omega) _ (fun b hb => absurd hb (Nat.not_lt_zero b))⟩
