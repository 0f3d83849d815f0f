theorem CS_start {cameBy order frm : Nat → Int32} {runs length : Int32} {R s0 : Nat} (hB : CB cameBy runs R) (hR : R + 1 < 1000000) (hs : s0 < 16384) {x : Int32} (hx : x = nI s0) {post : (Nat → Int32) → (Nat → Int32) → (Nat → Int32) → Int32 → Int32 → Prop} (h : ∀ o f c r l, CS [(s0, 0, 0, 0)] o f c r l (R + 1) → post o f c r l) : wp_X3_startAt order frm cameBy runs length x post := by
  unfold wp_X3_startAt
  obtain ⟨-, e1, hc⟩ := hB
  rw [e1]
  refine nm_r (nI_1 R) ?_
  have h0 : CS [] order frm cameBy (nI (R + 1)) 0 (R + 1) := ⟨rfl, rfl, fun j e he => by simp at he, fun y hy _ => by
    obtain ⟨r, q1, q2⟩ := hc y hy
    exact ⟨r, by omega, q2⟩⟩
  exact sp_comeTo (d := 0) (p := 0) (k := 0) h0 hR (fun e he => absurd he List.not_mem_nil) List.nodup_nil (Nat.zero_le _) hs (fun _ => by decide) hx rfl (fun o f c l hC => h o f c _ l hC)
abbrev cmv (t : Nat → Nat) (P : Nat → Int32) (G : Nat → Nat) (set bars : Nat) : Nat → List Nat := mvs t P G set bars 5
theorem cmv_ok {t : Nat → Nat} {P : Nat → Int32} (hP : LWP t P) {G : Nat → Nat} {set bars np : Nat} : ∀ x, SV t x → ∀ k ∈ mvs t P G set bars np x, SV t (aft P x k) := fun _ hx k hk => (mvs_ok hP hx k hk).2
theorem rnL_end {mv : Nat → List Nat} {af : Nat → Nat → Nat} {n i : Nat} {L : List En} (h : L.length ≤ i) : rnL mv af n i L = L := by
  cases n with
  | zero => rfl
  | succ n => rw [rnL, if_neg (by omega)]
theorem rnL_step {mv : Nat → List Nat} {af : Nat → Nat → Nat} {n i : Nat} {L : List En} (h : i < L.length) : rnL mv af (n + 1) i L = rnL mv af n (i + 1) (spr af (L.getD i e0).1 (L.getD i e0).2.2.2 (mv (L.getD i e0).1) L) := by
  rw [rnL, if_pos h]
theorem sp_run {t : Nat → Nat} {P hm hv told : Nat → Int32} {G : Nat → Nat} (hW : LW t P G told hm hv) {set bars : Nat} {ownVotes : Nat → Int32} {groups barsI : Int32} (hS : SC G set bars ownVotes groups barsI) {order frm cameBy : Nat → Int32} {runs length : Int32} {R s0 : Nat} (hB : CB cameBy runs R) (hR : R + 1 < 1000000) (hs : SV t s0) {x : Int32} (hx : x = nI s0) {votes rows mayActs mayEnds : Nat → Int32} {now forced barred mays : Int32}
    {post : (Nat → Int32) → (Nat → Int32) → (Nat → Int32) → Int32 → Int32 → (Nat → Int32) → (Nat → Int32) → Int32 → Int32 → Int32 → (Nat → Int32) → (Nat → Int32) → Int32 → Prop}
    (h : ∀ o f c r l v rr n fo b a e m, CS (bfs (cmv t P G set bars) (aft P) s0) o f c r l (R + 1) → post o f c r l v rr n fo b a e m) : wp_X3_run order frm cameBy runs length ownVotes votes rows groups barsI now forced barred mayActs mayEnds mays told P hm hv x post := by
  unfold wp_X3_run
  refine CS_start hB hR hs.1 hx (fun o f c r l hC => ?_)
  have main : ∀ q i, 16384 < q + i → ∀ L, bfs (cmv t P G set bars) (aft P) s0 = rnL (cmv t P G set bars) (aft P) q i L → GL (SV t) (cmv t P G set bars) (aft P) s0 L → i ≤ L.length → ∀ o f c r l v rr n fo b a e m, CS L o f c r l (R + 1) → wpL_X3_run_7 ownVotes groups barsI told P hm hv post (q + 1) o f c r l v rr n fo b a e m (nI i) := by
    intro q
    induction q with
    | zero =>
      intro i hi L he hL hil o f c r l v rr n fo b a e m hC
      have := hL.len (fun _ q => q.1)
      omega
    | succ q ih =>
      intro i hi L he hL hil o f c r l v rr n fo b a e m hC
      have hlen := hL.len (fun _ q => q.1)
      rw [wpL_X3_run_7, hC.2.1]
      refine pk_le L.length i (fun h5 => ?_) (fun h5 => ?_)
      · rw [rnL_end h5] at he
        rw [← he, ← hC.2.1] at *
        exact h _ _ _ _ _ _ _ _ _ _ _ _ _ hC
      · refine pk_le 16384 i (fun z => by omega) (fun _ => ⟨pk_in i 16384 (by omega), ?_⟩)
        rw [nI_clamp (by omega), ← hC.2.1]
        have hg := getD_some h5
        refine sp_spread hW hS hC hR hL hg (fun k hk => hk) ((hC.2.2.1 i _ hg).1) (fun o2 f2 c2 l2 v2 r2 n2 fo2 b2 a2 e2 m2 hC2 => ?_)
        refine nm_r (nI_1 i) (ih (i + 1) (by omega) _ ?_ ?_ ?_ _ _ _ _ _ _ _ _ _ _ _ _ _ hC2)
        · rw [he, rnL_step h5]
        · exact spr_GL _ _ hL hg (fun k hk => ⟨hk, cmv_ok hW.1 _ (hL.2.1 _ (List.mem_of_getElem? hg)) k hk⟩)
        · exact Nat.le_trans (Nat.succ_le_of_lt h5) (spr_pre _ _ _ _ L).length_le
  exact ⟨16386, main 16385 0 (by omega) _ rfl (GL_start hs) (by simp) _ _ _ _ _ _ _ _ _ _ _ _ _ hC⟩
/-- what a search for a state of a kind finds -/
def FND (t : Nat → Nat) (mv : Nat → List Nat) (P : Nat → Int32) (s0 g : Nat) (b : Bool) (L : List En) (r : Int32) : Prop :=
  GL (SV t) mv (aft P) s0 L ∧ L <+: bfs mv (aft P) s0 ∧ ((r = -9 ∧ L = bfs mv (aft P) s0 ∧ ∀ e ∈ L, soN g e.1 ≠ b) ∨ ∃ (i : Nat) (e : En), L[i]? = some e ∧ r = nI e.1 ∧ soN g e.1 = b ∧ ∀ (j : Nat) (e2 : En), j < i → L[j]? = some e2 → soN g e2.1 ≠ b)
theorem sp_find {t : Nat → Nat} {P hm hv told : Nat → Int32} {G : Nat → Nat} (hW : LW t P G told hm hv) {set bars : Nat} {ownVotes : Nat → Int32} {groups barsI : Int32} (hS : SC G set bars ownVotes groups barsI) {order frm cameBy : Nat → Int32} {runs length : Int32} {R s0 g : Nat} {bb : Bool} (hB : CB cameBy runs R) (hR : R + 1 < 1000000) (hs : SV t s0) (hg : goalN g) {x y z : Int32} (hx : x = nI s0) (hy : y = nI g) (hz : z = nI bb.toNat) {votes rows mayActs mayEnds : Nat → Int32} {now forced barred mays : Int32}
    {post : Int32 → (Nat → Int32) → (Nat → Int32) → (Nat → Int32) → Int32 → Int32 → (Nat → Int32) → (Nat → Int32) → Int32 → Int32 → Int32 → (Nat → Int32) → (Nat → Int32) → Int32 → Prop}
    (h : ∀ L ans o f c r l v rr n fo b a e m, FND t (cmv t P G set bars) P s0 g bb L ans → CS L o f c r l (R + 1) → post ans o f c r l v rr n fo b a e m) : wp_X3_find order frm cameBy runs length ownVotes votes rows groups barsI now forced barred mayActs mayEnds mays told P hm hv x y z post := by
  unfold wp_X3_find
  refine CS_start hB hR hs.1 hx (fun o f c r l hC => ?_)
  have main : ∀ q i, 16384 < q + i → ∀ L, bfs (cmv t P G set bars) (aft P) s0 = rnL (cmv t P G set bars) (aft P) q i L → GL (SV t) (cmv t P G set bars) (aft P) s0 L → i ≤ L.length → (∀ (j : Nat) (e2 : En), j < i → L[j]? = some e2 → soN g e2.1 ≠ bb) → ∀ o f c r l v rr n fo b a e m, CS L o f c r l (R + 1) → wpL_X3_find_8 ownVotes groups barsI told P hm hv post (q + 1) o f c r l v rr n fo b a e m y z (nI i) := by
    intro q
    induction q with
    | zero =>
      intro i hi L he hL hil hno o f c r l v rr n fo b a e m hC
      have := hL.len (fun _ q => q.1)
      omega
    | succ q ih =>
      intro i hi L he hL hil hno o f c r l v rr n fo b a e m hC
      have hlen := hL.len (fun _ q => q.1)
      have hpre : L <+: bfs (cmv t P G set bars) (aft P) s0 := by rw [he]; exact rnL_pre _ _ _ _ _
      rw [wpL_X3_find_8, hC.2.1]
      refine pk_le L.length i (fun h5 => ?_) (fun h5 => ?_)
      · rw [rnL_end h5] at he
        rw [← hC.2.1]
        refine h L _ _ _ _ _ _ _ _ _ _ _ _ _ _ ⟨hL, hpre, Or.inl ⟨rfl, he.symm, fun e2 he2 => ?_⟩⟩ hC
        obtain ⟨j, hj⟩ := List.getElem?_of_mem he2
        exact hno j e2 (by have := (List.getElem?_eq_some_iff.mp hj).1; omega) hj
      · refine pk_le 16384 i (fun z => by omega) (fun _ => ⟨pk_in i 16384 (by omega), ?_⟩)
        rw [nI_clamp (by omega), ← hC.2.1]
        have hgd := getD_some h5
        have hord := (hC.2.2.1 i _ hgd).1
        have hpv := hL.2.1 _ (List.mem_of_getElem? hgd)
        refine sp_isSo hy hord hg hpv.1 ?_
        rw [hz]
        refine ⟨fun qq => ⟨pk_in i 16384 (by omega), ?_⟩, fun qq => ⟨pk_in i 16384 (by omega), ?_⟩⟩
        · have hnso : soN g (L.getD i e0).1 ≠ bb := fun w => qq (by rw [w])
          refine sp_spread hW hS hC hR hL hgd (fun k hk => hk) hord (fun o2 f2 c2 l2 v2 r2 n2 fo2 b2 a2 e2 m2 hC2 => ?_)
          have hpre2 := spr_pre (aft P) (L.getD i e0).1 (L.getD i e0).2.2.2 (cmv t P G set bars (L.getD i e0).1) L
          rw [← hz]
          refine nm_r (nI_1 i) (ih (i + 1) (by omega) _ ?_ ?_ ?_ ?_ _ _ _ _ _ _ _ _ _ _ _ _ _ hC2)
          · rw [he, rnL_step h5]
          · exact spr_GL _ _ hL hgd (fun k hk => ⟨hk, cmv_ok hW.1 _ hpv k hk⟩)
          · exact Nat.le_trans (Nat.succ_le_of_lt h5) hpre2.length_le
          · intro j e3 hj he3
            have hjl : j < L.length := by omega
            have h6 := pre_get hpre2 (getD_some hjl)
            rw [he3] at h6
            have h7 := Option.some.inj h6
            rw [h7]
            by_cases w : j = i
            · rw [w]; exact hnso
            · exact hno j _ (by omega) (getD_some hjl)
        · rw [hord]
          have hso : soN g (L.getD i e0).1 = bb := by
            cases h8 : soN g (L.getD i e0).1 <;> cases bb <;> rw [h8] at qq <;> first | rfl | exact absurd qq (by decide)
          exact h L _ _ _ _ _ _ _ _ _ _ _ _ _ _ ⟨hL, hpre, Or.inr ⟨i, _, hgd, rfl, hso, hno⟩⟩ hC
  exact ⟨16386, main 16385 0 (by omega) _ rfl (GL_start hs) (by simp) (fun j e2 hj => absurd hj (Nat.not_lt_zero j)) _ _ _ _ _ _ _ _ _ _ _ _ _ hC⟩
/-- entries by their states -/
def ent (L : List En) (x : Nat) : En := (L.find? (fun e => e.1 == x)).getD e0
theorem ent_mem {L : List En} (hn : (sts L).Nodup) {e : En} (he : e ∈ L) : ent L e.1 = e := by
  unfold ent
  induction L with
  | nil => exact absurd he List.not_mem_nil
  | cons a L ih =>
    unfold sts at hn
    rw [List.map_cons, List.nodup_cons] at hn
    rcases List.mem_cons.mp he with rfl | he
    · rw [List.find?_cons]
      simp
    · have hne : a.1 ≠ e.1 := fun z => hn.1 (by rw [z]; exact List.mem_map.mpr ⟨e, he, rfl⟩)
      rw [List.find?_cons]
      have : (a.1 == e.1) = false := by simp; exact hne
      rw [this]
      exact ih hn.2 he
theorem ent_of {L : List En} {x : Nat} (hx : x ∈ sts L) (hn : (sts L).Nodup) : ent L x ∈ L ∧ (ent L x).1 = x := by
  obtain ⟨e, h1, rfl⟩ := mem_sts.mp hx
  rw [ent_mem hn h1]
  exact ⟨h1, rfl⟩
def anc (L : List En) (x : Nat) : Nat → Nat
  | 0 => x
  | n + 1 => (ent L (anc L x n)).2.1
theorem GL.dep {V : Nat → Prop} {mv : Nat → List Nat} {af : Nat → Nat → Nat} {s0 : Nat} {L : List En} (h : GL V mv af s0 L) : ∀ (n j : Nat) (e : En), j < n → L[j]? = some e → e.2.2.2 ≤ j ∧ (j ≠ 0 → e.2.2.2 ≠ 0) := by
  intro n
  induction n with
  | zero => intro j e hj; omega
  | succ n ih =>
    intro j e hj he
    by_cases q : j = 0
    · subst q
      rw [h.2.2.1] at he
      cases he
      exact ⟨Nat.le_refl 0, fun z => absurd rfl z⟩
    · obtain ⟨i, p, q1, q2, q3, q4, q5, q6⟩ := h.2.2.2 j e he q
      have := (ih i p (by omega) q2).1
      exact ⟨by omega, fun _ => by omega⟩
/-- one step back -/
theorem GL.back {V : Nat → Prop} {mv : Nat → List Nat} {af : Nat → Nat → Nat} {s0 : Nat} {L : List En} (h : GL V mv af s0 L) {e : En} (he : e ∈ L) (hd : e.2.2.2 ≠ 0) : e.2.1 ∈ sts L ∧ (ent L e.2.1).2.2.2 + 1 = e.2.2.2 ∧ e.2.2.1 ∈ mv e.2.1 := by
  obtain ⟨j, hj⟩ := List.getElem?_of_mem he
  have hj0 : j ≠ 0 := by
    intro z
    subst z
    rw [h.2.2.1] at hj
    cases hj
    exact hd rfl
  obtain ⟨i, p, q1, q2, q3, q4, q5, q6⟩ := h.2.2.2 j e hj hj0
  have hp := List.mem_of_getElem? q2
  rw [← q3, ent_mem h.1 hp]
  exact ⟨mem_sts.mpr ⟨p, hp, rfl⟩, q4.symm, q5⟩
theorem GL.anc {V : Nat → Prop} {mv : Nat → List Nat} {af : Nat → Nat → Nat} {s0 : Nat} {L : List En} (h : GL V mv af s0 L) {e : En} (he : e ∈ L) : ∀ m, m ≤ e.2.2.2 → anc L e.1 m ∈ sts L ∧ (ent L (anc L e.1 m)).2.2.2 = e.2.2.2 - m := by
  intro m
  induction m with
  | zero =>
    intro _
    show e.1 ∈ sts L ∧ (ent L e.1).2.2.2 = _
    rw [ent_mem h.1 he]
    exact ⟨mem_sts.mpr ⟨e, he, rfl⟩, rfl⟩
  | succ m ih =>
    intro hm
    obtain ⟨h1, h2⟩ := ih (by omega)
    obtain ⟨h3, h4⟩ := ent_of h1 h.1
    obtain ⟨h5, h6, -⟩ := h.back h3 (by omega)
    exact ⟨h5, by show (ent L (ent L (_root_.Jvm.Pilot.CSelfLawLaw_law_r2970_b78c95.anc L e.1 m)).2.1).2.2.2 = _; omega⟩
theorem sp_X5_exists {x : Int32} {s : Nat} (hx : x = nI s) (hs : s < 16384) {post : Int32 → Prop} (h : post 1) : wp_X5_exists x post := by
  unfold wp_X5_exists
  subst hx
  exact pk_lt s 0 (fun z => by omega) (fun _ => pk_le 16384 s (fun z => by omega) (fun _ => h))
theorem sp_X5_exists9 {post : Int32 → Prop} (h : post 0) : wp_X5_exists (-9) post := by
  unfold wp_X5_exists
  exact ⟨fun _ => h, fun q => absurd (by decide) q⟩
theorem CS.frm_pos {t : Nat → Nat} {mv : Nat → List Nat} {P : Nat → Int32} {s0 : Nat} {L : List En} {order frm cameBy : Nat → Int32} {runs length : Int32} {R : Nat} (hC : CS L order frm cameBy runs length R) (hL : GL (SV t) mv (aft P) s0 L) {e : En} (he : e ∈ L) (hd : e.2.2.2 ≠ 0) : frm e.1 = nI (e.2.1 * 512 + actN e.2.2.1) := by
  obtain ⟨j, hj⟩ := List.getElem?_of_mem he
  have hj0 : j ≠ 0 := by
    intro z
    subst z
    rw [hL.2.2.1] at hj
    cases hj
    exact hd rfl
  rw [(hC.2.2.1 j e hj).2.2, if_neg hj0]
theorem CS.frm_zero {t : Nat → Nat} {mv : Nat → List Nat} {P : Nat → Int32} {s0 : Nat} {L : List En} {order frm cameBy : Nat → Int32} {runs length : Int32} {R : Nat} (hC : CS L order frm cameBy runs length R) (hL : GL (SV t) mv (aft P) s0 L) {e : En} (he : e ∈ L) (hd : e.2.2.2 = 0) : frm e.1 = -1 := by
  obtain ⟨j, hj⟩ := List.getElem?_of_mem he
  have hj0 : j = 0 := by
    by_cases z : j = 0
    · exact z
    · exact absurd hd ((hL.dep (j + 1) j e (by omega) hj).2 z)
  rw [(hC.2.2.1 j e hj).2.2, if_pos hj0]
theorem GL.dlt {t : Nat → Nat} {mv : Nat → List Nat} {P : Nat → Int32} {s0 : Nat} {L : List En} (hL : GL (SV t) mv (aft P) s0 L) {e : En} (he : e ∈ L) : e.2.2.2 < 16384 := by
  obtain ⟨j, hj⟩ := List.getElem?_of_mem he
  have h1 := (hL.dep (j + 1) j e (by omega) hj).1
  have h2 := (List.getElem?_eq_some_iff.mp hj).1
  have h3 := hL.len (fun _ q => q.1)
  omega
theorem sp_stepsTo {t : Nat → Nat} {mv : Nat → List Nat} {P : Nat → Int32} {s0 : Nat} {L : List En} {order frm cameBy : Nat → Int32} {runs length : Int32} {R : Nat} (hC : CS L order frm cameBy runs length R) (hL : GL (SV t) mv (aft P) s0 L) (hmv : ∀ x k, k ∈ mv x → k < 20) {e : En} (he : e ∈ L) {x : Int32} (hx : x = nI e.1) {post : Int32 → Prop} (h : post (nI e.2.2.2)) : wp_X3_stepsTo frm x post := by
  unfold wp_X3_stepsTo
  subst hx
  have main : ∀ q m, m ≤ e.2.2.2 → e.2.2.2 < q + m → wpL_X3_stepsTo_4 frm post q (nI (anc L e.1 m)) (nI m) := by
    intro q
    induction q with
    | zero => intro m h1 h2; omega
    | succ q ih =>
      intro m h1 h2
      obtain ⟨a1, a2⟩ := hL.anc he m h1
      obtain ⟨a3, a4⟩ := ent_of a1 hL.1
      have hv := (hL.2.1 _ a3).1
      have hdl := hL.dlt he
      rw [wpL_X3_stepsTo_4]
      refine pk_le 16384 m (fun z => by omega) (fun _ => ?_)
      refine sp_X5_exists rfl (by rw [← a4]; exact hv) ?_
      refine ⟨fun z => absurd z (by decide), fun _ => ⟨pk_in (anc L e.1 m) 16384 (by rw [← a4]; exact hv), ?_⟩⟩
      have hcl : (nI (anc L e.1 m)).toNatClampNeg = (ent L (anc L e.1 m)).1 := by rw [a4]; exact nI_clamp (by omega)
      rw [hcl]
      by_cases hd : (ent L (anc L e.1 m)).2.2.2 = 0
      · rw [hC.frm_zero hL a3 hd]
        refine ⟨fun z => absurd z (by decide), fun _ => ?_⟩
        have : m = e.2.2.2 := by omega
        rw [this]
        exact h
      · obtain ⟨b1, b2, b3⟩ := hL.back a3 hd
        obtain ⟨b4, b5⟩ := ent_of b1 hL.1
        have bv := (hL.2.1 _ b4).1
        rw [b5] at bv
        have hk := actN_lt (hmv _ _ b3)
        rw [hC.frm_pos hL a3 hd]
        refine ⟨fun _ => ⟨pk_in (anc L e.1 m) 16384 (by rw [← a4]; exact hv), ?_⟩, fun z => absurd (nI_pos' (by omega)) z⟩
        have hsh : nI ((ent L (anc L e.1 m)).2.1 * 512 + actN (ent L (anc L e.1 m)).2.2.1) >>> ((9 : Int32) &&& 31) = nI (anc L e.1 (m + 1)) := by
          rw [pk_shrN (by omega) _ 9 (by decide)]
          show nI _ = nI (ent L (anc L e.1 m)).2.1
          congr 1
          omega
        exact nm_r hsh (nm_r (nI_1 m) (ih (m + 1) (by omega) (by omega)))
  exact ⟨e.2.2.2 + 1, main _ 0 (by omega) (by omega)⟩
theorem sp_stepsTo9 {frm : Nat → Int32} {post : Int32 → Prop} (h : post (-9)) : wp_X3_stepsTo frm (-9) post := by
  unfold wp_X3_stepsTo
  refine ⟨1, ?_⟩
  rw [wpL_X3_stepsTo_4]
  exact ⟨fun z => absurd z (by decide), fun _ => sp_X5_exists9 ⟨fun _ => h, fun z => absurd rfl z⟩⟩
/-- the i-th act on the way to an entry -/
def stepN (L : List En) (e : En) (i : Nat) : Nat := actN (ent L (anc L e.1 (e.2.2.2 - 1 - i))).2.2.1
theorem sp_stepOnWayTo {t : Nat → Nat} {mv : Nat → List Nat} {P : Nat → Int32} {s0 : Nat} {L : List En} {order frm cameBy : Nat → Int32} {runs length : Int32} {R : Nat} (hC : CS L order frm cameBy runs length R) (hL : GL (SV t) mv (aft P) s0 L) (hmv : ∀ x k, k ∈ mv x → k < 20) {e : En} (he : e ∈ L) {x y : Int32} (hx : x = nI e.1) {post : Int32 → Prop} (h0 : y < 0 → post (-9)) (h1 : ∀ i, y = nI i → e.2.2.2 ≤ i → i < 2 ^ 31 → post (-9)) (h2 : ∀ i, y = nI i → i < e.2.2.2 → post (nI (stepN L e i))) : wp_X3_stepOnWayTo frm x y post := by
  unfold wp_X3_stepOnWayTo
  have hdl := hL.dlt he
  refine sp_stepsTo hC hL hmv he hx ?_
  refine ⟨h0, fun hy => ?_⟩
  obtain ⟨i, hi, rfl⟩ := nI_of hy
  refine pk_lt i e.2.2.2 (fun hlt => ?_) (fun hge => h1 i rfl hge hi)
  have h2 := h2 i rfl hlt
  refine nm_r (by exact pk_sub (a := e.2.2.2) (b := 1) (by omega)) ?_
  subst hx
  have main : ∀ q m, m ≤ e.2.2.2 - 1 - i → e.2.2.2 - 1 - i < q + m → wpL_X3_stepOnWayTo_26 frm post q (nI i) (nI (anc L e.1 m)) (nI (e.2.2.2 - 1 - m)) := by
    intro q
    induction q with
    | zero => intro m h1 h2; omega
    | succ q ih =>
      intro m h1 h3
      obtain ⟨a1, a2⟩ := hL.anc he m (by omega)
      obtain ⟨a3, a4⟩ := ent_of a1 hL.1
      have hv := (hL.2.1 _ a3).1
      have hd : (ent L (anc L e.1 m)).2.2.2 ≠ 0 := by omega
      obtain ⟨b1, b2, b3⟩ := hL.back a3 hd
      obtain ⟨b4, b5⟩ := ent_of b1 hL.1
      have bv := (hL.2.1 _ b4).1
      rw [b5] at bv
      have hk := actN_lt (hmv _ _ b3)
      have hcl : (nI (anc L e.1 m)).toNatClampNeg = (ent L (anc L e.1 m)).1 := by rw [a4]; exact nI_clamp (by omega)
      rw [wpL_X3_stepOnWayTo_26]
      refine pk_le (e.2.2.2 - 1 - m) i (fun hle => ?_) (fun hgt => ?_)
      · have hm : m = e.2.2.2 - 1 - i := by omega
        unfold wpJ_X3_stepOnWayTo_58
        refine sp_X5_exists rfl (by rw [← a4]; exact hv) ?_
        refine ⟨fun z => absurd z (by decide), fun _ => ⟨pk_in (anc L e.1 m) 16384 (by rw [← a4]; exact hv), ?_⟩⟩
        rw [hcl, hC.frm_pos hL a3 hd, pk_andN (by omega) 9 (by decide)]
        unfold stepN at h2
        rw [← hm] at h2
        have e5 : ((ent L (anc L e.1 m)).2.1 * 512 + actN (ent L (anc L e.1 m)).2.2.1) % 2 ^ 9 = actN (ent L (anc L e.1 m)).2.2.1 := by omega
        rw [e5]
        exact h2
      · refine sp_X5_exists rfl (by rw [← a4]; exact hv) ?_
        refine ⟨fun z => absurd z (by decide), fun _ => ⟨pk_in (anc L e.1 m) 16384 (by rw [← a4]; exact hv), ?_⟩⟩
        rw [hcl, hC.frm_pos hL a3 hd]
        have hsh : nI ((ent L (anc L e.1 m)).2.1 * 512 + actN (ent L (anc L e.1 m)).2.2.1) >>> ((9 : Int32) &&& 31) = nI (anc L e.1 (m + 1)) := by
          rw [pk_shrN (by omega) _ 9 (by decide)]
          show nI _ = nI (ent L (anc L e.1 m)).2.1
          congr 1
          omega
        have hdec : nI (e.2.2.2 - 1 - m) + (-1 : Int32) = nI (e.2.2.2 - 1 - (m + 1)) := by
          have h8 := pk_m1 (e.2.2.2 - 1 - (m + 1))
          have h9 : e.2.2.2 - 1 - (m + 1) + 1 = e.2.2.2 - 1 - m := by omega
          rw [h9] at h8
          exact h8
        exact nm_r hsh (nm_r hdec (ih (m + 1) (by omega) (by omega)))
  exact ⟨e.2.2.2 + 1, main _ 0 (by omega) (by omega)⟩
theorem sp_stepOnWayTo9 {frm : Nat → Int32} {y : Int32} {post : Int32 → Prop} (h : post (-9)) : wp_X3_stepOnWayTo frm (-9) y post := by
  unfold wp_X3_stepOnWayTo
  refine sp_stepsTo9 ⟨fun _ => h, fun hy => ⟨fun z => ?_, fun _ => h⟩⟩
  obtain ⟨i, hi, rfl⟩ := nI_of hy
  refine absurd z ?_
  rw [Int32.lt_iff_toInt_lt, nI_toInt hi]
  have : ((-9 : Int32)).toInt = -9 := by decide
  rw [this]
  omega
/-- in how many entries a goal is so; the rows of things as bits -/
def cntN (g : Nat) (L : List En) (n : Nat) : Nat := sm (fun j => (soN g (L.getD j e0).1).toNat) n
def rwI (L : List En) : Nat → Int32
  | 0 => 0
  | n + 1 => rwI L n ||| ((1 : Int32) <<< (nI ((L.getD n e0).1 / 1024) &&& 31))
theorem sp_howManyWith {t : Nat → Nat} {mv : Nat → List Nat} {P : Nat → Int32} {s0 : Nat} {L : List En} {order frm cameBy : Nat → Int32} {runs length : Int32} {R g : Nat} (hC : CS L order frm cameBy runs length R) (hL : GL (SV t) mv (aft P) s0 L) (hg : goalN g) {x : Int32} (hx : x = nI g) {post : Int32 → Prop} (h : post (nI (cntN g L L.length))) : wp_X3_howManyWith order length x post := by
  unfold wp_X3_howManyWith
  have hlen := hL.len (fun _ q => q.1)
  have main : ∀ q i, i ≤ L.length → L.length < q + i → wpL_X3_howManyWith_4 order length post q x (nI (cntN g L i)) (nI i) := by
    intro q
    induction q with
    | zero => intro i h1 h2; omega
    | succ q ih =>
      intro i h1 h2
      rw [wpL_X3_howManyWith_4, hC.2.1]
      refine pk_le L.length i (fun h5 => ?_) (fun h5 => ?_)
      · have : i = L.length := by omega
        subst this
        exact h
      · refine pk_le 16384 i (fun z => by omega) (fun _ => ⟨pk_in i 16384 (by omega), ?_⟩)
        rw [nI_clamp (by omega), ← hC.2.1]
        have hgd := getD_some h5
        refine sp_isSo hx ((hC.2.2.1 i _ hgd).1) hg (hL.2.1 _ (List.mem_of_getElem? hgd)).1 ?_
        have next := ih (i + 1) (by omega) (by omega)
        have e1 : cntN g L (i + 1) = cntN g L i + (soN g (L.getD i e0).1).toNat := rfl
        rw [e1] at next
        refine nbool rfl (fun hb => ?_) (fun hb => ?_)
        · rw [hb] at next
          exact nm_r (by exact nI_add _ 0) (nm_r (nI_1 i) next)
        · rw [hb] at next
          exact nm_r (by exact nI_add _ 1) (nm_r (nI_1 i) next)
  exact ⟨L.length + 1, main _ 0 (by omega) (by omega)⟩
theorem sp_rowsOfThings {t : Nat → Nat} {mv : Nat → List Nat} {P : Nat → Int32} {s0 : Nat} {L : List En} {order frm cameBy : Nat → Int32} {runs length : Int32} {R : Nat} (hC : CS L order frm cameBy runs length R) (hL : GL (SV t) mv (aft P) s0 L) {post : Int32 → Prop} (h : post (rwI L L.length)) : wp_X3_rowsOfThings order length post := by
  unfold wp_X3_rowsOfThings
  have hlen := hL.len (fun _ q => q.1)
  have main : ∀ q i, i ≤ L.length → L.length < q + i → wpL_X3_rowsOfThings_4 order length post q (rwI L i) (nI i) := by
    intro q
    induction q with
    | zero => intro i h1 h2; omega
    | succ q ih =>
      intro i h1 h2
      rw [wpL_X3_rowsOfThings_4, hC.2.1]
      refine pk_le L.length i (fun h5 => ?_) (fun h5 => ?_)
      · have : i = L.length := by omega
        subst this
        exact h
      · refine pk_le 16384 i (fun z => by omega) (fun _ => ⟨pk_in i 16384 (by omega), ?_⟩)
        rw [nI_clamp (by omega), ← hC.2.1]
        have hgd := getD_some h5
        unfold wp_X5_thingsOf
        rw [(hC.2.2.1 i _ hgd).1, w_thingsOf (hL.2.1 _ (List.mem_of_getElem? hgd)).1]
        exact nm_e (nm_r (nI_1 i) (ih (i + 1) (by omega) (by omega)))
  exact ⟨L.length + 1, main _ 0 (by omega) (by omega)⟩
