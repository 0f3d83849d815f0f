theorem any_eq {l : List Nat} {f g : Nat → Bool} (h : ∀ k ∈ l, f k = g k) : l.any f = l.any g := by
  induction l with
  | nil => rfl
  | cons a l ih =>
    rw [List.any_cons, List.any_cons, h a List.mem_cons_self, ih (fun k hk => h k (List.mem_cons_of_mem _ hk))]
theorem all_eq {l : List Nat} {f g : Nat → Bool} (h : ∀ k ∈ l, f k = g k) : l.all f = l.all g := by
  induction l with
  | nil => rfl
  | cons a l ih =>
    rw [List.all_cons, List.all_cons, h a List.mem_cons_self, ih (fun k hk => h k (List.mem_cons_of_mem _ hk))]
theorem nodup_at {l : List Nat} (h : l.Nodup) {i j a : Nat} (hi : l[i]? = some a) (hj : l[j]? = some a) : i = j := by
  obtain ⟨h1, e1⟩ := List.getElem?_eq_some_iff.mp hi
  obtain ⟨h2, e2⟩ := List.getElem?_eq_some_iff.mp hj
  exact (List.getElem_inj h).mp (e1.trans e2.symm)
theorem GL.idx {V : Nat → Prop} {mv : Nat → List Nat} {af : Nat → Nat → Nat} {s0 : Nat} {L : List En} (h : GL V mv af s0 L) {i j : Nat} {a b : En} (ha : L[i]? = some a) (hb : L[j]? = some b) (hab : a.1 = b.1) : i = j := by
  have e1 : (sts L)[i]? = some a.1 := by unfold sts; rw [List.getElem?_map, ha]; rfl
  have e2 : (sts L)[j]? = some a.1 := by unfold sts; rw [List.getElem?_map, hb, hab]; rfl
  exact nodup_at h.1 e1 e2
theorem sp_canGo {t : Nat → Nat} {P hm hv told : Nat → Int32} {G : Nat → Nat} (hW : LW t P G told hm hv) {set bars : Nat} {ownVotes : Nat → Int32} {groups barsI : Int32} (hS : SC G set bars ownVotes groups barsI) {L : List En} (hlt : ∀ x ∈ sts L, x < 16384) {marks : Nat → Int32} {m : Nat → Nat} (h : MKS L marks m) {x n : Nat} (hx : x ∈ sts L) (hV : SV t x) (hin : ∀ k ∈ mvs t P G set bars 5 x, aft P x k ∈ sts L) (hn : n < 17) {p q : Int32} (hp : p = nI x) (hq : q = nI n) {votes rows mayActs mayEnds : Nat → Int32} {now forced barred mays : Int32}
    {post : Int32 → (Nat → Int32) → (Nat → Int32) → Int32 → Int32 → Int32 → (Nat → Int32) → (Nat → Int32) → Int32 → Prop}
    (hh : ∀ v r n2 f b a e mm, post (nI (bt (m x) n || (mvs t P G set bars 5 x).any (fun k => bt (m (aft P x k)) n)).toNat) v r n2 f b a e mm) :
    wp_X3_canGo marks ownVotes votes rows groups barsI now forced barred mayActs mayEnds mays told P hm hv p q post := by
  unfold wp_X3_canGo
  refine sp_isMarked h hx hV.1 hn hp hq ?_
  refine nbool rfl (fun w => ?_) (fun w => by rw [w] at hh; exact hh _ _ _ _ _ _ _ _)
  refine sp_list hW.1 hW.2.1 hW.2.2.1 hW.2.2.2 hV hp hS (fun v r n2 f b a en mm hLS hn2 => ?_)
  refine sp_firstActTo h hlt hLS mvs_len hin hn (w := true) hq rfl ?_
  rw [w, Bool.false_or] at hh
  cases hf : (mvs t P G set bars 5 x).find? (fun k => bt (m (aft P x k)) n == true) with
  | none =>
    have : (mvs t P G set bars 5 x).any (fun k => bt (m (aft P x k)) n) = false := by
      rw [List.any_eq_false]
      intro k hk
      have := List.find?_eq_none.mp hf k hk
      simpa using this
    rw [this] at hh
    exact ⟨fun _ => hh _ _ _ _ _ _ _ _, fun z => absurd rfl z⟩
  | some k =>
    have hk := List.mem_of_find?_eq_some hf
    have hk2 := List.find?_some hf
    have : (mvs t P G set bars 5 x).any (fun k => bt (m (aft P x k)) n) = true := by
      rw [List.any_eq_true]
      exact ⟨k, hk, by simpa using hk2⟩
    rw [this] at hh
    refine ⟨fun z => absurd z (neg9 ?_), fun _ => hh _ _ _ _ _ _ _ _⟩
    have := actN_lt (mvT_mem.mp hk).1
    omega
theorem sp_mustGo {t : Nat → Nat} {P hm hv told : Nat → Int32} {G : Nat → Nat} (hW : LW t P G told hm hv) {set bars : Nat} {ownVotes : Nat → Int32} {groups barsI : Int32} (hS : SC G set bars ownVotes groups barsI) {L : List En} (hlt : ∀ x ∈ sts L, x < 16384) {marks : Nat → Int32} {m : Nat → Nat} (h : MKS L marks m) {x n : Nat} (hx : x ∈ sts L) (hV : SV t x) (hin : ∀ k ∈ mvs t P G set bars 5 x, aft P x k ∈ sts L) (hn : n < 17) {p q : Int32} (hp : p = nI x) (hq : q = nI n) {votes rows mayActs mayEnds : Nat → Int32} {now forced barred mays : Int32}
    {post : Int32 → (Nat → Int32) → (Nat → Int32) → Int32 → Int32 → Int32 → (Nat → Int32) → (Nat → Int32) → Int32 → Prop}
    (hh : ∀ v r n2 f b a e mm, post (nI (bt (m x) n && (mvs t P G set bars 5 x).all (fun k => bt (m (aft P x k)) n)).toNat) v r n2 f b a e mm) :
    wp_X3_mustGo marks ownVotes votes rows groups barsI now forced barred mayActs mayEnds mays told P hm hv p q post := by
  unfold wp_X3_mustGo
  refine sp_isMarked h hx hV.1 hn hp hq ?_
  refine nbool' rfl (fun w => by rw [w] at hh; exact hh _ _ _ _ _ _ _ _) (fun w => ?_)
  refine sp_list hW.1 hW.2.1 hW.2.2.1 hW.2.2.2 hV hp hS (fun v r n2 f b a en mm hLS hn2 => ?_)
  refine sp_firstActTo h hlt hLS mvs_len hin hn (w := false) hq rfl ?_
  rw [w, Bool.true_and] at hh
  cases hf : (mvs t P G set bars 5 x).find? (fun k => bt (m (aft P x k)) n == false) with
  | none =>
    have : (mvs t P G set bars 5 x).all (fun k => bt (m (aft P x k)) n) = true := by
      rw [List.all_eq_true]
      intro k hk
      have := List.find?_eq_none.mp hf k hk
      simpa using this
    rw [this] at hh
    exact ⟨fun z => absurd rfl z, fun _ => hh _ _ _ _ _ _ _ _⟩
  | some k =>
    have hk := List.mem_of_find?_eq_some hf
    have hk2 := List.find?_some hf
    have : (mvs t P G set bars 5 x).all (fun k => bt (m (aft P x k)) n) = false := by
      rw [List.all_eq_false]
      exact ⟨k, hk, by simpa using hk2⟩
    rw [this] at hh
    refine ⟨fun _ => hh _ _ _ _ _ _ _ _, fun z => absurd z (neg9 ?_)⟩
    have := actN_lt (mvT_mem.mp hk).1
    omega
theorem nI_rem2 {n : Nat} (h : n < 2 ^ 31) : nI n - nI n / (2 : Int32) * (2 : Int32) = nI (n % 2) := pk_rem h (d := 2) (by decide) (by decide)
theorem sp_markSure {t : Nat → Nat} {P hm hv told : Nat → Int32} {G : Nat → Nat} (hW : LW t P G told hm hv) {set oth : Nat} {ow1 ow2 : Nat → Int32} {gr1 ba1 gr2 ba2 : Int32} (hS1 : SC G set 0 ow1 gr1 ba1) (hS2 : SC G oth 0 ow2 gr2 ba2) {order frm cameBy within marks : Nat → Int32} {runs length : Int32} {R s0 T D : Nat} {L : List En} {W : Nat → Nat} (hD : D = 2 * T) (hT : T ≤ 8) (hC : CS L order frm cameBy runs length R) (hGL : GL (SV t) (mvB t P G set oth) (aft P) s0 L) (hWI : WI (mvB t P G set oth) (aft P) L W (D + 1)) (hWT : W D = L.length) (hw : ∀ a, a ≤ D → within a = nI (W a)) {g : Nat} (hg : goalN g) {x y : Int32} (hx : x = nI g) (hy : y = nI T)
    {v1 r1 a1 d1 : Nat → Int32} {n1 f1 b1 m1 : Int32} {v2 r2 a2 d2 : Nat → Int32} {n2 f2 b2 m2 : Int32}
    {post : (Nat → Int32) → (Nat → Int32) → (Nat → Int32) → Int32 → Int32 → Int32 → (Nat → Int32) → (Nat → Int32) → Int32 → (Nat → Int32) → (Nat → Int32) → Int32 → Int32 → Int32 → (Nat → Int32) → (Nat → Int32) → Int32 → Prop}
    (hh : ∀ mk2 m v1 r1 n1 f1 b1 a1 d1 m1 v2 r2 n2 f2 b2 a2 d2 m2, MKS L mk2 m → (∀ n, n ≤ D → ∀ (j : Nat) (e : En), j < W (D - n) → L[j]? = some e → bt (m e.1) n = srN (mvs t P G set 0 5) (mvs t P G oth 0 5) (aft P) g n e.1) → post mk2 v1 r1 n1 f1 b1 a1 d1 m1 v2 r2 n2 f2 b2 a2 d2 m2) :
    wp_X3_markSure order marks length within ow1 v1 r1 gr1 ba1 n1 f1 b1 a1 d1 m1 ow2 v2 r2 gr2 ba2 n2 f2 b2 a2 d2 m2 told P hm hv x y post := by
  unfold wp_X3_markSure
  have hlen := hGL.len (fun _ q => q.1)
  have hV : ∀ x ∈ sts L, SV t x := fun x hx => by
    obtain ⟨e, he, rfl⟩ := mem_sts.mp hx
    exact hGL.2.1 e he
  have hlt : ∀ x ∈ sts L, x < 16384 := fun x hx => (hV x hx).1
  refine sp_markAll hC hGL hg (w := true) hx rfl (fun mk1 hmk1 => ?_)
  have inner : ∀ (K : (Nat → Int32) → (Nat → Int32) → (Nat → Int32) → Int32 → Int32 → Int32 → (Nat → Int32) → (Nat → Int32) → Int32 → (Nat → Int32) → (Nat → Int32) → Int32 → Int32 → Int32 → (Nat → Int32) → (Nat → Int32) → Int32 → Int32 → Int32 → Prop) (n : Nat), n + 1 ≤ D →
      (∀ mk2 m v1 r1 n1 f1 b1 a1 d1 m1 v2 r2 n2 f2 b2 a2 d2 m2, MKS L mk2 m → (∀ z, z < n + 2 → ∀ (j : Nat) (e : En), j < W (D - z) → L[j]? = some e → bt (m e.1) z = srN (mvs t P G set 0 5) (mvs t P G oth 0 5) (aft P) g z e.1) → (∀ x ∈ sts L, ∀ z, n + 2 ≤ z → bt (m x) z = false) → K mk2 v1 r1 n1 f1 b1 a1 d1 m1 v2 r2 n2 f2 b2 a2 d2 m2 y (nI (n + 2))) →
      ∀ q i, i ≤ W (D - (n + 1)) → W (D - (n + 1)) < q + i → ∀ mk2 m v1 r1 n1 f1 b1 a1 d1 m1 v2 r2 n2 f2 b2 a2 d2 m2, MKS L mk2 m → (∀ z, z < n + 1 → ∀ (j : Nat) (e : En), j < W (D - z) → L[j]? = some e → bt (m e.1) z = srN (mvs t P G set 0 5) (mvs t P G oth 0 5) (aft P) g z e.1) → (∀ x ∈ sts L, ∀ z, n + 2 ≤ z → bt (m x) z = false) → (∀ (j : Nat) (e : En), L[j]? = some e → bt (m e.1) (n + 1) = (decide (j < i) && srN (mvs t P G set 0 5) (mvs t P G oth 0 5) (aft P) g (n + 1) e.1)) → wpL_X3_markSure_56 order length within ow1 gr1 ba1 ow2 gr2 ba2 told P hm hv K post q mk2 v1 r1 n1 f1 b1 a1 d1 m1 v2 r2 n2 f2 b2 a2 d2 m2 y (nI (n + 1)) (nI (W (D - (n + 1)))) (nI i) := by
    intro K n hnD hK q
    have hb1 := hWI.1 (D - (n + 1)) (by omega)
    obtain ⟨hb2, hb3⟩ := hWI.2 (D - (n + 1)) (by omega)
    have hDn : D - (n + 1) + 1 = D - n := by omega
    rw [hDn] at hb2 hb3
    induction q with
    | zero => intro i h1 h2; omega
    | succ q ih =>
      intro i h1 h2 mk2 m v1 r1 n1 f1 b1 a1 d1 m1 v2 r2 n2 f2 b2 a2 d2 m2 hMK hA hBz hCz
      rw [wpL_X3_markSure_56]
      refine pk_le (W (D - (n + 1))) i (fun h5 => ?_) (fun h5 => pk_le 16384 i (fun z => by omega) (fun _ => ?_))
      · refine nm_r (nI_1 (n + 1)) (hK _ m _ _ _ _ _ _ _ _ _ _ _ _ _ _ _ _ hMK (fun z hz j e hj he => ?_) hBz)
        by_cases w : z = n + 1
        · subst w
          rw [hCz j e he, decide_eq_true (by omega), Bool.true_and]
        · exact hA z (by omega) j e hj he
      · have hgd := getD_some (L := L) (i := i) (by omega)
        have hxs : (L.getD i e0).1 ∈ sts L := mem_sts.mpr ⟨_, List.mem_of_getElem? hgd, rfl⟩
        have hVx := hV _ hxs
        have hord := (hC.2.2.1 i _ hgd).1
        have hx0 : bt (m (L.getD i e0).1) n = srN (mvs t P G set 0 5) (mvs t P G oth 0 5) (aft P) g n (L.getD i e0).1 := hA n (by omega) i _ (by omega) hgd
        have hsx : ∀ k ∈ mvB t P G set oth (L.getD i e0).1, aft P (L.getD i e0).1 k ∈ sts L ∧ bt (m (aft P (L.getD i e0).1 k)) n = srN (mvs t P G set 0 5) (mvs t P G oth 0 5) (aft P) g n (aft P (L.getD i e0).1 k) := by
          intro k hk
          obtain ⟨i2, e2, h6, h7, h8⟩ := hb3 i _ h5 hgd k hk
          rw [← h8]
          exact ⟨mem_sts.mpr ⟨e2, List.mem_of_getElem? h7, rfl⟩, hA n (by omega) i2 e2 (by omega) h7⟩
        have hp1 : nI (n + 1) - (1 : Int32) = nI n := nI_prd (by omega)
        have J : ∀ v1 r1 n1 f1 b1 a1 d1 m1 v2 r2 n2 f2 b2 a2 d2 m2, wpJ_X3_markSure_114 order length within ow1 gr1 ba1 ow2 gr2 ba2 told P hm hv K (fun y0 y1 y2 y3 y4 y5 y6 y7 y8 y9 y10 y11 y12 y13 y14 y15 y16 y17 y18 y19 y20 => wpL_X3_markSure_56 order length within ow1 gr1 ba1 ow2 gr2 ba2 told P hm hv K post q y0 y1 y2 y3 y4 y5 y6 y7 y8 y9 y10 y11 y12 y13 y14 y15 y16 y17 y18 y19 y20) post mk2 v1 r1 n1 f1 b1 a1 d1 m1 v2 r2 n2 f2 b2 a2 d2 m2 y (nI (n + 1)) (nI (W (D - (n + 1)))) (nI i) (nI (srN (mvs t P G set 0 5) (mvs t P G oth 0 5) (aft P) g (n + 1) (L.getD i e0).1).toNat) := by
          intro v1 r1 n1 f1 b1 a1 d1 m1 v2 r2 n2 f2 b2 a2 d2 m2
          unfold wpJ_X3_markSure_114
          refine nbool rfl (fun w => nm_r (nI_1 i) (ih (i + 1) (by omega) (by omega) _ m _ _ _ _ _ _ _ _ _ _ _ _ _ _ _ _ hMK hA hBz (fun j e he => ?_))) (fun w => ⟨pk_in i 16384 (by omega), ?_⟩)
          · by_cases c : j = i
            · subst c
              have h6 := hCz j e he
              rw [hgd] at he
              rw [← Option.some.inj he] at h6 ⊢
              rw [h6, w]; simp
            · rw [hCz j e he]
              congr 1
              by_cases c2 : j < i
              · rw [decide_eq_true c2, decide_eq_true (by omega)]
              · rw [decide_eq_false c2, decide_eq_false (by omega)]
          · rw [nI_clamp (by omega)]
            refine sp_mark hMK hxs hVx.1 (n := n + 1) (by omega) hord rfl (fun mk3 hmk3 => nm_r (nI_1 i) (ih (i + 1) (by omega) (by omega) _ _ _ _ _ _ _ _ _ _ _ _ _ _ _ _ _ _ hmk3 (fun z hz j e hj he => ?_) (fun x2 hx2 z hz => ?_) (fun j e he => ?_)))
            · show bt (if e.1 = (L.getD i e0).1 then _ else _) z = _
              by_cases c : e.1 = (L.getD i e0).1
              · rw [if_pos c, bt_lor, decide_eq_false (by omega), Bool.or_false, ← c]
                exact hA z hz j e hj he
              · rw [if_neg c]
                exact hA z hz j e hj he
            · show bt (if x2 = (L.getD i e0).1 then _ else _) z = _
              by_cases c : x2 = (L.getD i e0).1
              · rw [if_pos c, bt_lor, decide_eq_false (by omega), Bool.or_false, ← c]
                exact hBz x2 hx2 z hz
              · rw [if_neg c]
                exact hBz x2 hx2 z hz
            · show bt (if e.1 = (L.getD i e0).1 then _ else _) (n + 1) = _
              by_cases c : e.1 = (L.getD i e0).1
              · have hji := hGL.idx he hgd c
                rw [if_pos c, bt_lor, decide_eq_true rfl, Bool.or_true, c, w, decide_eq_true (by omega)]; rfl
              · rw [if_neg c, hCz j e he]
                congr 1
                by_cases c2 : j < i
                · rw [decide_eq_true c2, decide_eq_true (by omega)]
                · have : j ≠ i := fun z => c (by subst z; rw [hgd] at he; rw [Option.some.inj he])
                  rw [decide_eq_false c2, decide_eq_false (by omega)]
        have hsr : srN (mvs t P G set 0 5) (mvs t P G oth 0 5) (aft P) g (n + 1) (L.getD i e0).1 = if (n + 1) % 2 = 0 then srN (mvs t P G set 0 5) (mvs t P G oth 0 5) (aft P) g n (L.getD i e0).1 || (mvs t P G set 0 5 (L.getD i e0).1).any (fun k => srN (mvs t P G set 0 5) (mvs t P G oth 0 5) (aft P) g n (aft P (L.getD i e0).1 k)) else srN (mvs t P G set 0 5) (mvs t P G oth 0 5) (aft P) g n (L.getD i e0).1 && (mvs t P G oth 0 5 (L.getD i e0).1).all (fun k => srN (mvs t P G set 0 5) (mvs t P G oth 0 5) (aft P) g n (aft P (L.getD i e0).1 k)) := rfl
        rw [nI_rem2 (by omega), nI_clamp (by omega), hp1]
        refine pk_eq' ((n + 1) % 2) 0 (fun w => ⟨pk_in i 16384 (by omega), ?_⟩) (fun w => ⟨pk_in i 16384 (by omega), ?_⟩)
        · refine sp_mustGo hW hS2 hlt hMK hxs hVx (fun k hk => (hsx k (List.mem_append_right _ hk)).1) (n := n) (by omega) hord rfl (fun v r n4 f b a e mm => ?_)
          rw [if_neg w] at hsr
          rw [hx0, all_eq (fun k hk => (hsx k (List.mem_append_right _ hk)).2), ← hsr]
          exact J _ _ _ _ _ _ _ _ _ _ _ _ _ _ _ _
        · refine sp_canGo hW hS1 hlt hMK hxs hVx (fun k hk => (hsx k (List.mem_append_left _ hk)).1) (n := n) (by omega) hord rfl (fun v r n4 f b a e mm => ?_)
          rw [if_pos w] at hsr
          rw [hx0, any_eq (fun k hk => (hsx k (List.mem_append_left _ hk)).2), ← hsr]
          exact J _ _ _ _ _ _ _ _ _ _ _ _ _ _ _ _
  have e2 : (2 : Int32) * y = nI D := by rw [hy, hD]; exact pk_mul 2 T
  have outer : ∀ q n, n ≤ D → D < q + n → ∀ mk2 m v1 r1 n1 f1 b1 a1 d1 m1 v2 r2 n2 f2 b2 a2 d2 m2, MKS L mk2 m → (∀ z, z < n + 1 → ∀ (j : Nat) (e : En), j < W (D - z) → L[j]? = some e → bt (m e.1) z = srN (mvs t P G set 0 5) (mvs t P G oth 0 5) (aft P) g z e.1) → (∀ x ∈ sts L, ∀ z, n + 1 ≤ z → bt (m x) z = false) → wpL_X3_markSure_9 order length within ow1 gr1 ba1 ow2 gr2 ba2 told P hm hv post q mk2 v1 r1 n1 f1 b1 a1 d1 m1 v2 r2 n2 f2 b2 a2 d2 m2 y (nI (n + 1)) := by
    intro q
    induction q with
    | zero => intro n h1 h2; omega
    | succ q ih =>
      intro n h1 h2 mk2 m v1 r1 n1 f1 b1 a1 d1 m1 v2 r2 n2 f2 b2 a2 d2 m2 hMK hA hBz
      rw [wpL_X3_markSure_9, e2]
      refine pk_lt D (n + 1) (fun h5 => ?_) (fun h5 => ?_)
      · exact hh _ m _ _ _ _ _ _ _ _ _ _ _ _ _ _ _ _ hMK (fun z hz => hA z (by omega))
      · refine nm_r (pk_sub h5) ?_
        have hb1 := hWI.1 (D - (n + 1)) (by omega)
        refine pk_lt (D - (n + 1)) 0 (fun z => by omega) (fun _ => pk_le 17 (D - (n + 1)) (fun z => by omega) (fun _ => ⟨pk_in (D - (n + 1)) 17 (by omega), ?_⟩))
        rw [nI_clamp (by omega), hw _ (by omega)]
        refine nm_e ⟨W (D - (n + 1)) + 1, ?_⟩
        refine inner _ n (by omega) (fun mk3 m3 v1 r1 n1 f1 b1 a1 d1 m1 v2 r2 n2 f2 b2 a2 d2 m2 hMK3 hA3 hB3 => ?_) _ 0 (by omega) (by omega) _ m _ _ _ _ _ _ _ _ _ _ _ _ _ _ _ _ hMK hA (fun x hx z hz => hBz x hx z (by omega)) (fun j e he => ?_)
        · exact ih (n + 1) (by omega) (by omega) _ m3 _ _ _ _ _ _ _ _ _ _ _ _ _ _ _ _ hMK3 hA3 hB3
        · rw [hBz e.1 (mem_sts.mpr ⟨e, List.mem_of_getElem? he, rfl⟩) (n + 1) (Nat.le_refl _)]
          simp
  refine ⟨D + 1, outer (D + 1) 0 (by omega) (by omega) _ _ _ _ _ _ _ _ _ _ _ _ _ _ _ _ _ _ hmk1 (fun z hz j e hj he => ?_) (fun x hx z hz => ?_)⟩
  · have : z = 0 := by omega
    subst this
    show bt (soN g e.1 == true).toNat 0 = soN g e.1
    cases soN g e.1 <;> rfl
  · show bt (soN g x == true).toNat z = false
    rw [bt_zero]
    have h2 : 2 ≤ 2 ^ z := by
      have := Nat.pow_le_pow_right (n := 2) (by decide) hz
      simpa using this
    cases (soN g x == true)
    · simp
    · show 1 / 2 ^ z % 2 = 0
      rw [Nat.div_eq_of_lt (by omega)]
