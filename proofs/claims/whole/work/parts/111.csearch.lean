/-! the class's search -/
def LW (t : Nat → Nat) (P : Nat → Int32) (G : Nat → Nat) (told hm hv : Nat → Int32) : Prop := LWP t P ∧ LH t P hm hv ∧ TD t told ∧ LG G
theorem soN_bit {g s : Nat} (hg : goalN g) (h1 : 100 ≤ g) : soN g s = true ↔ fo s (g / 10 - 10) = g % 10 := by
  unfold soN
  rw [if_neg (by omega)]
  simp
theorem soN_th {g s : Nat} (h1 : g < 100) : soN g s = true ↔ th s (g / 10) = g % 10 := by
  unfold soN
  rw [if_pos h1]
  simp
theorem w_mask {s c : Nat} (hs : s < 16384) (hc : c < 5) : nI s &&& nI (pu 0 c 3) = nI (fo s c * 4 ^ c) := by
  obtain ⟨e, ha, hb⟩ := split128 hs
  have hp : pu 0 c 3 = 3 * 4 ^ c := by unfold pu; simp
  have hl : 3 * 4 ^ c < 4294967296 := by rcases lt5 hc with rfl | rfl | rfl | rfl | rfl <;> decide
  rw [hp, nb_and (by omega) hl]
  congr 1
  rcases lt5 hc with rfl | rfl | rfl | rfl | rfl
  · have h := bf_m0 (s / 128) ha (s % 128) hb; rw [← e] at h; exact h
  · have h := bf_m2 (s / 128) ha (s % 128) hb; rw [← e] at h; exact h
  · have h := bf_m4 (s / 128) ha (s % 128) hb; rw [← e] at h; exact h
  · have h := bf_m6 (s / 128) ha (s % 128) hb; rw [← e] at h; exact h
  · have h := bf_m8 (s / 128) ha (s % 128) hb; rw [← e] at h; exact h
theorem w_maskT {s t : Nat} (hs : s < 16384) (ht : t < 4) : nI s &&& nI (mk 0 t 1) = nI (th s t * 2 ^ (10 + t)) := by
  obtain ⟨e, ha, hb⟩ := split128 hs
  have hp : mk 0 t 1 = 2 ^ (10 + t) := by unfold mk; simp
  have hl : 2 ^ (10 + t) < 4294967296 := by rcases lt4 ht with rfl | rfl | rfl | rfl <;> decide
  rw [hp, nb_and (by omega) hl]
  congr 1
  rcases lt4 ht with rfl | rfl | rfl | rfl
  · have h := bf_m10 (s / 128) ha (s % 128) hb; rw [← e] at h; exact h
  · have h := bf_m11 (s / 128) ha (s % 128) hb; rw [← e] at h; exact h
  · have h := bf_m12 (s / 128) ha (s % 128) hb; rw [← e] at h; exact h
  · have h := bf_m13 (s / 128) ha (s % 128) hb; rw [← e] at h; exact h
/-- mask and value of a goal, as the class makes them -/
def gMask (g : Nat) : Nat := if g < 100 then mk 0 (g / 10) 1 else pu 0 (g / 10 - 10) 3
def gVal (g : Nat) : Nat := if g < 100 then mk 0 (g / 10) (g % 10) else pu 0 (g / 10 - 10) (g % 10)
theorem gSo {g s : Nat} (hg : goalN g) (hs : s < 16384) : (nI s &&& nI (gMask g) = nI (gVal g)) ↔ soN g s = true := by
  unfold gMask gVal
  by_cases h1 : g < 100
  · have ht : g / 10 < 4 := by unfold goalN at hg; omega
    have hm : g % 10 < 2 := by unfold goalN at hg; omega
    rw [if_pos h1, if_pos h1, w_maskT hs ht, soN_th h1]
    have hp : mk 0 (g / 10) (g % 10) = g % 10 * 2 ^ (10 + g / 10) := by unfold mk; simp
    have hth : th s (g / 10) < 2 := Nat.mod_lt _ (by decide)
    rw [hp, nI_eq]
    · exact ⟨fun h => Nat.eq_of_mul_eq_mul_right (Nat.two_pow_pos _) h, fun h => by rw [h]⟩
    · generalize th s (g / 10) = a at hth
      rcases lt4 ht with e | e | e | e <;> rw [e] <;> omega
    · generalize g % 10 = a at hm
      rcases lt4 ht with e | e | e | e <;> rw [e] <;> omega
  · have hc : g / 10 - 10 < 5 := by unfold goalN at hg; omega
    have hm : g % 10 < 4 := by unfold goalN at hg; omega
    rw [if_neg h1, if_neg h1, w_mask hs hc, soN_bit hg (by omega)]
    have hp : pu 0 (g / 10 - 10) (g % 10) = g % 10 * 4 ^ (g / 10 - 10) := by unfold pu; simp
    have hth := fo_lt s (g / 10 - 10)
    rw [hp, nI_eq]
    · exact ⟨fun h => Nat.eq_of_mul_eq_mul_right (Nat.pow_pos (by decide)) h, fun h => by rw [h]⟩
    · generalize fo s (g / 10 - 10) = a at hth
      rcases lt5 hc with e | e | e | e | e <;> rw [e] <;> omega
    · generalize g % 10 = a at hm
      rcases lt5 hc with e | e | e | e | e <;> rw [e] <;> omega
theorem sp_maskOf {x : Int32} {g : Nat} (hx : x = nI g) (hg : goalN g) {post : Int32 → Prop} (h : post (nI (gMask g))) : wp_X1_maskOf x post := by
  unfold wp_X1_maskOf
  subst hx
  have hl := hg.lt
  have e2 : nI g / (10 : Int32) = nI (g / 10) := pk_div (a := g) (d := 10) (by omega) (by decide) (by decide)
  rw [e2]
  unfold gMask at h
  refine pk_le 0 g (fun _ => pk_le 100 g (fun h1 => ?_) (fun h1 => ?_)) (fun z => by omega)
  · rw [if_neg (by omega)] at h
    have hc : g / 10 - 10 < 5 := by unfold goalN at hg; omega
    exact sp_X5_put (s := 0) rfl (by exact pk_sub (a := g / 10) (b := 10) (by omega)) (f := 3) rfl (by decide) hc (by decide) h
  · rw [if_pos h1] at h
    have ht : g / 10 < 4 := by unfold goalN at hg; omega
    exact sp_X5_make (s := 0) rfl rfl (b := 1) rfl (by decide) ht (by decide) h
theorem sp_valueOf {x : Int32} {g : Nat} (hx : x = nI g) (hg : goalN g) {post : Int32 → Prop} (h : post (nI (gVal g))) : wp_X1_valueOf x post := by
  unfold wp_X1_valueOf
  subst hx
  have hl := hg.lt
  have er : nI g - nI g / (10 : Int32) * (10 : Int32) = nI (g % 10) := pk_rem (a := g) (d := 10) (by omega) (by decide) (by decide)
  rw [er]
  have e2 : nI g / (10 : Int32) = nI (g / 10) := pk_div (a := g) (d := 10) (by omega) (by decide) (by decide)
  rw [e2]
  unfold gVal at h
  refine pk_le 0 g (fun _ => pk_le 100 g (fun h1 => ?_) (fun h1 => ?_)) (fun z => by omega)
  · rw [if_neg (by omega)] at h
    have hc : g / 10 - 10 < 5 := by unfold goalN at hg; omega
    have hm : g % 10 < 4 := by unfold goalN at hg; omega
    exact sp_X5_put (s := 0) rfl (by exact pk_sub (a := g / 10) (b := 10) (by omega)) rfl (by decide) hc hm h
  · rw [if_pos h1] at h
    have ht : g / 10 < 4 := by unfold goalN at hg; omega
    have hm : g % 10 < 2 := by unfold goalN at hg; omega
    exact sp_X5_make (s := 0) rfl rfl rfl (by decide) ht hm h
theorem sp_isSo {x y : Int32} {g s : Nat} (hx : x = nI g) (hy : y = nI s) (hg : goalN g) (hs : s < 16384) {post : Int32 → Prop} (h : post (nI (soN g s).toNat)) : wp_X1_isSo x y post := by
  unfold wp_X1_isSo
  refine sp_maskOf hx hg (sp_valueOf hx hg ?_)
  subst hy
  have hb := gSo hg hs
  refine ⟨fun q => ?_, fun q => ?_⟩
  · have : soN g s = false := by
      cases e : soN g s
      · rfl
      · exact absurd (hb.mpr e) q
    rw [this] at h
    exact h
  · rw [hb.mp q] at h
    exact h
/-- what the class's rows hold of a search -/
def CS (L : List En) (order frm cameBy : Nat → Int32) (runs length : Int32) (R : Nat) : Prop :=
  runs = nI R ∧ length = nI L.length ∧ (∀ (j : Nat) (e : En), L[j]? = some e → order j = nI e.1 ∧ cameBy e.1 = nI R ∧ frm e.1 = (if j = 0 then -1 else nI (e.2.1 * 512 + actN e.2.2.1))) ∧ ∀ x, x < 16384 → x ∉ sts L → ∃ r, r < R ∧ cameBy x = nI r
def CB (cameBy : Nat → Int32) (runs : Int32) (R : Nat) : Prop := R < 1000000 ∧ runs = nI R ∧ ∀ x, x < 16384 → ∃ r, r ≤ R ∧ cameBy x = nI r
theorem CS.cb {L : List En} {order frm cameBy : Nat → Int32} {runs length : Int32} {R : Nat} (h : CS L order frm cameBy runs length R) (hR : R < 1000000) : CB cameBy runs R := by
  refine ⟨hR, h.1, fun x hx => ?_⟩
  by_cases hm : x ∈ sts L
  · obtain ⟨e, h1, rfl⟩ := mem_sts.mp hm
    obtain ⟨j, hj⟩ := List.getElem?_of_mem h1
    exact ⟨R, Nat.le_refl R, (h.2.2.1 j e hj).2.1⟩
  · obtain ⟨r, h1, h2⟩ := h.2.2.2 x hx hm
    exact ⟨r, by omega, h2⟩
theorem sp_comeTo {L : List En} {order frm cameBy : Nat → Int32} {runs length : Int32} {R : Nat} (hC : CS L order frm cameBy runs length R) (hR : R < 1000000) (hV : ∀ e ∈ L, e.1 < 16384) (hnd : (sts L).Nodup) (hll : L.length ≤ 16384) {x p k d : Nat} (hx : x < 16384) (hlen : x ∉ sts L → L.length < 16384) {a w : Int32} (ha : a = nI x) (hw : w = (if L.length = 0 then -1 else nI (p * 512 + actN k))) {post : (Nat → Int32) → (Nat → Int32) → (Nat → Int32) → Int32 → Prop} (h : ∀ o f c l, CS (insE L x p k d) o f c runs l R → post o f c l) : wp_X3_comeTo order frm cameBy runs length a w post := by
  unfold wp_X3_comeTo wp_X5_exists
  subst ha
  refine pk_lt x 0 (fun z => by omega) (fun _ => pk_le 16384 x (fun z => by omega) (fun _ => ?_))
  refine ⟨fun z => absurd z (by decide), fun _ => ?_⟩
  refine ⟨pk_in x 16384 hx, ?_⟩
  rw [nI_clamp (by omega)]
  obtain ⟨h1, h2, h3, h4⟩ := id hC
  unfold insE at h
  by_cases hm : x ∈ sts L
  · rw [if_pos hm] at h
    obtain ⟨e, q1, rfl⟩ := mem_sts.mp hm
    obtain ⟨j, hj⟩ := List.getElem?_of_mem q1
    refine ⟨fun _ => h _ _ _ _ hC, fun z => absurd ?_ z⟩
    rw [(h3 j e hj).2.1, h1]
  · rw [if_neg hm] at h
    obtain ⟨r, q1, q2⟩ := h4 x hx hm
    have hl := hlen hm
    refine ⟨fun z => ?_, fun _ => ?_⟩
    · rw [q2, h1, nI_eq (by omega) (by omega)] at z
      omega
    · rw [h2]
      refine pk_lt L.length 16384 (fun _ => ?_) (fun z => by omega)
      refine ⟨pk_in x 16384 hx, nm_e ⟨pk_in x 16384 hx, nm_e ⟨pk_in L.length 16384 hl, nm_e (nm_r (nI_1 _) ?_)⟩⟩⟩
      rw [nI_clamp (by omega)]
      refine h _ _ _ _ ⟨h1, by rw [List.length_append]; rfl, fun j e he => ?_, fun y hy hyn => ?_⟩
      · by_cases hj : j < L.length
        · rw [List.getElem?_append_left hj] at he
          have hne : e.1 ≠ x := fun z => hm (mem_sts.mpr ⟨e, List.mem_of_getElem? he, z⟩)
          rw [pk_un (by omega), pk_un hne, pk_un hne]
          exact h3 j e he
        · rw [List.getElem?_append_right (by omega)] at he
          have hz : j - L.length < 1 := (List.getElem?_eq_some_iff.mp he).1
          have hz0 : j - L.length = 0 := by omega
          rw [hz0] at he
          simp at he
          subst he
          have hjl : j = L.length := by omega
          subst hjl
          show upd order L.length (nI x) L.length = nI x ∧ upd cameBy x runs x = nI R ∧ upd frm x w x = _
          rw [pk_us, pk_us, pk_us]
          exact ⟨rfl, h1, hw⟩
      · have hyn1 : y ∉ sts L := fun z => hyn (pre_sts (List.prefix_append L _) z)
        have hyn2 : y ≠ x := fun z => hyn (mem_sts.mpr ⟨(x, p, k, d), List.mem_append_right _ List.mem_cons_self, z.symm⟩)
        rw [pk_un hyn2]
        exact h4 y hy hyn1
theorem w_way {s a : Nat} (hs : s < 16384) (ha : a < 512) : (nI s <<< ((9 : Int32) &&& 31)) ||| nI a = nI (s * 512 + a) := by
  rw [pk_shlN _ 9 (by decide) (by omega), nb_or (by omega) (by omega)]
  congr 1
  have h := Nat.shiftLeft_add_eq_or_of_lt (i := 9) (b := a) (by omega) s
  rw [Nat.shiftLeft_eq] at h
  exact h.symm
theorem sp_mayComeTo {P : Nat → Int32} {s : Nat} {M : List Nat} {acts ends : Nat → Int32} {mays now : Int32} (hM : LSt P s M acts ends mays) (hl : M.length ≤ 20) {j : Nat} (hj : j < M.length) {x : Int32} (hx : x = nI j) {post : Int32 → Prop} (h : post (nI (aft P s (M.getD j 0)))) : wp_X4_mayComeTo now ends mays x post := by
  unfold wp_X4_mayComeTo
  subst hx
  rw [hM.1]
  refine pk_lt j 0 (fun z => by omega) (fun _ => pk_le M.length j (fun z => by omega) (fun _ => pk_lt j 20 (fun _ => ⟨pk_in j 20 (by omega), ?_⟩) (fun z => by omega)))
  rw [nI_clamp (by omega), (hM.2 j hj).2]
  exact h
theorem sp_mayDo {P : Nat → Int32} {s : Nat} {M : List Nat} {acts ends : Nat → Int32} {mays : Int32} (hM : LSt P s M acts ends mays) (hl : M.length ≤ 20) {j : Nat} (hj : j < M.length) {x : Int32} (hx : x = nI j) {post : Int32 → Prop} (h : post (nI (actN (M.getD j 0)))) : wp_X4_mayDo acts mays x post := by
  unfold wp_X4_mayDo
  subst hx
  rw [hM.1]
  refine pk_lt j 0 (fun z => by omega) (fun _ => pk_le M.length j (fun z => by omega) (fun _ => pk_lt j 20 (fun _ => ⟨pk_in j 20 (by omega), ?_⟩) (fun z => by omega)))
  rw [nI_clamp (by omega), (hM.2 j hj).1]
  exact h
theorem take_next {M : List Nat} {j : Nat} (hj : j < M.length) : M.take (j + 1) = M.take j ++ [M.getD j 0] := by
  rw [List.take_succ, List.getElem?_eq_getElem hj, List.getD_eq_getElem?_getD, List.getElem?_eq_getElem hj]
  rfl
theorem mvs_ok {t : Nat → Nat} {P : Nat → Int32} (hP : LWP t P) {G : Nat → Nat} {set bars np x : Nat} (hx : SV t x) : ∀ k ∈ mvs t P G set bars np x, k < 20 ∧ SV t (aft P x k) := by
  intro k hk
  obtain ⟨h1, h2⟩ := mvT_mem.mp hk
  exact ⟨h1, giv_aft hP hx h1 (why_giv h2)⟩
theorem sp_spread {t : Nat → Nat} {P hm hv told : Nat → Int32} {G : Nat → Nat} (hW : LW t P G told hm hv) {set bars : Nat} {ownVotes : Nat → Int32} {groups barsI : Int32} (hS : SC G set bars ownVotes groups barsI) {mv : Nat → List Nat} {s0 : Nat} {L : List En} {order frm cameBy : Nat → Int32} {runs length : Int32} {R : Nat} (hC : CS L order frm cameBy runs length R) (hR : R < 1000000) (hL : GL (SV t) mv (aft P) s0 L) {i : Nat} {p : En} (hp : L[i]? = some p) (hsub : ∀ k ∈ mvs t P G set bars 5 p.1, k ∈ mv p.1) {x : Int32} (hx : x = nI p.1) {votes rows mayActs mayEnds : Nat → Int32} {now forced barred mays : Int32}
    {post : (Nat → Int32) → (Nat → Int32) → (Nat → Int32) → Int32 → (Nat → Int32) → (Nat → Int32) → Int32 → Int32 → Int32 → (Nat → Int32) → (Nat → Int32) → Int32 → Prop}
    (h : ∀ o f c l v r n fo b a e m, CS (spr (aft P) p.1 p.2.2.2 (mvs t P G set bars 5 p.1) L) o f c runs l R → post o f c l v r n fo b a e m) : wp_X3_spread order frm cameBy runs length ownVotes votes rows groups barsI now forced barred mayActs mayEnds mays told P hm hv x post := by
  obtain ⟨hP, hH, hT, hG⟩ := id hW
  unfold wp_X3_spread
  have hpv : SV t p.1 := hL.2.1 p (List.mem_of_getElem? hp)
  have hp1 := hpv.1
  refine sp_list hP hH hT hG hpv hx hS (fun v r n f b a e m hM _ => ?_)
  have hml : (mvs t P G set bars 5 p.1).length ≤ 20 := mvT_len
  have hok := mvs_ok (G := G) (set := set) (bars := bars) (np := 5) hP hpv
  generalize hMe : mvs t P G set bars 5 p.1 = M at hM hml hok hsub h
  subst hx
  have main : ∀ q j, j ≤ M.length → M.length < q + j → ∀ o f2 c l, CS (spr (aft P) p.1 p.2.2.2 (M.take j) L) o f2 c runs l R → wpL_X3_spread_7 runs ownVotes groups barsI told P hm hv post q o f2 c l v r n f b a e m (nI p.1) (nI j) := by
    intro q
    induction q with
    | zero => intro j h1 h2; omega
    | succ q ih =>
      intro j h1 h2 o f2 c l hCj
      rw [wpL_X3_spread_7]
      unfold wp_X4_howManyMay
      rw [hM.1]
      refine pk_le M.length j (fun h5 => ?_) (fun h5 => ?_)
      · have : j = M.length := by omega
        subst this
        rw [List.take_length] at hCj
        rw [← hM.1]
        exact h _ _ _ _ _ _ _ _ _ _ _ _ hCj
      · rw [← hM.1]
        refine pk_le 20 j (fun z => by omega) (fun _ => ?_)
        refine sp_mayComeTo hM hml h5 rfl ?_
        refine sp_mayDo hM hml h5 rfl ?_
        have hmem : M.getD j 0 ∈ M := by
          rw [List.getD_eq_getElem?_getD, List.getElem?_eq_getElem h5]
          exact List.getElem_mem h5
        obtain ⟨hk20, hsv⟩ := hok _ hmem
        have hak := actN_lt hk20
        have hGj : GL (SV t) mv (aft P) s0 (spr (aft P) p.1 p.2.2.2 (M.take j) L) := spr_GL _ _ hL hp (fun k hk => ⟨hsub k (List.mem_of_mem_take hk), (hok k (List.mem_of_mem_take hk)).2⟩)
        have hpre := spr_pre (aft P) p.1 p.2.2.2 (M.take j) L
        have hVlt : ∀ x, SV t x → x < 16384 := fun _ q => q.1
        have hne : ¬ (spr (aft P) p.1 p.2.2.2 (M.take j) L).length = 0 := by
          have h9 := (List.getElem?_eq_some_iff.mp hGj.2.2.1).1
          omega
        refine sp_comeTo (d := p.2.2.2 + 1) (p := p.1) (k := M.getD j 0) hCj hR (fun e he => (hGj.2.1 e he).1) hGj.1 (hGj.len hVlt) hsv.1 (fun hn => hGj.len_new hVlt hsv.1 hn) rfl (by rw [if_neg hne]; exact w_way hp1 (by omega)) (fun o3 f3 c3 l3 hC3 => ?_)
        refine nm_r (nI_1 j) (ih (j + 1) (by omega) (by omega) _ _ _ _ ?_)
        rw [take_next h5]
        unfold spr at hC3 ⊢
        rw [List.foldl_append]
        exact hC3
  exact ⟨M.length + 1, main (M.length + 1) 0 (by omega) (by omega) _ _ _ _ hC⟩
