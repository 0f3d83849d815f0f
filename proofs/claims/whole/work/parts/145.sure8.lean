theorem sr_odd {mA mB : Nat → List Nat} {af : Nat → Nat → Nat} {g u x : Nat} (h : u % 2 = 0) : srN mA mB af g (u + 1) x = (srN mA mB af g u x && (mB x).all (fun k => srN mA mB af g u (af x k))) := by
  show (if (u + 1) % 2 = 0 then _ else _) = _
  rw [if_neg (by omega)]
theorem sr_even {mA mB : Nat → List Nat} {af : Nat → Nat → Nat} {g u x : Nat} (h : u % 2 = 0) : srN mA mB af g (u + 2) x = (srN mA mB af g (u + 1) x || (mA x).any (fun k => srN mA mB af g (u + 1) (af x k))) := by
  show (if (u + 1 + 1) % 2 = 0 then _ else _) = _
  rw [if_pos (by omega)]
def MI2 (L : List En) (isA : Nat → Int32) (f : Nat → Bool) : Prop := ∀ x ∈ sts L, isA (ph x) = nI (f x).toNat
theorem sp8_always {t : Nat → Nat} {P forms formMany seats : Nat → Int32} {G : Nat → Nat} (hW : MLW t P G forms formMany seats) {ba noPut : Int32} (hB : BA 0 ba) (hN : NPt 5 noPut) {oth : Nat} (hoth : oth < 16) {L : List En} (hV : ∀ x ∈ sts L, SV t x) (hcl : ∀ x ∈ sts L, ∀ k ∈ mvs t P G oth 0 5 x, aft P x k ∈ sts L) {isA : Nat → Int32} {f : Nat → Bool} (hI : MI2 L isA f) {x : Nat} (hx : x ∈ sts L) {p q : Int32} (hp : p = nI (ph x)) (hq : q = nI oth) {post : Int32 → Prop} (hh : post (nI (f x && (mvs t P G oth 0 5 x).all (fun k => f (aft P x k))).toNat)) : wp_X8_always forms formMany seats ba noPut isA p q post := by
  unfold wp_X8_always
  obtain ⟨hM, hP, hT, hD, hG⟩ := id hW
  have hVx := hV x hx
  have hpx := ph_lt hVx.1
  subst hp hq
  refine ⟨pk_in _ 16384 hpx, ?_⟩
  rw [nI_clamp (by omega), hI x hx]
  have main : ∀ n k, k ≤ 20 → 20 < n + k → wpL_X8_always_10 forms formMany seats ba noPut isA post n (nI (ph x)) (nI oth) (nI (f x && (mvT t P G oth 0 5 x k).all (fun k => f (aft P x k))).toNat) (nI k) := by
    intro n
    induction n with
    | zero => intro k h1 h2; omega
    | succ n ih =>
      intro k h1 h2
      rw [wpL_X8_always_10]
      refine pk_le 20 k (fun h5 => ?_) (fun h5 => ?_)
      · have : k = 20 := by omega
        subst this
        exact ⟨isB_bool _, hh⟩
      · refine nbool rfl (fun w => ?_) (fun w => nm_r (sp8_act h5) ?_)
        · refine ⟨isB_bool _, ?_⟩
          have : (f x && (mvs t P G oth 0 5 x).all (fun k => f (aft P x k))) = false := by
            cases hfx : f x
            · rfl
            · rw [hfx, Bool.true_and, List.all_eq_false] at w
              obtain ⟨j, hj, hj2⟩ := w
              rw [Bool.true_and, List.all_eq_false]
              refine ⟨j, ?_, hj2⟩
              obtain ⟨h6, h7⟩ := mvT_mem.mp hj
              exact mvT_mem.mpr ⟨by omega, h7⟩
          rw [w]
          rw [this] at hh
          exact hh
        · have next := ih (k + 1) (by omega) (by omega)
          rw [mvT_succ] at next
          have hwl := why_lt (t := t) (P := P) (G := G) (set := oth) (bars := 0) (np := 5) (s := x) (k := k)
          refine sp8_whyNot hM hP hT hD hG hB hN hVx hoth h5 rfl rfl rfl ?_
          refine pk_eq' (whyN t P G oth 0 5 x k) 0 (fun w2 => nm_r (nI_1 k) ?_) (fun w2 => ?_)
          · rw [if_neg w2, List.append_nil, w] at next
            exact next
          · rw [if_pos w2, List.all_append, ← Bool.and_assoc, w, Bool.true_and, List.all_cons, List.all_nil, Bool.and_true] at next
            have hkm : k ∈ mvs t P G oth 0 5 x := mvT_mem.mpr ⟨h5, w2⟩
            refine sp8_done hM hP hVx h5 (why_giv w2) rfl rfl ?_
            have hto := hcl x hx k hkm
            have hpt := ph_lt (hV _ hto).1
            refine ⟨pk_in _ 16384 hpt, ?_⟩
            rw [nI_clamp (by omega), hI _ hto]
            refine nbool rfl (fun w3 => nm_r (nI_1 k) ?_) (fun w3 => nm_r (nI_1 k) ?_)
            · rw [w3] at next
              exact next
            · rw [w3] at next
              exact next
  refine nm_e ⟨21, ?_⟩
  have h0 := main 21 0 (by omega) (by omega)
  have e0 : mvT t P G oth 0 5 x 0 = [] := rfl
  rw [e0, List.all_nil, Bool.and_true] at h0
  exact h0
theorem sp8_begins {t : Nat → Nat} {P forms formMany seats : Nat → Int32} {G : Nat → Nat} (hW : MLW t P G forms formMany seats) {ba noPut : Int32} (hB : BA 0 ba) (hN : NPt 5 noPut) {set oth : Nat} (hset : set < 16) (hoth : oth < 16) {L : List En} (hV : ∀ x ∈ sts L, SV t x) (hclA : ∀ x ∈ sts L, ∀ k ∈ mvs t P G set 0 5 x, aft P x k ∈ sts L) (hcl : ∀ x ∈ sts L, ∀ k ∈ mvs t P G oth 0 5 x, aft P x k ∈ sts L) {isA : Nat → Int32} {f al : Nat → Bool} (hI : MI2 L isA f) (hal : ∀ y ∈ sts L, al y = (f y && (mvs t P G oth 0 5 y).all (fun k => f (aft P y k)))) {x : Nat} (hx : x ∈ sts L) {p p1 p2 : Int32} (hp : p = nI (ph x)) (hp1 : p1 = nI set) (hp2 : p2 = nI oth) {post : Int32 → Prop} (h9 : al x = true → post (-9)) (hk : al x = false → ∀ k ∈ mvs t P G set 0 5 x, al (aft P x k) = true → (∀ j ∈ mvs t P G set 0 5 x, j < k → al (aft P x j) = false) → post (nI (actN k))) (h2 : al x = false → (∀ k ∈ mvs t P G set 0 5 x, al (aft P x k) = false) → post (-2)) : wp_X8_begins forms formMany seats ba noPut isA p p1 p2 post := by
  unfold wp_X8_begins
  obtain ⟨hM, hP, hT, hD, hG⟩ := id hW
  have hVx := hV x hx
  refine sp8_always hW hB hN hoth hV hcl hI hx hp hp2 ?_
  rw [← hal x hx]
  refine nbool rfl (fun w => ?_) (fun w => h9 w)
  subst hp hp1
  have main : ∀ n k, k ≤ 20 → 20 < n + k → (∀ j ∈ mvs t P G set 0 5 x, j < k → al (aft P x j) = false) → wpL_X8_begins_15 forms formMany seats ba noPut isA post n (nI (ph x)) (nI set) p2 (nI k) := by
    intro n
    induction n with
    | zero => intro k h3 h4; omega
    | succ n ih =>
      intro k h3 h4 hno
      rw [wpL_X8_begins_15]
      refine pk_le 20 k (fun h5 => h2 w (fun j hj => hno j hj ?_)) (fun h5 => nm_r (sp8_act h5) ?_)
      · have := (mvT_mem.mp hj).1
        omega
      · have hwl := why_lt (t := t) (P := P) (G := G) (set := set) (bars := 0) (np := 5) (s := x) (k := k)
        have skip : (k ∈ mvs t P G set 0 5 x → al (aft P x k) = false) → wpL_X8_begins_15 forms formMany seats ba noPut isA post n (nI (ph x)) (nI set) p2 (nI (k + 1)) := by
          intro hn2
          refine ih (k + 1) (by omega) (by omega) (fun j hj hjk => ?_)
          by_cases z : j = k
          · subst z; exact hn2 hj
          · exact hno j hj (by omega)
        refine sp8_whyNot hM hP hT hD hG hB hN hVx hset h5 rfl rfl rfl ?_
        refine pk_eq' (whyN t P G set 0 5 x k) 0 (fun w2 => nm_r (nI_1 k) (skip (fun z => absurd (mvT_mem.mp z).2 w2))) (fun w2 => ?_)
        have hkm : k ∈ mvs t P G set 0 5 x := mvT_mem.mpr ⟨h5, w2⟩
        refine sp8_done hM hP hVx h5 (why_giv w2) rfl rfl ?_
        have hto := hclA x hx k hkm
        refine sp8_always hW hB hN hoth hV hcl hI hto rfl hp2 ?_
        rw [← hal _ hto]
        exact nbool rfl (fun w3 => nm_r (nI_1 k) (skip (fun _ => w3))) (fun w3 => hk w k hkm w3 hno)
  exact ⟨21, main 21 0 (by omega) (by omega) (fun j _ hj => absurd hj (Nat.not_lt_zero j))⟩
theorem neg2 {k : Nat} (hk : k < 2 ^ 31) : ¬ nI k = (-2 : Int32) := fun z => absurd (z ▸ nI_pos' (n := k) hk) (by decide)
theorem umv_left {t : Nat → Nat} {P : Nat → Int32} {G : Nat → Nat} {set oth x : Nat} : ∀ k ∈ mvs t P G set 0 5 x, k ∈ umv t P G set oth 0 5 x := fun k hk => umT_mem.mpr ⟨(mvT_mem.mp hk).1, Or.inl (mvT_mem.mp hk).2⟩
theorem umv_right {t : Nat → Nat} {P : Nat → Int32} {G : Nat → Nat} {set oth x : Nat} : ∀ k ∈ mvs t P G oth 0 5 x, k ∈ umv t P G set oth 0 5 x := by
  intro k hk
  obtain ⟨h1, h2⟩ := mvT_mem.mp hk
  refine umT_mem.mpr ⟨h1, ?_⟩
  by_cases w : oth = set
  · left; rw [← w]; exact h2
  · exact Or.inr ⟨w, h2⟩
theorem sp8_layTurns {t : Nat → Nat} {P forms formMany seats : Nat → Int32} {G : Nat → Nat} (hW : MLW t P G forms formMany seats) {ba noPut : Int32} (hB : BA 0 ba) (hN : NPt 5 noPut) {set oth : Nat} (hset : set < 16) (hoth : oth < 16) {s0 : Nat} (hs : SV t s0) {x : Int32} (hx : x = nI (ph s0)) {g : Nat} (hg : goalN g) {T : Nat} (hT8 : T ≤ 7) {p0 p1 p2 p3 : Int32} (hp0 : p0 = nI set) (hp1 : p1 = nI oth) (hp2 : p2 = nI g) (hp3 : p3 = nI (T + 1)) {far queue frm by_ isA nxt : Nat → Int32} {many : Int32} {post : (Nat → Int32) → (Nat → Int32) → (Nat → Int32) → (Nat → Int32) → Int32 → (Nat → Int32) → (Nat → Int32) → Prop}
    (hh : ∀ fa q fr b m is2 nx, MI2 (bfs (umv t P G set oth 0 5) (aft P) s0) is2 (srN (mvs t P G set 0 5) (mvs t P G oth 0 5) (aft P) g (2 * T)) → post fa q fr b m is2 nx) : wp_X8_layTurns forms formMany seats x ba noPut far queue frm by_ many isA nxt p0 p1 p2 p3 post := by
  unfold wp_X8_layTurns
  have hP := hW.2.1
  refine sp8_wave hW hB hN hset hoth hs hx hp0 hp1 (fun fa q fr b m hMS => ?_)
  have hL := bfs_GL (umv_ok hP (G := G) (set := set) (oth := oth) (bars := 0) (np := 5)) hs
  have hclA : ∀ x ∈ sts (bfs (umv t P G set oth 0 5) (aft P) s0), ∀ k ∈ mvs t P G set 0 5 x, aft P x k ∈ sts (bfs (umv t P G set oth 0 5) (aft P) s0) := fun x hx k hk => bfs_CL (fun _ q => q.1) (umv_ok hP) hs hx (umv_left k hk)
  have hcl : ∀ x ∈ sts (bfs (umv t P G set oth 0 5) (aft P) s0), ∀ k ∈ mvs t P G oth 0 5 x, aft P x k ∈ sts (bfs (umv t P G set oth 0 5) (aft P) s0) := fun x hx k hk => bfs_CL (fun _ q => q.1) (umv_ok hP) hs hx (umv_right k hk)
  revert hMS hL hclA hcl hh
  generalize bfs (umv t P G set oth 0 5) (aft P) s0 = L
  intro hh hMS hL hclA hcl
  have hlen := hL.len (fun _ q => q.1)
  have hV : ∀ x ∈ sts L, SV t x := fun x hx => by
    obtain ⟨e, he, rfl⟩ := mem_sts.mp hx
    exact hL.2.1 e he
  have hlt : ∀ x ∈ sts L, x < 16384 := fun x hx => (hV x hx).1
  -- one more entry of an array over the states
  have put : ∀ (A : Nat → Int32) (f : Nat → Bool) (i : Nat), i < L.length → (∀ (j : Nat) (e : En), j < i → L[j]? = some e → A (ph e.1) = nI (f e.1).toNat) → ∀ v, v = nI (f (L.getD i e0).1).toNat → ∀ (j : Nat) (e : En), j < i + 1 → L[j]? = some e → (upd A (ph (L.getD i e0).1) v) (ph e.1) = nI (f e.1).toNat := by
    intro A f i hi hA v hv j e hj he
    have hgd := getD_some hi
    have hxs : (L.getD i e0).1 ∈ sts L := mem_sts.mpr ⟨_, List.mem_of_getElem? hgd, rfl⟩
    have hes : e.1 ∈ sts L := mem_sts.mpr ⟨e, List.mem_of_getElem? he, rfl⟩
    by_cases w : e.1 = (L.getD i e0).1
    · rw [w, pk_us, hv]
    · rw [pk_un (ph_ne (hlt _ hes) (hlt _ hxs) w)]
      refine hA j e ?_ he
      rcases Nat.lt_or_eq_of_le (Nat.le_of_lt_succ hj) with h7 | h7
      · exact h7
      · subst h7
        rw [hgd] at he
        exact absurd (by rw [Option.some.inj he]) w
  have full : ∀ (A : Nat → Int32) (f : Nat → Bool) (i : Nat), L.length ≤ i → (∀ (j : Nat) (e : En), j < i → L[j]? = some e → A (ph e.1) = nI (f e.1).toNat) → MI2 L A f := by
    intro A f i hi hA y hy
    obtain ⟨e, he, rfl⟩ := mem_sts.mp hy
    obtain ⟨j, hj⟩ := List.getElem?_of_mem he
    have := (List.getElem?_eq_some_iff.mp hj).1
    exact hA j e (by omega) hj
  have copy : ∀ (K54 : (Nat → Int32) → (Nat → Int32) → (Nat → Int32) → (Nat → Int32) → Int32 → (Nat → Int32) → (Nat → Int32) → Int32 → Int32 → Int32 → Int32 → Prop) (nx : Nat → Int32) (f : Nat → Bool) (u : Nat), MI2 L nx f → (∀ is2, MI2 L is2 f → K54 fa q fr b m is2 nx p0 p1 p3 (nI (u + 1))) → ∀ n i, i ≤ L.length → L.length < n + i → ∀ is2, (∀ (j : Nat) (e : En), j < i → L[j]? = some e → is2 (ph e.1) = nI (f e.1).toNat) → wpL_X8_layTurns_117 forms formMany seats x ba noPut K54 post n fa q fr b m is2 nx p0 p1 p3 (nI u) (nI i) := by
    intro K54 nx f u hnx hK n
    induction n with
    | zero => intro i h1 h2; omega
    | succ n ih =>
      intro i h1 h2 is2 hA
      rw [wpL_X8_layTurns_117]
      refine pk_le L.length i (fun h5 => nm_r (nI_1 u) (hK _ (full _ _ i h5 hA))) (fun h5 => ⟨pk_in i 16384 (by omega), pk_in i 16384 (by omega), ?_⟩) hMS.1
      have hgd := getD_some h5
      have hxs : (L.getD i e0).1 ∈ sts L := mem_sts.mpr ⟨_, List.mem_of_getElem? hgd, rfl⟩
      have hpp := ph_lt (hlt _ hxs)
      rw [nI_clamp (by omega), (hMS.2.1 i _ hgd).1]
      refine ⟨pk_in _ 16384 hpp, pk_in _ 16384 hpp, ?_⟩
      rw [nI_clamp (by omega), hnx _ hxs, nar_bool]
      exact nm_e (nm_r (nI_1 i) (ih (i + 1) (by omega) (by omega) _ (put is2 f i h5 hA _ rfl)))
  have step : ∀ (K54 : (Nat → Int32) → (Nat → Int32) → (Nat → Int32) → (Nat → Int32) → Int32 → (Nat → Int32) → (Nat → Int32) → Int32 → Int32 → Int32 → Int32 → Prop) (isA : Nat → Int32) (u : Nat), MI2 L isA (srN (mvs t P G set 0 5) (mvs t P G oth 0 5) (aft P) g (2 * u)) → (∀ is2 nx, MI2 L is2 (srN (mvs t P G set 0 5) (mvs t P G oth 0 5) (aft P) g (2 * (u + 1))) → K54 fa q fr b m is2 nx p0 p1 p3 (nI (u + 1 + 1))) → ∀ n i, i ≤ L.length → L.length < n + i → ∀ nx, (∀ (j : Nat) (e : En), j < i → L[j]? = some e → nx (ph e.1) = nI (srN (mvs t P G set 0 5) (mvs t P G oth 0 5) (aft P) g (2 * (u + 1)) e.1).toNat) → wpL_X8_layTurns_64 forms formMany seats x ba noPut K54 post n fa q fr b m isA nx p0 p1 p3 (nI (u + 1)) (nI i) := by
    intro K54 isA u hI hK n
    induction n with
    | zero => intro i h1 h2; omega
    | succ n ih =>
      intro i h1 h2 nx hA
      rw [wpL_X8_layTurns_64]
      refine pk_le L.length i (fun h5 => ?_) (fun h5 => ⟨pk_in i 16384 (by omega), pk_in i 16384 (by omega), ?_⟩) hMS.1
      · exact ⟨L.length + 1, copy _ nx _ (u + 1) (full _ _ i h5 hA) (fun is2 h => hK is2 nx h) _ 0 (by omega) (by omega) _ (fun j e hj => absurd hj (Nat.not_lt_zero j))⟩
      · have hgd := getD_some h5
        have hxs : (L.getD i e0).1 ∈ sts L := mem_sts.mpr ⟨_, List.mem_of_getElem? hgd, rfl⟩
        have hpp := ph_lt (hlt _ hxs)
        rw [nI_clamp (by omega), (hMS.2.1 i _ hgd).1, nI_clamp (by omega)]
        have ev : 2 * u % 2 = 0 := by omega
        have e2 : 2 * (u + 1) = 2 * u + 2 := by omega
        have fin : ∀ v : Bool, v = srN (mvs t P G set 0 5) (mvs t P G oth 0 5) (aft P) g (2 * (u + 1)) (L.getD i e0).1 → wpL_X8_layTurns_64 forms formMany seats x ba noPut K54 post n fa q fr b m isA (upd nx (ph (L.getD i e0).1) (nI v.toNat)) p0 p1 p3 (nI (u + 1)) (nI (i + 1)) := fun v hv => ih (i + 1) (by omega) (by omega) _ (put nx _ i h5 hA _ (by rw [hv]))
        refine sp8_begins hW hB hN hset hoth hV hclA hcl (al := srN (mvs t P G set 0 5) (mvs t P G oth 0 5) (aft P) g (2 * u + 1)) hI (fun y _ => sr_odd ev) hxs rfl hp0 hp1 (fun w => ?_) (fun w k hk hk2 _ => ?_) (fun w hno => ?_)
        · refine ⟨fun z => absurd z (by decide), fun _ => ⟨pk_in _ 16384 hpp, nm_e (nm_r (nI_1 i) (fin true ?_))⟩⟩
          rw [e2, sr_even ev, w, Bool.true_or]
        · refine ⟨fun z => absurd z (neg2 ?_), fun _ => ⟨pk_in _ 16384 hpp, nm_e (nm_r (nI_1 i) (fin true ?_))⟩⟩
          · have := actN_lt (mvT_mem.mp hk).1
            omega
          · rw [e2, sr_even ev, w, Bool.false_or]
            exact (List.any_eq_true.mpr ⟨k, hk, hk2⟩).symm
        · refine ⟨fun _ => ⟨pk_in _ 16384 hpp, nm_e (nm_r (nI_1 i) (fin false ?_))⟩, fun z => absurd rfl z⟩
          rw [e2, sr_even ev, w, Bool.false_or]
          refine (List.any_eq_false.mpr (fun k hk => ?_)).symm
          rw [hno k hk]
          decide
  have rounds : ∀ n u, u ≤ T → T < n + u → ∀ isA nx, MI2 L isA (srN (mvs t P G set 0 5) (mvs t P G oth 0 5) (aft P) g (2 * u)) → wpL_X8_layTurns_54 forms formMany seats x ba noPut post n fa q fr b m isA nx p0 p1 p3 (nI (u + 1)) := by
    intro n
    induction n with
    | zero => intro u h1 h2; omega
    | succ n ih =>
      intro u h1 h2 isA nx hI
      rw [wpL_X8_layTurns_54]
      refine pk_le (T + 1) (u + 1) (fun h5 => ?_) (fun h5 => ?_) hp3
      · have : u = T := by omega
        subst this
        exact hh _ _ _ _ _ _ _ hI
      · exact ⟨L.length + 1, step _ isA u hI (fun is2 nx2 h => ih (u + 1) (by omega) (by omega) is2 nx2 h) _ 0 (by omega) (by omega) _ (fun j e hj => absurd hj (Nat.not_lt_zero j))⟩
  have start : ∀ n i, i ≤ L.length → L.length < n + i → ∀ isA : Nat → Int32, (∀ (j : Nat) (e : En), j < i → L[j]? = some e → isA (ph e.1) = nI (soN g e.1).toNat) → wpL_X8_layTurns_13 forms formMany seats x ba noPut post n fa q fr b m isA nxt p0 p1 p2 p3 (nI i) := by
    intro n
    induction n with
    | zero => intro i h1 h2; omega
    | succ n ih =>
      intro i h1 h2 isA hA
      rw [wpL_X8_layTurns_13]
      refine pk_le L.length i (fun h5 => ?_) (fun h5 => ⟨pk_in i 16384 (by omega), pk_in i 16384 (by omega), ?_⟩) hMS.1
      · exact ⟨T + 1, rounds (T + 1) 0 (by omega) (by omega) _ _ (full _ _ i h5 hA)⟩
      · have hgd := getD_some h5
        have hxs : (L.getD i e0).1 ∈ sts L := mem_sts.mpr ⟨_, List.mem_of_getElem? hgd, rfl⟩
        have hp1 := hlt _ hxs
        have hpp := ph_lt hp1
        rw [nI_clamp (by omega), (hMS.2.1 i _ hgd).1]
        refine sp8_isSo rfl hp2 hp1 hg ?_
        rw [nar_bool]
        refine ⟨pk_in _ 16384 hpp, nm_e (nm_r (nI_1 i) ?_)⟩
        rw [nI_clamp (by omega)]
        exact ih (i + 1) (by omega) (by omega) _ (put isA (soN g) i h5 hA _ rfl)
  exact ⟨L.length + 1, start _ 0 (by omega) (by omega) _ (fun j e hj => absurd hj (Nat.not_lt_zero j))⟩
/-- the first of the lawful acts, by the list and by the numbers -/
theorem mvT_find {t : Nat → Nat} {P : Nat → Int32} {G : Nat → Nat} {set bars np s : Nat} {f : Nat → Bool} : ∀ {n k : Nat}, (mvT t P G set bars np s n).find? f = some k → ∀ j ∈ mvT t P G set bars np s n, j < k → f j = false := by
  intro n
  induction n with
  | zero => intro k h j hj; exact absurd hj List.not_mem_nil
  | succ n ih =>
    intro k h j hj hjk
    rw [mvT_succ, List.find?_append] at h
    have hjn : j ∈ mvT t P G set bars np s n ∨ j = n := by
      obtain ⟨h1, h2⟩ := mvT_mem.mp hj
      by_cases z : j = n
      · exact Or.inr z
      · exact Or.inl (mvT_mem.mpr ⟨by omega, h2⟩)
    cases hA : (mvT t P G set bars np s n).find? f with
    | some k2 =>
      rw [hA] at h
      have e : k2 = k := by simpa using h
      subst e
      rcases hjn with z | z
      · exact ih hA j z hjk
      · have := (mvT_mem.mp (List.mem_of_find?_eq_some hA)).1
        omega
    | none =>
      rw [hA] at h
      have hn := List.find?_eq_none.mp hA
      have h3 : (if whyN t P G set bars np s n = 0 then [n] else []).find? f = some k := by simpa using h
      split at h3
      · have hkn : k = n := by
          have := List.mem_of_find?_eq_some h3
          simpa using this
        rcases hjn with z | z
        · have := hn j z
          cases e : f j
          · rfl
          · exact absurd e this
        · omega
      · exact absurd h3 (by simp)
