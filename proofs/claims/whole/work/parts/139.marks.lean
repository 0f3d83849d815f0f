theorem lt17 {c : Nat} (h : c < 17) : c = 0 ∨ c = 1 ∨ c = 2 ∨ c = 3 ∨ c = 4 ∨ c = 5 ∨ c = 6 ∨ c = 7 ∨ c = 8 ∨ c = 9 ∨ c = 10 ∨ c = 11 ∨ c = 12 ∨ c = 13 ∨ c = 14 ∨ c = 15 ∨ c = 16 := by omega
theorem w_bitM {m c : Nat} (hm : m < 2 ^ 31) (hc : c < 17) : (nI m >>> (nI c &&& 31)) &&& (1 : Int32) = nI (m / 2 ^ c % 2) := by
  have key : ((nI c &&& 31 : Int32).toBitVec.smod 32).toNat = c → (nI m >>> (nI c &&& 31)) &&& (1 : Int32) = nI (m / 2 ^ c % 2) := by
    intro e
    rw [pk_shrN hm _ c e, pk_andN (by have := Nat.div_le_self m (2 ^ c); omega) 1 (by decide)]
  refine key ?_
  rcases lt17 hc with rfl | rfl | rfl | rfl | rfl | rfl | rfl | rfl | rfl | rfl | rfl | rfl | rfl | rfl | rfl | rfl | rfl <;> decide
theorem w_shlM {c : Nat} (hc : c < 17) : (1 : Int32) <<< (nI c &&& 31) = nI (2 ^ c) := by
  rcases lt17 hc with rfl | rfl | rfl | rfl | rfl | rfl | rfl | rfl | rfl | rfl | rfl | rfl | rfl | rfl | rfl | rfl | rfl <;> decide
theorem bt_test (m c : Nat) : bt m c = m.testBit c := by
  rw [Nat.testBit_eq_decide_div_mod_eq]
  unfold bt
  cases h : decide (m / 2 ^ c % 2 = 1)
  · have := of_decide_eq_false h; simp [this]
  · have := of_decide_eq_true h; simp [this]
theorem bt_lor (m n c : Nat) : bt (Nat.lor m (2 ^ n)) c = (bt m c || decide (c = n)) := by
  rw [bt_test, bt_test]
  show (m ||| 2 ^ n).testBit c = _
  rw [Nat.testBit_or, Nat.testBit_two_pow]
  congr 1
  by_cases h : c = n
  · subst h; simp
  · simp [h]; omega
theorem lor_lt {m n : Nat} (hm : m < 131072) (hn : n < 17) : Nat.lor m (2 ^ n) < 131072 := by
  have h2 : 2 ^ n < 2 ^ 17 := Nat.pow_lt_pow_right (by decide) hn
  exact Nat.or_lt_two_pow (n := 17) hm h2
def MKS (L : List En) (marks : Nat → Int32) (m : Nat → Nat) : Prop := ∀ x ∈ sts L, marks x = nI (m x) ∧ m x < 131072
theorem sp_isMarked {L : List En} {marks : Nat → Int32} {m : Nat → Nat} (h : MKS L marks m) {x n : Nat} (hx : x ∈ sts L) (hx1 : x < 16384) (hn : n < 17) {p q : Int32} (hp : p = nI x) (hq : q = nI n) {post : Int32 → Prop} (hh : post (nI (bt (m x) n).toNat)) : wp_X3_isMarked marks p q post := by
  unfold wp_X3_isMarked
  obtain ⟨e1, e2⟩ := h x hx
  refine sp_X5_exists hp hx1 (y1' ⟨pk_in x 16384 hx1 hp, ?_⟩)
  rw [hp, hq, nI_clamp (by omega), e1, w_bitM (by omega) hn]
  have hb : m x / 2 ^ n % 2 < 2 := Nat.mod_lt _ (by decide)
  refine pk_eq' (m x / 2 ^ n % 2) 1 (fun w => ?_) (fun w => ?_)
  · have : bt (m x) n = false := by rw [bt_zero]; omega
    rw [this] at hh
    exact hh
  · have : bt (m x) n = true := by rw [bt_iff]; exact w
    rw [this] at hh
    exact hh
theorem sp_mark {L : List En} {marks : Nat → Int32} {m : Nat → Nat} (h : MKS L marks m) {x n : Nat} (hx : x ∈ sts L) (hx1 : x < 16384) (hn : n < 17) {p q : Int32} (hp : p = nI x) (hq : q = nI n) {post : (Nat → Int32) → Prop} (hh : ∀ marks2, MKS L marks2 (fun y => if y = x then Nat.lor (m x) (2 ^ n) else m y) → post marks2) : wp_X3_mark marks p q post := by
  unfold wp_X3_mark
  obtain ⟨e1, e2⟩ := h x hx
  refine sp_X5_exists hp hx1 (y1' ⟨pk_in x 16384 hx1 hp, pk_in x 16384 hx1 hp, nm_e ?_⟩)
  rw [hp, hq, nI_clamp (by omega), e1, w_shlM hn]
  have h2 : 2 ^ n < 2 ^ 17 := Nat.pow_lt_pow_right (by decide) hn
  rw [nb_or (by omega) (by omega)]
  refine hh _ (fun y hy => ?_)
  by_cases w : y = x
  · subst w
    show _ = nI (if y = y then _ else _) ∧ (if y = y then _ else _) < 131072
    rw [pk_us, if_pos rfl]
    exact ⟨rfl, lor_lt e2 hn⟩
  · show _ = nI (if y = x then _ else _) ∧ (if y = x then _ else _) < 131072
    rw [pk_un w, if_neg w]
    exact h y hy
def faI : Option Nat → Int32
  | some k => nI (actN k)
  | none => -9
theorem drop_getD {M : List Nat} {j : Nat} (h : j < M.length) : M.drop j = M.getD j 0 :: M.drop (j + 1) := by
  rw [List.drop_eq_getElem_cons h, List.getD_eq_getElem?_getD, List.getElem?_eq_getElem h]
  rfl
theorem sp_firstActTo {L : List En} {marks : Nat → Int32} {m : Nat → Nat} (h : MKS L marks m) (hL : ∀ x ∈ sts L, x < 16384) {P : Nat → Int32} {s n : Nat} {M : List Nat} {acts ends : Nat → Int32} {mays now : Int32} (hM : LSt P s M acts ends mays) (hl : M.length ≤ 20) (hin : ∀ k ∈ M, aft P s k ∈ sts L) (hn : n < 17) {w : Bool} {p q : Int32} (hp : p = nI n) (hq : q = nI w.toNat) {post : Int32 → Prop} (hh : post (faI (M.find? (fun k => bt (m (aft P s k)) n == w)))) : wp_X3_firstActTo marks now acts ends mays p q post := by
  unfold wp_X3_firstActTo
  have main : ∀ z j, j ≤ M.length → M.length < z + j → post (faI ((M.drop j).find? (fun k => bt (m (aft P s k)) n == w))) → wpL_X3_firstActTo_3 marks now acts ends mays post z p q (nI j) := by
    intro z
    induction z with
    | zero => intro j h1 h2; omega
    | succ z ih =>
      intro j h1 h2 hj
      rw [wpL_X3_firstActTo_3]
      unfold wp_X4_howManyMay
      have hm1 := hM.1
      refine pk_le M.length j (fun h5 => ?_) (fun h5 => ?_) hm1
      · have : j = M.length := by omega
        subst this
        rw [List.drop_length] at hj
        exact hj
      · refine pk_le 20 j (fun z => by omega) (fun _ => ?_)
        have hk : M.getD j 0 ∈ M := getD_filter_lt h5
        refine sp_mayComeTo hM hl h5 rfl ?_
        refine sp_isMarked h (hin _ hk) (hL _ (hin _ hk)) hn rfl hp ?_
        rw [drop_getD h5, List.find?_cons] at hj
        rw [hq]
        refine ⟨fun qq => nm_r (nI_1 j) ?_, fun qq => ?_⟩
        · have : (bt (m (aft P s (M.getD j 0))) n == w) = false := by
            cases e1 : bt (m (aft P s (M.getD j 0))) n <;> cases w <;> rw [e1] at qq <;> first | rfl | exact absurd rfl qq
          rw [this] at hj
          rw [← hq]
          exact ih (j + 1) (by omega) (by omega) hj
        · have : (bt (m (aft P s (M.getD j 0))) n == w) = true := by
            cases e1 : bt (m (aft P s (M.getD j 0))) n <;> cases w <;> rw [e1] at qq <;> first | rfl | exact absurd qq (by decide)
          rw [this] at hj
          exact sp_mayDo hM hl h5 rfl hj
  exact ⟨M.length + 1, main _ 0 (by omega) (by omega) (by rw [List.drop_zero]; exact hh)⟩
theorem sp_markAll {t : Nat → Nat} {mv : Nat → List Nat} {P : Nat → Int32} {s0 : Nat} {L : List En} {order frm cameBy : Nat → Int32} {runs length : Int32} {R : Nat} (hC : CS L order frm cameBy runs length R) (hL : GL (SV t) mv (aft P) s0 L) {g : Nat} (hg : goalN g) {w : Bool} {p q : Int32} (hp : p = nI g) (hq : q = nI w.toNat) {marks : Nat → Int32} {post : (Nat → Int32) → Prop} (hh : ∀ marks2, MKS L marks2 (fun x => (soN g x == w).toNat) → post marks2) : wp_X3_markAll order marks length p q post := by
  unfold wp_X3_markAll
  have hlen := hL.len (fun _ q => q.1)
  have main : ∀ z j, j ≤ L.length → L.length < z + j → ∀ mk2 : Nat → Int32, (∀ (i : Nat) (e : En), i < j → L[i]? = some e → mk2 e.1 = nI (soN g e.1 == w).toNat) → wpL_X3_markAll_2 order length post z mk2 p q (nI j) := by
    intro z
    induction z with
    | zero => intro j h1 h2; omega
    | succ z ih =>
      intro j h1 h2 mk2 hmk
      rw [wpL_X3_markAll_2]
      refine pk_le L.length j (fun h5 => ?_) (fun h5 => ?_) hC.2.1
      · refine hh _ (fun x hx => ?_)
        obtain ⟨e, h3, rfl⟩ := mem_sts.mp hx
        obtain ⟨i, hi⟩ := List.getElem?_of_mem h3
        have := (List.getElem?_eq_some_iff.mp hi).1
        refine ⟨hmk i e (by omega) hi, ?_⟩
        show (soN g e.1 == w).toNat < 131072
        cases (soN g e.1 == w) <;> decide
      · refine pk_le 16384 j (fun z => by omega) (fun _ => ⟨pk_in j 16384 (by omega), ?_⟩)
        have hgd := getD_some h5
        have hpv := hL.2.1 _ (List.mem_of_getElem? hgd)
        rw [nI_clamp (by omega), (hC.2.2.1 j _ hgd).1]
        refine nm_e ?_
        have hp1 := hpv.1
        refine sp_X5_exists rfl hp1 (y1' ?_)
        refine sp_isSo hp rfl hg hp1 ?_
        rw [hq]
        have fin : ∀ v : Nat, v = (soN g (L.getD j e0).1 == w).toNat → wpL_X3_markAll_2 order length post z (upd mk2 (L.getD j e0).1 (nI v)) p q (nI (j + 1)) := by
          intro v hv
          refine ih (j + 1) (by omega) (by omega) _ (fun i e hi he => ?_)
          by_cases c : e.1 = (L.getD j e0).1
          · rw [c, pk_us, hv]
          · rw [pk_un c]
            refine hmk i e ?_ he
            rcases Nat.lt_or_eq_of_le (Nat.le_of_lt_succ hi) with h7 | h7
            · exact h7
            · subst h7
              rw [hgd] at he
              exact absurd (by rw [Option.some.inj he]) c
        rw [nI_clamp (by omega), ← hq]
        refine ⟨fun qq => ⟨pk_in _ 16384 hp1, nm_e (nm_r (nI_1 j) (fin 0 ?_))⟩, fun qq => ⟨pk_in _ 16384 hp1, nm_e (nm_r (nI_1 j) (fin 1 ?_))⟩⟩
        · rw [hq] at qq
          cases e1 : soN g (L.getD j e0).1 <;> cases w <;> rw [e1] at qq <;> first | rfl | exact absurd rfl qq
        · rw [hq] at qq
          cases e1 : soN g (L.getD j e0).1 <;> cases w <;> rw [e1] at qq <;> first | rfl | exact absurd qq (by decide)
  exact ⟨L.length + 1, main _ 0 (by omega) (by omega) _ (fun i e hi => absurd hi (Nat.not_lt_zero i))⟩
/-- from which a state is reached in which the goal is not so -/
def EscP (mv : Nat → List Nat) (af : Nat → Nat → Nat) (g : Nat) (x : Nat) : Prop := ∀ Q : Nat → Prop, (∀ y, soN g y = false → Q y) → (∀ y k, k ∈ mv y → Q (af y k) → Q y) → Q x
theorem EscP.here {mv : Nat → List Nat} {af : Nat → Nat → Nat} {g x : Nat} (h : soN g x = false) : EscP mv af g x := fun _ h1 _ => h1 _ h
theorem EscP.go {mv : Nat → List Nat} {af : Nat → Nat → Nat} {g x k : Nat} (hk : k ∈ mv x) (h : EscP mv af g (af x k)) : EscP mv af g x := fun Q h1 h2 => h2 _ _ hk (h Q h1 h2)
def EI (mv : Nat → List Nat) (af : Nat → Nat → Nat) (g : Nat) (L : List En) (b : Nat → Bool) : Prop := (∀ x ∈ sts L, soN g x = false → b x = true) ∧ ∀ x ∈ sts L, b x = true → EscP mv af g x
def FX (mv : Nat → List Nat) (af : Nat → Nat → Nat) (L : List En) (b : Nat → Bool) : Prop := ∀ x ∈ sts L, b x = false → ∀ k ∈ mv x, b (af x k) = false
theorem esc_iff {mv : Nat → List Nat} {af : Nat → Nat → Nat} {g : Nat} {L : List En} {b : Nat → Bool} (h : EI mv af g L b) (h3 : FX mv af L b) (hcl : ∀ x ∈ sts L, ∀ k ∈ mv x, af x k ∈ sts L) : ∀ x ∈ sts L, (b x = true ↔ EscP mv af g x) := by
  intro x hx
  refine ⟨fun w => h.2 x hx w, fun w => ?_⟩
  refine w (fun y => y ∈ sts L → b y = true) (fun y hy hyl => h.1 y hyl hy) (fun y k hk hq hyl => ?_) hx
  cases e : b y
  · have h5 := h3 y hyl e k hk
    rw [hq (hcl y hyl k hk)] at h5
    exact absurd h5 (by decide)
  · rfl
theorem EI.mark {mv : Nat → List Nat} {af : Nat → Nat → Nat} {g : Nat} {L : List En} {b : Nat → Bool} (h : EI mv af g L b) (hcl : ∀ x ∈ sts L, ∀ k ∈ mv x, af x k ∈ sts L) {x k : Nat} (hx : x ∈ sts L) (hk : k ∈ mv x) (hb : b (af x k) = true) : EI mv af g L (fun y => b y || decide (y = x)) := by
  refine ⟨fun y hy hs => ?_, fun y hy hy2 => ?_⟩
  · show (b y || decide (y = x)) = true
    rw [h.1 y hy hs]
    rfl
  · by_cases w : y = x
    · subst w
      exact EscP.go hk (h.2 _ (hcl _ hx k hk) hb)
    · refine h.2 y hy ?_
      have : (b y || decide (y = x)) = true := hy2
      simpa [w] using this
def cuN (b : Nat → Bool) (L : List En) : Nat := L.countP (fun e => !b e.1)
theorem cu_le (b : Nat → Bool) (L : List En) : cuN b L ≤ L.length := List.countP_le_length
theorem cu_zero {b : Nat → Bool} {L : List En} (h : cuN b L = 0) : ∀ x ∈ sts L, b x = true := by
  intro x hx
  obtain ⟨e, h1, rfl⟩ := mem_sts.mp hx
  have := List.countP_eq_zero.mp h e h1
  cases e2 : b e.1
  · rw [e2] at this; exact absurd rfl this
  · rfl
theorem cu_mono {b c : Nat → Bool} {L : List En} (h : ∀ x ∈ sts L, b x = true → c x = true) : cuN c L ≤ cuN b L := by
  refine List.countP_mono_left (fun e he hc => ?_)
  cases e2 : b e.1
  · rfl
  · rw [h e.1 (mem_sts.mpr ⟨e, he, rfl⟩) e2] at hc; exact hc
theorem cu_lt {b c : Nat → Bool} : ∀ {L : List En} {x : Nat}, x ∈ sts L → b x = false → c x = true → (∀ x ∈ sts L, b x = true → c x = true) → cuN c L < cuN b L := by
  intro L
  induction L with
  | nil => intro x hx; exact absurd hx (by simp [sts])
  | cons a L ih =>
    intro x hx h1 h2 h3
    have h4 : ∀ x ∈ sts L, b x = true → c x = true := fun y hy => h3 y (List.mem_cons_of_mem _ hy)
    have hm := cu_mono h4
    unfold cuN at hm ih ⊢
    rw [List.countP_cons, List.countP_cons]
    by_cases w : a.1 = x
    · rw [w, h1, h2]
      simp
      omega
    · have hxl : x ∈ sts L := by
        rcases List.mem_cons.mp hx with z | z
        · exact absurd z.symm w
        · exact z
      have h5 := ih hxl h1 h2 h4
      have h6 := h3 a.1 List.mem_cons_self
      cases e2 : b a.1
      · cases e3 : c a.1 <;> simp <;> omega
      · rw [h6 e2]; simp; omega
theorem esc_hold {V : Nat → Prop} {mv : Nat → List Nat} {af : Nat → Nat → Nat} {s0 g : Nat} {L : List En} (hL : GL V mv af s0 L) (hcl : ∀ x ∈ sts L, ∀ k ∈ mv x, af x k ∈ sts L) : L.all (fun e => soN g e.1) = true ↔ ¬ EscP mv af g s0 := by
  refine ⟨fun h z => ?_, fun h => ?_⟩
  · rw [List.all_eq_true] at h
    refine z (fun y => y ∉ sts L) (fun y hy hyl => ?_) (fun y k hk hq hyl => hq (hcl y hyl k hk)) hL.mem0
    obtain ⟨e, h1, rfl⟩ := mem_sts.mp hyl
    have h2 : soN g e.1 = true := h e h1
    rw [hy] at h2
    exact absurd h2 (by decide)
  · rw [List.all_eq_true]
    intro e he
    have := hL.all (Q := fun x => ¬ EscP mv af g x) h (fun x hx hq k hk z => hq (EscP.go hk z)) e.1 (mem_sts.mpr ⟨e, he, rfl⟩)
    cases e2 : soN g e.1
    · exact absurd (EscP.here e2) this
    · rfl
