def MIS (L : List En) (isA : Nat → Int32) (b : Nat → Bool) : Prop := ∀ x ∈ sts L, isA (ph x) = nI (!b x).toNat
theorem nar_bool (b : Bool) : vp_nar .boolean (nI b.toNat) = nI b.toNat := by cases b <;> rfl
theorem MIS.upd {L : List En} (hlt : ∀ x ∈ sts L, x < 16384) {isA : Nat → Int32} {b : Nat → Bool} (h : MIS L isA b) {x : Nat} (hx : x ∈ sts L) {v : Int32} {c : Bool} (hv : v = nI (!c).toNat) : MIS L (upd isA (ph x) v) (fun y => if y = x then c else b y) := by
  intro y hy
  show _ = nI (!(if y = x then c else b y)).toNat
  by_cases w : y = x
  · subst w; rw [pk_us, if_pos rfl, hv]
  · rw [pk_un (ph_ne (hlt y hy) (hlt x hx) w), if_neg w]; exact h y hy
theorem sp8_layGood {t : Nat → Nat} {P forms formMany seats : Nat → Int32} {G : Nat → Nat} (hW : MLW t P G forms formMany seats) {ba noPut : Int32} (hB : BA 0 ba) (hN : NPt 5 noPut) {s0 : Nat} (hs : SV t s0) {x : Int32} (hx : x = nI (ph s0)) {g : Nat} (hg : goalN g) {p : Int32} (hp : p = nI g) {far queue frm by_ isA : Nat → Int32} {many : Int32} {post : (Nat → Int32) → (Nat → Int32) → (Nat → Int32) → (Nat → Int32) → Int32 → (Nat → Int32) → Prop}
    (hh : ∀ fa q fr b m is2 b2, MIS (bfs (mvs t P G 15 0 5) (aft P) s0) is2 b2 → (∀ x ∈ sts (bfs (mvs t P G 15 0 5) (aft P) s0), b2 x = true ↔ EscP (mvs t P G 15 0 5) (aft P) g x) → post fa q fr b m is2) : wp_X8_layGood forms formMany seats x ba noPut far queue frm by_ many isA p post := by
  unfold wp_X8_layGood
  obtain ⟨hM, hP, hT, hD, hG⟩ := id hW
  refine sp8_wave hW hB hN (set := 15) (oth := 15) (by decide) (by decide) hs hx rfl rfl (fun fa q fr b m hMS => ?_)
  rw [umv_same] at hMS
  have hL := bfs_GL (cmv_ok hP (G := G) (set := 15) (bars := 0) (np := 5)) hs
  have hcl : ∀ x ∈ sts (bfs (mvs t P G 15 0 5) (aft P) s0), ∀ k ∈ mvs t P G 15 0 5 x, aft P x k ∈ sts (bfs (mvs t P G 15 0 5) (aft P) s0) := fun x hx k hk => bfs_CL (fun _ q => q.1) (cmv_ok hP) hs hx hk
  revert hMS hL hcl hh
  generalize bfs (mvs t P G 15 0 5) (aft P) s0 = L
  intro hh hMS hL hcl
  have hlen := hL.len (fun _ q => q.1)
  have hV : ∀ x ∈ sts L, SV t x := fun x hx => by
    obtain ⟨e, he, rfl⟩ := mem_sts.mp hx
    exact hL.2.1 e he
  have hlt : ∀ x ∈ sts L, x < 16384 := fun x hx => (hV x hx).1
  have inner79 : ∀ (K51 : (Nat → Int32) → (Nat → Int32) → (Nat → Int32) → (Nat → Int32) → Int32 → (Nat → Int32) → Int32 → Prop) (K64 : (Nat → Int32) → (Nat → Int32) → (Nat → Int32) → (Nat → Int32) → Int32 → (Nat → Int32) → Int32 → Int32 → Prop) (isA : Nat → Int32) (b1 : Nat → Bool) (x2 : Int32) (i y : Nat), MIS L isA b1 → y ∈ sts L → b1 y = false →
      ((∀ k ∈ mvs t P G 15 0 5 y, b1 (aft P y k) = false) → K64 fa q fr b m isA x2 (nI i + (-1))) →
      (∀ k ∈ mvs t P G 15 0 5 y, b1 (aft P y k) = true → K64 fa q fr b m (upd isA (ph y) 0) 1 (nI i + (-1))) →
      ∀ n k, k ≤ 20 → 20 < n + k → (∀ j, j < k → j ∈ mvs t P G 15 0 5 y → b1 (aft P y j) = false) → wpL_X8_layGood_79 forms formMany seats x ba noPut K51 K64 post n fa q fr b m isA x2 (nI i) (nI (ph y)) (nI k) := by
    intro K51 K64 isA b1 x2 i y hIS hy hby h0 h1 n
    have hyV := hV y hy
    have hpy := ph_lt hyV.1
    have hisy : isA (ph y) = 1 := by rw [hIS y hy, hby]; rfl
    induction n with
    | zero => intro k h3 h4; omega
    | succ n ih =>
      intro k h3 h4 hno
      rw [wpL_X8_layGood_79]
      refine pk_le 20 k (fun h5 => nm_e (h0 (fun j hj => hno j ?_ hj))) (fun h5 => ⟨pk_in _ 16384 hpy, ?_⟩)
      · have := (mvT_mem.mp hj).1
        omega
      · rw [nI_clamp (by omega), hisy]
        refine ⟨fun z => absurd z (by decide), fun _ => nm_r (sp8_act h5) ?_⟩
        have next := ih (k + 1) (by omega) (by omega)
        have hwl := why_lt (t := t) (P := P) (G := G) (set := 15) (bars := 0) (np := 5) (s := y) (k := k)
        have skip : (k ∈ mvs t P G 15 0 5 y → b1 (aft P y k) = false) → wpL_X8_layGood_79 forms formMany seats x ba noPut K51 K64 post n fa q fr b m isA x2 (nI i) (nI (ph y)) (nI (k + 1)) := by
          intro hk
          refine next (fun j hj hjm => ?_)
          by_cases w : j = k
          · subst w; exact hk hjm
          · exact hno j (by omega) hjm
        refine sp8_whyNot hM hP hT hD hG hB hN hyV (set := 15) (by decide) h5 rfl rfl rfl ?_
        refine pk_eq' (whyN t P G 15 0 5 y k) 0 (fun w => nm_r (nI_1 k) (skip (fun z => absurd (mvT_mem.mp z).2 w))) (fun w => ?_)
        have hkm : k ∈ mvs t P G 15 0 5 y := mvT_mem.mpr ⟨h5, w⟩
        have hgv := why_giv w
        refine sp8_done hM hP hyV h5 hgv rfl rfl ?_
        have hto := hcl y hy k hkm
        have hpt := ph_lt (hlt _ hto)
        refine ⟨pk_in _ 16384 hpt, ?_⟩
        rw [nI_clamp (by omega), hIS _ hto]
        cases hbt : b1 (aft P y k)
        · exact ⟨fun _ => nm_r (nI_1 k) (skip (fun _ => hbt)), fun z => absurd z (by decide)⟩
        · refine ⟨fun z => absurd rfl z, fun _ => ⟨pk_in _ 16384 hpy, nm_e (nm_r (nI_1 k) ?_)⟩⟩
          have hK := h1 k hkm hbt
          cases n with
          | zero => omega
          | succ n =>
            rw [wpL_X8_layGood_79]
            refine pk_le 20 (k + 1) (fun h6 => nm_e hK) (fun h6 => ⟨pk_in _ 16384 hpy, ?_⟩)
            rw [nI_clamp (by omega), pk_us]
            exact ⟨fun _ => nm_e hK, fun z => absurd rfl z⟩
  have inner64 : ∀ (K51 : (Nat → Int32) → (Nat → Int32) → (Nat → Int32) → (Nat → Int32) → Int32 → (Nat → Int32) → Int32 → Prop) (b0 : Nat → Bool),
      (∀ is2 b2 x2, MIS L is2 b2 → EI (mvs t P G 15 0 5) (aft P) g L b2 → ((x2 = 0 ∧ FX (mvs t P G 15 0 5) (aft P) L b2) ∨ (x2 = 1 ∧ cuN b2 L < cuN b0 L)) → K51 fa q fr b m is2 x2) →
      ∀ n i, i < n → i ≤ L.length → ∀ is2 b2 x2 x3, idx i x3 → MIS L is2 b2 → EI (mvs t P G 15 0 5) (aft P) g L b2 → ((x2 = 0 ∧ b2 = b0 ∧ ∀ (j : Nat) (e : En), i ≤ j → L[j]? = some e → b0 e.1 = false → ∀ k ∈ mvs t P G 15 0 5 e.1, b0 (aft P e.1 k) = false) ∨ (x2 = 1 ∧ cuN b2 L < cuN b0 L)) → wpL_X8_layGood_64 forms formMany seats x ba noPut K51 post n fa q fr b m is2 x2 x3 := by
    intro K51 b0 hK n
    induction n with
    | zero => intro i hi; omega
    | succ n ih =>
      intro i hi hil is2 b2 x2 x3 hx3 hIS hei hcase
      rw [wpL_X8_layGood_64]
      cases i with
      | zero =>
        rw [hx3.1 rfl]
        refine ⟨fun _ => hK _ _ _ hIS hei ?_, fun z => absurd (by decide) z⟩
        rcases hcase with ⟨z1, z2, z3⟩ | z
        · refine Or.inl ⟨z1, ?_⟩
          subst z2
          intro x hx
          obtain ⟨e, he, rfl⟩ := mem_sts.mp hx
          obtain ⟨j, hj⟩ := List.getElem?_of_mem he
          exact z3 j e (Nat.zero_le j) hj
        · exact Or.inr z
      | succ i =>
        have ex := hx3.2 i rfl
        refine pk_lt i 0 (fun z => by omega) (fun _ => ⟨pk_in i 16384 (by omega) ex, ?_⟩) ex
        have hgd := getD_some (L := L) (i := i) (by omega)
        have hmem := List.mem_of_getElem? hgd
        have hxs : (L.getD i e0).1 ∈ sts L := mem_sts.mpr ⟨_, hmem, rfl⟩
        have hpy := ph_lt (hlt _ hxs)
        rw [ex, nI_clamp (by omega), (hMS.2.1 i _ hgd).1]
        refine nm_e ⟨21, ?_⟩
        have same : (b2 (L.getD i e0).1 = false → ∀ k ∈ mvs t P G 15 0 5 (L.getD i e0).1, b2 (aft P (L.getD i e0).1 k) = false) → wpL_X8_layGood_64 forms formMany seats x ba noPut K51 post n fa q fr b m is2 x2 (nI i + (-1)) := by
          intro hno
          refine ih i (by omega) (by omega) _ b2 _ _ idx_dec hIS hei ?_
          rcases hcase with ⟨z1, z2, z3⟩ | z
          · refine Or.inl ⟨z1, z2, fun j e2 hj he2 => ?_⟩
            by_cases w : j = i
            · subst w
              rw [hgd] at he2
              rw [← Option.some.inj he2, ← z2]
              exact hno
            · exact z3 j e2 (by omega) he2
          · exact Or.inr z
        cases hb : b2 (L.getD i e0).1
        · refine inner79 _ _ is2 b2 x2 i _ hIS hxs hb (fun hno => same (fun _ => hno)) (fun k hk hbk => ?_) 21 0 (by omega) (by omega) (fun j hj => absurd hj (Nat.not_lt_zero j))
          have hm3 : (fun y => if y = (L.getD i e0).1 then true else b2 y) = (fun y => b2 y || decide (y = (L.getD i e0).1)) := by
            funext y
            by_cases w : y = (L.getD i e0).1
            · rw [if_pos w, decide_eq_true w, Bool.or_true]
            · rw [if_neg w, decide_eq_false w, Bool.or_false]
          have hIS3 := hIS.upd hlt hxs (v := 0) (c := true) rfl
          rw [hm3] at hIS3
          refine ih i (by omega) (by omega) _ _ _ _ idx_dec hIS3 (hei.mark hcl hxs hk hbk) (Or.inr ⟨rfl, ?_⟩)
          have hlt2 : cuN (fun y => b2 y || decide (y = (L.getD i e0).1)) L < cuN b2 L := cu_lt hxs hb (by simp) (fun y _ hy => by
            show (b2 y || _) = true
            rw [hy]; rfl)
          rcases hcase with ⟨z1, z2, z3⟩ | ⟨z1, z2⟩
          · rw [← z2]; exact hlt2
          · exact Nat.lt_trans hlt2 z2
        · rw [wpL_X8_layGood_79]
          refine ⟨fun z => absurd z (by decide), fun _ => ⟨pk_in _ 16384 hpy, ?_⟩⟩
          rw [nI_clamp (by omega), hIS _ hxs, hb]
          exact ⟨fun _ => nm_e (same (fun z => by rw [hb] at z; exact absurd z (by decide))), fun z => absurd rfl z⟩
  have outer : ∀ n is2 b2 x2, cuN b2 L < n → MIS L is2 b2 → EI (mvs t P G 15 0 5) (aft P) g L b2 → ((x2 = 0 ∧ FX (mvs t P G 15 0 5) (aft P) L b2) ∨ x2 = 1) → wpL_X8_layGood_51 forms formMany seats x ba noPut post (n + 1) fa q fr b m is2 x2 := by
    intro n
    induction n with
    | zero => intro is2 b2 x2 h1; omega
    | succ n ih =>
      intro is2 b2 x2 h1 hIS hei hcase
      rw [wpL_X8_layGood_51]
      rcases hcase with ⟨rfl, hfx⟩ | rfl
      · exact ⟨fun _ => hh _ _ _ _ _ _ b2 hIS (esc_iff hei hfx hcl), fun z => absurd rfl z⟩
      · refine ⟨fun z => absurd z (by decide), fun _ => nm_e ⟨L.length + 1, ?_⟩⟩
        refine inner64 _ b2 (fun is3 b3 x3 hIS3 hei3 hc3 => ?_) _ L.length (by omega) (by omega) _ b2 _ _ ?_ hIS hei (Or.inl ⟨rfl, rfl, fun j e2 hj he2 => ?_⟩)
        · rcases hc3 with z | ⟨z1, z2⟩
          · cases n with
            | zero =>
              rw [wpL_X8_layGood_51]
              obtain ⟨rfl, hfx⟩ := z
              exact ⟨fun _ => hh _ _ _ _ _ _ b3 hIS3 (esc_iff hei3 hfx hcl), fun z => absurd rfl z⟩
            | succ n =>
              rw [wpL_X8_layGood_51]
              obtain ⟨rfl, hfx⟩ := z
              exact ⟨fun _ => hh _ _ _ _ _ _ b3 hIS3 (esc_iff hei3 hfx hcl), fun z => absurd rfl z⟩
          · exact ih _ b3 _ (by omega) hIS3 hei3 (Or.inr z1)
        · rw [hMS.1]
          exact ⟨fun z => by rw [z]; decide, fun j hj => by rw [hj]; exact nI_prd (by omega)⟩
        · have := (List.getElem?_eq_some_iff.mp he2).1
          omega
  have start : ∀ n i, i ≤ L.length → L.length < n + i → ∀ isA : Nat → Int32, (∀ (j : Nat) (e : En), j < i → L[j]? = some e → isA (ph e.1) = nI (soN g e.1).toNat) → wpL_X8_layGood_14 forms formMany seats x ba noPut post n fa q fr b m isA p (nI i) := by
    intro n
    induction n with
    | zero => intro i h1 h2; omega
    | succ n ih =>
      intro i h1 h2 isA hA
      rw [wpL_X8_layGood_14]
      refine pk_le L.length i (fun h5 => ?_) (fun h5 => ⟨pk_in i 16384 (by omega), pk_in i 16384 (by omega), ?_⟩) hMS.1
      · refine ⟨cuN (fun y => !soN g y) L + 2, outer _ isA (fun y => !soN g y) 1 (by omega) (fun y hy => ?_) ⟨fun y hy hs => ?_, fun y hy hs => EscP.here ?_⟩ (Or.inr rfl)⟩
        · obtain ⟨e, he, rfl⟩ := mem_sts.mp hy
          obtain ⟨j, hj⟩ := List.getElem?_of_mem he
          have := (List.getElem?_eq_some_iff.mp hj).1
          rw [hA j e (by omega) hj]
          show _ = nI (!(!soN g e.1)).toNat
          cases soN g e.1 <;> rfl
        · show (!soN g y) = true
          rw [hs]; rfl
        · have hs2 : (!soN g y) = true := hs
          cases e : soN g y
          · rfl
          · rw [e] at hs2; exact absurd hs2 (by decide)
      · have hgd := getD_some h5
        have hxs : (L.getD i e0).1 ∈ sts L := mem_sts.mpr ⟨_, List.mem_of_getElem? hgd, rfl⟩
        have hp1 := hlt _ hxs
        have hpp := ph_lt hp1
        rw [nI_clamp (by omega), (hMS.2.1 i _ hgd).1]
        refine sp8_isSo rfl hp hp1 hg ?_
        rw [nar_bool]
        refine ⟨pk_in _ 16384 hpp, nm_e (nm_r (nI_1 i) ?_)⟩
        rw [nI_clamp (by omega)]
        refine ih (i + 1) (by omega) (by omega) _ (fun j e hj he => ?_)
        have hes : e.1 ∈ sts L := mem_sts.mpr ⟨e, List.mem_of_getElem? he, rfl⟩
        by_cases w : e.1 = (L.getD i e0).1
        · rw [w, pk_us]
        · rw [pk_un (ph_ne (hlt _ hes) hp1 w)]
          refine hA j e ?_ he
          rcases Nat.lt_or_eq_of_le (Nat.le_of_lt_succ hj) with h7 | h7
          · exact h7
          · subst h7
            rw [hgd] at he
            exact absurd (by rw [Option.some.inj he]) w
  exact ⟨L.length + 1, start _ 0 (by omega) (by omega) _ (fun j e hj => absurd hj (Nat.not_lt_zero j))⟩
