theorem mvs_len {t : Nat → Nat} {P : Nat → Int32} {G : Nat → Nat} {set bars np s : Nat} : (mvs t P G set bars np s).length ≤ 20 := mvT_len
theorem sp_markIf {t : Nat → Nat} {P hm hv told : Nat → Int32} {G : Nat → Nat} (hW : LW t P G told hm hv) {set bars : Nat} {ownVotes : Nat → Int32} {groups barsI : Int32} (hS : SC G set bars ownVotes groups barsI) {s0 : Nat} {L : List En} (hL : GL (SV t) (mvs t P G set bars 5) (aft P) s0 L) (hcl : ∀ x ∈ sts L, ∀ k ∈ mvs t P G set bars 5 x, aft P x k ∈ sts L) {marks : Nat → Int32} {m : Nat → Nat} (h : MKS L marks m) {x : Nat} (hx : x ∈ sts L) {p : Int32} (hp : p = nI x) {votes rows mayActs mayEnds : Nat → Int32} {now forced barred mays : Int32}
    {post : Int32 → (Nat → Int32) → (Nat → Int32) → (Nat → Int32) → Int32 → Int32 → Int32 → (Nat → Int32) → (Nat → Int32) → Int32 → Prop}
    (h0 : (bt (m x) 0 = false → ∀ k ∈ mvs t P G set bars 5 x, bt (m (aft P x k)) 0 = false) → ∀ v r n f b a e mm, post 0 marks v r n f b a e mm)
    (h1 : bt (m x) 0 = false → ∀ k ∈ mvs t P G set bars 5 x, bt (m (aft P x k)) 0 = true → ∀ marks2 v r n f b a e mm, MKS L marks2 (fun y => if y = x then Nat.lor (m x) (2 ^ 0) else m y) → post 1 marks2 v r n f b a e mm) :
    wp_X3_markIfItEscapes marks ownVotes votes rows groups barsI now forced barred mayActs mayEnds mays told P hm hv p post := by
  unfold wp_X3_markIfItEscapes
  obtain ⟨e, he, rfl⟩ := mem_sts.mp hx
  have hV := hL.2.1 e he
  have hlt : ∀ x ∈ sts L, x < 16384 := fun x hx => by
    obtain ⟨e, he, rfl⟩ := mem_sts.mp hx
    exact (hL.2.1 e he).1
  refine sp_isMarked h hx hV.1 (n := 0) (by decide) hp rfl ?_
  refine nbool rfl (fun w => ?_) (fun w => h0 (fun z => by rw [w] at z; exact absurd z (by decide)) _ _ _ _ _ _ _ _)
  refine sp_list hW.1 hW.2.1 hW.2.2.1 hW.2.2.2 hV hp hS (fun v r n f b a en mm hLS hn => ?_)
  refine sp_firstActTo h hlt hLS mvs_len (hcl _ hx) (n := 0) (by decide) (w := true) rfl rfl ?_
  cases hf : (mvs t P G set bars 5 e.1).find? (fun k => bt (m (aft P e.1 k)) 0 == true) with
  | none =>
    refine ⟨fun z => absurd rfl z, fun _ => h0 (fun _ k hk => ?_) _ _ _ _ _ _ _ _⟩
    have := List.find?_eq_none.mp hf k hk
    simpa using this
  | some k =>
    have hk := List.mem_of_find?_eq_some hf
    have hk2 := List.find?_some hf
    refine ⟨fun _ => ?_, fun z => absurd z (neg9 ?_)⟩
    · refine sp_mark h hx hV.1 (n := 0) (by decide) hp rfl (fun marks2 hm2 => ?_)
      exact h1 w k hk (by simpa using hk2) _ _ _ _ _ _ _ _ _ hm2
    · have := actN_lt (mvT_mem.mp hk).1
      omega
theorem esc_upd (m : Nat → Nat) (x : Nat) : (fun y => bt (if y = x then Nat.lor (m x) (2 ^ 0) else m y) 0) = fun y => (bt (m y) 0 || decide (y = x)) := by
  funext y
  by_cases w : y = x
  · subst w; rw [if_pos rfl, bt_lor]; simp
  · rw [if_neg w]; simp [w]
theorem nI_prd {i : Nat} (h : i < 2 ^ 31) : nI (i + 1) - (1 : Int32) = nI i := by
  have : nI (i + 1) = nI i + 1 := (nI_1 i).symm
  rw [this]
  exact Int32.add_sub_cancel _ _
theorem nI_dec {i : Nat} : nI (i + 1) + (-1 : Int32) = nI i := by
  have : nI (i + 1) = nI i + 1 := (nI_1 i).symm
  rw [this, Int32.add_assoc, show (1 : Int32) + (-1) = 0 from by decide, Int32.add_zero]
def idx (i : Nat) (x : Int32) : Prop := (i = 0 → x = -1) ∧ ∀ j, i = j + 1 → x = nI j
theorem idx_dec {i : Nat} : idx i (nI i + (-1)) := by
  refine ⟨fun z => by subst z; decide, fun j hj => by subst hj; exact nI_dec⟩
theorem sp_markEscapes {t : Nat → Nat} {P hm hv told : Nat → Int32} {G : Nat → Nat} (hW : LW t P G told hm hv) {set bars : Nat} {ownVotes : Nat → Int32} {groups barsI : Int32} (hS : SC G set bars ownVotes groups barsI) {s0 : Nat} {L : List En} (hL : GL (SV t) (mvs t P G set bars 5) (aft P) s0 L) (hcl : ∀ x ∈ sts L, ∀ k ∈ mvs t P G set bars 5 x, aft P x k ∈ sts L) {order frm cameBy : Nat → Int32} {runs length : Int32} {R : Nat} (hC : CS L order frm cameBy runs length R) {g : Nat} (hg : goalN g) {p : Int32} (hp : p = nI g) {marks votes rows mayActs mayEnds : Nat → Int32} {now forced barred mays : Int32}
    {post : (Nat → Int32) → (Nat → Int32) → (Nat → Int32) → Int32 → Int32 → Int32 → (Nat → Int32) → (Nat → Int32) → Int32 → Prop}
    (hh : ∀ marks2 m2 v r n f b a e mm, MKS L marks2 m2 → (∀ x ∈ sts L, bt (m2 x) 0 = true ↔ EscP (mvs t P G set bars 5) (aft P) g x) → post marks2 v r n f b a e mm) :
    wp_X3_markEscapes order marks length ownVotes votes rows groups barsI now forced barred mayActs mayEnds mays told P hm hv p post := by
  unfold wp_X3_markEscapes
  have hlen := hL.len (fun _ q => q.1)
  have hC21 := hC.2.1
  refine sp_markAll hC hL hg (w := false) hp rfl (fun mk1 hmk1 => ?_)
  have inner : ∀ (K : (Nat → Int32) → (Nat → Int32) → (Nat → Int32) → Int32 → Int32 → Int32 → (Nat → Int32) → (Nat → Int32) → Int32 → Int32 → Int32 → Prop) (m0 : Nat → Nat) (pass : Nat),
      (∀ marks2 m2 v r n f b a e mm x3, MKS L marks2 m2 → EI (mvs t P G set bars 5) (aft P) g L (fun y => bt (m2 y) 0) → ((x3 = 0 ∧ FX (mvs t P G set bars 5) (aft P) L (fun y => bt (m2 y) 0)) ∨ (x3 = 1 ∧ cuN (fun y => bt (m2 y) 0) L < cuN (fun y => bt (m0 y) 0) L)) → K marks2 v r n f b a e mm x3 (nI (pass + 1))) →
      ∀ q i, i < q → i ≤ L.length → ∀ marks2 m2 v r n f b a e mm x3 x5, idx i x5 → MKS L marks2 m2 → EI (mvs t P G set bars 5) (aft P) g L (fun y => bt (m2 y) 0) → ((x3 = 0 ∧ m2 = m0 ∧ ∀ (j : Nat) (e : En), i ≤ j → L[j]? = some e → bt (m0 e.1) 0 = false → ∀ k ∈ mvs t P G set bars 5 e.1, bt (m0 (aft P e.1 k)) 0 = false) ∨ (x3 = 1 ∧ cuN (fun y => bt (m2 y) 0) L < cuN (fun y => bt (m0 y) 0) L)) → wpL_X3_markEscapes_33 order length ownVotes groups barsI told P hm hv K post q marks2 v r n f b a e mm x3 (nI pass) x5 := by
    intro K m0 pass hK q
    induction q with
    | zero => intro i hi; omega
    | succ q ih =>
      intro i hi hil marks2 m2 v r n f b a e mm x3 x5 hx5 hmk hei hcase
      rw [wpL_X3_markEscapes_33]
      cases i with
      | zero =>
        rw [hx5.1 rfl]
        refine ⟨fun _ => nm_r (nI_1 pass) (hK _ _ _ _ _ _ _ _ _ _ _ hmk hei ?_), fun z => absurd (by decide) z⟩
        rcases hcase with ⟨z1, z2, z3⟩ | z
        · refine Or.inl ⟨z1, ?_⟩
          subst z2
          intro x hx
          obtain ⟨e, he, rfl⟩ := mem_sts.mp hx
          obtain ⟨j, hj⟩ := List.getElem?_of_mem he
          exact z3 j e (Nat.zero_le j) hj
        · exact Or.inr z
      | succ i =>
        have ex := hx5.2 i rfl
        refine pk_lt i 0 (fun z => by omega) (fun _ => pk_le 16384 i (fun z => by omega) (fun _ => ⟨pk_in i 16384 (by omega) ex, ?_⟩) rfl ex) ex
        have hgd := getD_some (L := L) (i := i) (by omega)
        have hmem := List.mem_of_getElem? hgd
        have hxs : (L.getD i e0).1 ∈ sts L := mem_sts.mpr ⟨_, hmem, rfl⟩
        rw [ex, nI_clamp (by omega)]
        refine sp_markIf hW hS hL hcl hmk hxs ((hC.2.2.1 i _ hgd).1) (fun hno v r n f b a e mm => ?_) (fun hb k hk hbk marks3 v r n f b a e mm hmk3 => ?_)
        · refine nm_e (nm_e ?_)
          rw [show x3 ||| (0 : Int32) = x3 from by rcases hcase with ⟨z, -⟩ | ⟨z, -⟩ <;> rw [z] <;> decide]
          refine ih i (by omega) (by omega) marks2 m2 _ _ _ _ _ _ _ _ _ _ idx_dec hmk hei ?_
          rcases hcase with ⟨z1, z2, z3⟩ | z
          · refine Or.inl ⟨z1, z2, fun j e2 hj he2 => ?_⟩
            by_cases w : j = i
            · subst w
              rw [hgd] at he2
              rw [← Option.some.inj he2, ← z2]
              exact hno
            · exact z3 j e2 (by omega) he2
          · exact Or.inr z
        · refine nm_e (nm_e ?_)
          rw [show x3 ||| (1 : Int32) = 1 from by rcases hcase with ⟨z, -⟩ | ⟨z, -⟩ <;> rw [z] <;> decide]
          have eu := esc_upd m2 (L.getD i e0).1
          have hei3 : EI (mvs t P G set bars 5) (aft P) g L (fun y => bt ((fun y => if y = (L.getD i e0).1 then Nat.lor (m2 (L.getD i e0).1) (2 ^ 0) else m2 y) y) 0) := by
            show EI (mvs t P G set bars 5) (aft P) g L (fun y => bt (if y = (L.getD i e0).1 then Nat.lor (m2 (L.getD i e0).1) (2 ^ 0) else m2 y) 0)
            rw [eu]
            exact hei.mark hcl hxs hk hbk
          refine ih i (by omega) (by omega) marks3 _ _ _ _ _ _ _ _ _ _ _ idx_dec hmk3 hei3 (Or.inr ⟨rfl, ?_⟩)
          have hlt : cuN (fun y => bt ((fun y => if y = (L.getD i e0).1 then Nat.lor (m2 (L.getD i e0).1) (2 ^ 0) else m2 y) y) 0) L < cuN (fun y => bt (m2 y) 0) L := by
            show cuN (fun y => bt (if y = (L.getD i e0).1 then Nat.lor (m2 (L.getD i e0).1) (2 ^ 0) else m2 y) 0) L < _
            rw [eu]
            refine cu_lt hxs hb (by simp) (fun y _ hy => ?_)
            show (bt (m2 y) 0 || _) = true
            have hy2 : bt (m2 y) 0 = true := hy
            rw [hy2]; rfl
          rcases hcase with ⟨z1, z2, z3⟩ | ⟨z1, z2⟩
          · rw [← z2]; exact hlt
          · exact Nat.lt_trans hlt z2
  have outer : ∀ q pass, pass ≤ 16384 → 16384 < q + pass → ∀ marks2 m2 v r n f b a e mm x3, MKS L marks2 m2 → EI (mvs t P G set bars 5) (aft P) g L (fun y => bt (m2 y) 0) → ((x3 = 0 ∧ FX (mvs t P G set bars 5) (aft P) L (fun y => bt (m2 y) 0)) ∨ (x3 = 1 ∧ cuN (fun y => bt (m2 y) 0) L + pass ≤ 16384)) → wpL_X3_markEscapes_11 order length ownVotes groups barsI told P hm hv post (q + 1) marks2 v r n f b a e mm x3 (nI pass) := by
    intro q
    induction q with
    | zero => intro pass h1 h2; omega
    | succ q ih =>
      intro pass h1 h2 marks2 m2 v r n f b a e mm x3 hmk hei hcase
      rw [wpL_X3_markEscapes_11]
      rcases hcase with ⟨rfl, hfx⟩ | ⟨rfl, hcu⟩
      · exact ⟨fun _ => hh _ m2 _ _ _ _ _ _ _ _ hmk (esc_iff hei hfx hcl), fun z => absurd rfl z⟩
      · refine ⟨fun z => absurd z (by decide), fun _ => pk_le 16384 pass (fun h5 => ?_) (fun h5 => ?_)⟩
        · refine hh _ m2 _ _ _ _ _ _ _ _ hmk (esc_iff hei ?_ hcl)
          intro x hx hb
          have := cu_zero (b := fun y => bt (m2 y) 0) (L := L) (by omega) x hx
          have hb2 : bt (m2 x) 0 = false := hb
          rw [hb2] at this
          exact absurd this (by decide)
        · refine nm_e ⟨L.length + 1, ?_⟩
          refine inner _ m2 pass (fun marks3 m3 v r n f b a e mm x3 hmk3 hei3 hc3 => ?_) _ L.length (by omega) (by omega) _ m2 _ _ _ _ _ _ _ _ _ _ ?_ hmk hei (Or.inl ⟨rfl, rfl, fun j e2 hj he2 => ?_⟩)
          · refine ih (pass + 1) (by omega) (by omega) _ m3 _ _ _ _ _ _ _ _ _ hmk3 hei3 ?_
            rcases hc3 with z | ⟨z1, z2⟩
            · exact Or.inl z
            · exact Or.inr ⟨z1, by omega⟩
          · rw [hC21]
            exact ⟨fun z => by rw [z]; decide, fun j hj => by rw [hj]; exact nI_prd (by omega)⟩
          · have := (List.getElem?_eq_some_iff.mp he2).1
            omega
  have ei0 : EI (mvs t P G set bars 5) (aft P) g L (fun y => bt ((fun x => (soN g x == false).toNat) y) 0) := by
    refine ⟨fun x hx hs => ?_, fun x hx hs => EscP.here ?_⟩
    · show bt (soN g x == false).toNat 0 = true
      rw [hs]; rfl
    · have hs2 : bt (soN g x == false).toNat 0 = true := hs
      cases e : soN g x
      · rfl
      · rw [e] at hs2; exact absurd hs2 (by decide)
  have hc0 := cu_le (fun y => bt ((fun x => (soN g x == false).toNat) y) 0) L
  exact ⟨16386, outer 16385 0 (by omega) (by omega) _ _ _ _ _ _ _ _ _ _ _ hmk1 ei0 (Or.inr ⟨rfl, Nat.le_trans (Nat.add_le_add_right hc0 0) hlen⟩)⟩
