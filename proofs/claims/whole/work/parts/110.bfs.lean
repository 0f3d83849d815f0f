/-! the search in numbers: entries (state, parent, act's place, depth) -/
abbrev En : Type := Nat × Nat × Nat × Nat
def sts (L : List En) : List Nat := L.map (fun e => e.1)
def insE (L : List En) (x p k d : Nat) : List En := if x ∈ sts L then L else L ++ [(x, p, k, d)]
def spr (af : Nat → Nat → Nat) (s d : Nat) (ks : List Nat) (L : List En) : List En := ks.foldl (fun L k => insE L (af s k) s k (d + 1)) L
def e0 : En := (0, 0, 0, 0)
def rnL (mv : Nat → List Nat) (af : Nat → Nat → Nat) : Nat → Nat → List En → List En
  | 0, _, L => L
  | n + 1, i, L => if i < L.length then rnL mv af n (i + 1) (spr af (L.getD i e0).1 (L.getD i e0).2.2.2 (mv (L.getD i e0).1) L) else L
def bfs (mv : Nat → List Nat) (af : Nat → Nat → Nat) (s0 : Nat) : List En := rnL mv af 16385 0 [(s0, 0, 0, 0)]
theorem nodup_len : ∀ (n : Nat) (L : List Nat), L.Nodup → (∀ x ∈ L, x < n) → L.length ≤ n := by
  intro n
  induction n with
  | zero =>
    intro L _ h
    cases L with
    | nil => exact Nat.le_refl 0
    | cons a l => exact absurd (h a List.mem_cons_self) (Nat.not_lt_zero a)
  | succ n ih =>
    intro L hn h
    by_cases hm : n ∈ L
    · have h1 := ih (L.erase n) (hn.erase n) (fun x hx => by
        have hx2 := (hn.mem_erase_iff).mp hx
        have := h x hx2.2
        have := hx2.1
        omega)
      rw [List.length_erase_of_mem hm] at h1
      omega
    · have := ih L hn (fun x hx => by
        have h2 := h x hx
        have : x ≠ n := fun z => hm (z ▸ hx)
        omega)
      omega
/-- a good list of entries -/
def GL (V : Nat → Prop) (mv : Nat → List Nat) (af : Nat → Nat → Nat) (s0 : Nat) (L : List En) : Prop :=
  (sts L).Nodup ∧ (∀ e ∈ L, V e.1) ∧ L[0]? = some (s0, 0, 0, 0) ∧ ∀ (j : Nat) (e : En), L[j]? = some e → j ≠ 0 → ∃ (i : Nat) (p : En), i < j ∧ L[i]? = some p ∧ p.1 = e.2.1 ∧ e.2.2.2 = p.2.2.2 + 1 ∧ e.2.2.1 ∈ mv p.1 ∧ e.1 = af p.1 e.2.2.1
theorem mem_sts {L : List En} {x : Nat} : x ∈ sts L ↔ ∃ e ∈ L, e.1 = x := by
  unfold sts
  exact List.mem_map
theorem insE_pre (L : List En) (x p k d : Nat) : L <+: insE L x p k d := by
  unfold insE
  split
  · exact List.prefix_refl L
  · exact List.prefix_append L _
theorem insE_mem (L : List En) (x p k d : Nat) : x ∈ sts (insE L x p k d) := by
  unfold insE
  split
  · assumption
  · rw [mem_sts]
    exact ⟨(x, p, k, d), List.mem_append_right _ List.mem_cons_self, rfl⟩
theorem pre_get {L M : List En} (h : L <+: M) {j : Nat} {e : En} (he : L[j]? = some e) : M[j]? = some e := by
  obtain ⟨t, rfl⟩ := h
  rw [List.getElem?_append_left (List.getElem?_eq_some_iff.mp he).1]
  exact he
theorem pre_sts {L M : List En} (h : L <+: M) {x : Nat} (hx : x ∈ sts L) : x ∈ sts M := by
  obtain ⟨t, rfl⟩ := h
  rw [mem_sts] at hx ⊢
  obtain ⟨e, h1, h2⟩ := hx
  exact ⟨e, List.mem_append_left _ h1, h2⟩
theorem insE_GL {V : Nat → Prop} {mv : Nat → List Nat} {af : Nat → Nat → Nat} {s0 : Nat} {L : List En} (h : GL V mv af s0 L) {i k : Nat} {p : En} (hp : L[i]? = some p) (hk : k ∈ mv p.1) (hv : V (af p.1 k)) : GL V mv af s0 (insE L (af p.1 k) p.1 k (p.2.2.2 + 1)) := by
  unfold insE
  split
  · exact h
  · rename_i hx
    obtain ⟨h1, h2, h3, h4⟩ := h
    refine ⟨?_, ?_, ?_, ?_⟩
    · unfold sts
      rw [List.map_append]
      rw [List.nodup_append]
      refine ⟨h1, by simp, ?_⟩
      intro a ha b hb
      rw [List.map_cons, List.map_nil, List.mem_singleton] at hb
      rintro rfl
      have hb : a = af p.1 k := hb
      exact hx (hb ▸ ha)
    · intro e he
      rcases List.mem_append.mp he with he | he
      · exact h2 e he
      · rw [List.mem_singleton] at he
        subst he
        exact hv
    · rw [List.getElem?_append_left (List.getElem?_eq_some_iff.mp h3).1]
      exact h3
    · intro j e he hj
      by_cases hl : j < L.length
      · rw [List.getElem?_append_left hl] at he
        obtain ⟨i2, p2, q1, q2, q3⟩ := h4 j e he hj
        refine ⟨i2, p2, q1, ?_, q3⟩
        rw [List.getElem?_append_left (by omega)]
        exact q2
      · rw [List.getElem?_append_right (by omega)] at he
        have hz : j - L.length < 1 := (List.getElem?_eq_some_iff.mp he).1
        have hz0 : j - L.length = 0 := by omega
        rw [hz0] at he
        simp at he
        subst he
        have hil := (List.getElem?_eq_some_iff.mp hp).1
        refine ⟨i, p, by omega, ?_, rfl, rfl, hk, rfl⟩
        rw [List.getElem?_append_left hil]
        exact hp
theorem spr_pre (af : Nat → Nat → Nat) (s d : Nat) : ∀ (ks : List Nat) (L : List En), L <+: spr af s d ks L := by
  intro ks
  induction ks with
  | nil => intro L; exact List.prefix_refl L
  | cons k ks ih =>
    intro L
    exact (insE_pre L _ _ _ _).trans (ih _)
theorem spr_mem (af : Nat → Nat → Nat) (s d : Nat) : ∀ (ks : List Nat) (L : List En), ∀ k ∈ ks, af s k ∈ sts (spr af s d ks L) := by
  intro ks
  induction ks with
  | nil => intro L k hk; exact absurd hk List.not_mem_nil
  | cons a ks ih =>
    intro L k hk
    rcases List.mem_cons.mp hk with rfl | hk
    · exact pre_sts (spr_pre af s d ks _) (insE_mem L _ _ _ _)
    · exact ih _ k hk
theorem spr_GL {V : Nat → Prop} {mv : Nat → List Nat} {af : Nat → Nat → Nat} {s0 : Nat} {i : Nat} {p : En} : ∀ (ks : List Nat) (L : List En), GL V mv af s0 L → L[i]? = some p → (∀ k ∈ ks, k ∈ mv p.1 ∧ V (af p.1 k)) → GL V mv af s0 (spr af p.1 p.2.2.2 ks L) := by
  intro ks
  induction ks with
  | nil => intro L h _ _; exact h
  | cons a ks ih =>
    intro L h hp hk
    have h1 := hk a List.mem_cons_self
    exact ih _ (insE_GL h hp h1.1 h1.2) (pre_get (insE_pre L _ _ _ _) hp) (fun k hk2 => hk k (List.mem_cons_of_mem _ hk2))
theorem GL.len {V : Nat → Prop} {mv : Nat → List Nat} {af : Nat → Nat → Nat} {s0 : Nat} {L : List En} (h : GL V mv af s0 L) (hV : ∀ x, V x → x < 16384) : L.length ≤ 16384 := by
  have := nodup_len 16384 (sts L) h.1 (fun x hx => by
    obtain ⟨e, h1, rfl⟩ := mem_sts.mp hx
    exact hV _ (h.2.1 e h1))
  unfold sts at this
  rw [List.length_map] at this
  exact this
theorem GL.len_new {V : Nat → Prop} {mv : Nat → List Nat} {af : Nat → Nat → Nat} {s0 : Nat} {L : List En} (h : GL V mv af s0 L) (hV : ∀ x, V x → x < 16384) {x : Nat} (hx : x < 16384) (hn : x ∉ sts L) : L.length < 16384 := by
  have := nodup_len 16384 (x :: sts L) (List.nodup_cons.mpr ⟨hn, h.1⟩) (fun y hy => by
    rcases List.mem_cons.mp hy with rfl | hy
    · exact hx
    · obtain ⟨e, h1, rfl⟩ := mem_sts.mp hy
      exact hV _ (h.2.1 e h1))
  rw [List.length_cons] at this
  unfold sts at this
  rw [List.length_map] at this
  omega
theorem getD_some {L : List En} {i : Nat} (h : i < L.length) : L[i]? = some (L.getD i e0) := by
  rw [List.getD_eq_getElem?_getD, List.getElem?_eq_getElem h]
  rfl
theorem rnL_pre (mv : Nat → List Nat) (af : Nat → Nat → Nat) : ∀ (n i : Nat) (L : List En), L <+: rnL mv af n i L := by
  intro n
  induction n with
  | zero => intro i L; exact List.prefix_refl L
  | succ n ih =>
    intro i L
    rw [rnL]
    split
    · exact (spr_pre af _ _ _ L).trans (ih _ _)
    · exact List.prefix_refl L
theorem rnL_GL {V : Nat → Prop} {mv : Nat → List Nat} {af : Nat → Nat → Nat} {s0 : Nat} (hmv : ∀ x, V x → ∀ k ∈ mv x, V (af x k)) : ∀ (n i : Nat) (L : List En), GL V mv af s0 L → GL V mv af s0 (rnL mv af n i L) := by
  intro n
  induction n with
  | zero => intro i L h; exact h
  | succ n ih =>
    intro i L h
    rw [rnL]
    split
    · rename_i hi
      have hg := getD_some hi
      exact ih _ _ (spr_GL _ _ h hg (fun k hk => ⟨hk, hmv _ (h.2.1 _ (List.mem_of_getElem? hg)) k hk⟩))
    · exact h
/-- every move of the first n entries leads into the list -/
def CLn (mv : Nat → List Nat) (af : Nat → Nat → Nat) (n : Nat) (L : List En) : Prop := ∀ (j : Nat) (e : En), j < n → L[j]? = some e → ∀ k ∈ mv e.1, af e.1 k ∈ sts L
theorem CLn.step {mv : Nat → List Nat} {af : Nat → Nat → Nat} {n : Nat} {L : List En} (h : CLn mv af n L) (hn : n < L.length) : CLn mv af (n + 1) (spr af (L.getD n e0).1 (L.getD n e0).2.2.2 (mv (L.getD n e0).1) L) := by
  intro j e hj he k hk
  have hp := spr_pre af (L.getD n e0).1 (L.getD n e0).2.2.2 (mv (L.getD n e0).1) L
  have hjl : j < L.length := by omega
  have he2 : L[j]? = some e := by
    have h2 := pre_get hp (getD_some hjl)
    rw [he] at h2
    rw [getD_some hjl, Option.some.inj h2]
  by_cases q : j = n
  · subst q
    have e1 : L.getD j e0 = e := by
      have h3 := getD_some hjl
      rw [he2] at h3
      exact (Option.some.inj h3).symm
    rw [e1]
    exact spr_mem af _ _ _ _ k hk
  · exact pre_sts hp (h j e (by omega) he2 k hk)
theorem rnL_CL {V : Nat → Prop} {mv : Nat → List Nat} {af : Nat → Nat → Nat} {s0 : Nat} (hV : ∀ x, V x → x < 16384) (hmv : ∀ x, V x → ∀ k ∈ mv x, V (af x k)) : ∀ (n i : Nat) (L : List En), 16384 < n + i → GL V mv af s0 L → CLn mv af i L → ∀ m, CLn mv af m (rnL mv af n i L) := by
  intro n
  induction n with
  | zero =>
    intro i L hi h hc m j e _ he
    have hl := h.len hV
    have := (List.getElem?_eq_some_iff.mp he).1
    exact hc j e (by have h2 : (rnL mv af 0 i L).length = L.length := rfl; omega) he
  | succ n ih =>
    intro i L hi h hc m
    rw [rnL]
    split
    · rename_i hil
      have hg := getD_some hil
      exact ih _ _ (by omega) (spr_GL _ _ h hg (fun k hk => ⟨hk, hmv _ (h.2.1 _ (List.mem_of_getElem? hg)) k hk⟩)) (hc.step hil) m
    · rename_i hil
      intro j e _ he
      have := (List.getElem?_eq_some_iff.mp he).1
      exact hc j e (by omega) he
theorem GL_start {V : Nat → Prop} {mv : Nat → List Nat} {af : Nat → Nat → Nat} {s0 : Nat} (h : V s0) : GL V mv af s0 [(s0, 0, 0, 0)] := by
  refine ⟨by simp [sts], fun e he => ?_, rfl, fun j e he hj => ?_⟩
  · rw [List.mem_singleton] at he
    subst he
    exact h
  · have := (List.getElem?_eq_some_iff.mp he).1
    rw [List.length_singleton] at this
    omega
theorem bfs_GL {V : Nat → Prop} {mv : Nat → List Nat} {af : Nat → Nat → Nat} {s0 : Nat} (hmv : ∀ x, V x → ∀ k ∈ mv x, V (af x k)) (h : V s0) : GL V mv af s0 (bfs mv af s0) := rnL_GL hmv _ _ _ (GL_start h)
theorem bfs_CL {V : Nat → Prop} {mv : Nat → List Nat} {af : Nat → Nat → Nat} {s0 : Nat} (hV : ∀ x, V x → x < 16384) (hmv : ∀ x, V x → ∀ k ∈ mv x, V (af x k)) (h : V s0) {x k : Nat} (hx : x ∈ sts (bfs mv af s0)) (hk : k ∈ mv x) : af x k ∈ sts (bfs mv af s0) := by
  obtain ⟨e, h1, rfl⟩ := mem_sts.mp hx
  obtain ⟨j, hj⟩ := List.getElem?_of_mem h1
  exact rnL_CL hV hmv 16385 0 _ (by omega) (GL_start h) (fun j e hj => absurd hj (Nat.not_lt_zero j)) (j + 1) j e (by omega) hj k hk
theorem GL.mem0 {V : Nat → Prop} {mv : Nat → List Nat} {af : Nat → Nat → Nat} {s0 : Nat} {L : List En} (h : GL V mv af s0 L) : s0 ∈ sts L := mem_sts.mpr ⟨_, List.mem_of_getElem? h.2.2.1, rfl⟩
/-- what holds at the start and goes along moves holds in the whole list -/
theorem GL.all {V : Nat → Prop} {mv : Nat → List Nat} {af : Nat → Nat → Nat} {s0 : Nat} {L : List En} (h : GL V mv af s0 L) {Q : Nat → Prop} (h0 : Q s0) (hq : ∀ x, x ∈ sts L → Q x → ∀ k ∈ mv x, Q (af x k)) : ∀ x ∈ sts L, Q x := by
  have main : ∀ (n j : Nat) (e : En), j < n → L[j]? = some e → Q e.1 := by
    intro n
    induction n with
    | zero => intro j e hj; omega
    | succ n ih =>
      intro j e hj he
      by_cases q : j = 0
      · subst q
        rw [h.2.2.1] at he
        cases he
        exact h0
      · obtain ⟨i, p, q1, q2, q3, q4, q5, q6⟩ := h.2.2.2 j e he q
        rw [q6]
        exact hq _ (mem_sts.mpr ⟨p, List.mem_of_getElem? q2, rfl⟩) (ih i p (by omega) q2) _ q5
  intro x hx
  obtain ⟨e, h1, rfl⟩ := mem_sts.mp hx
  obtain ⟨j, hj⟩ := List.getElem?_of_mem h1
  exact main (j + 1) j e (by omega) hj
/-- equal moves on the way: equal searches -/
theorem rnL_congr {mv mv2 : Nat → List Nat} {af : Nat → Nat → Nat} {Q : Nat → Prop} (he : ∀ x, Q x → mv x = mv2 x) (hq : ∀ x, Q x → ∀ k ∈ mv x, Q (af x k)) : ∀ (n i : Nat) (L : List En), (∀ e ∈ L, Q e.1) → rnL mv af n i L = rnL mv2 af n i L := by
  have hs : ∀ (s d : Nat) (ks : List Nat) (L : List En), (∀ e ∈ L, Q e.1) → (∀ k ∈ ks, Q (af s k)) → ∀ e ∈ spr af s d ks L, Q e.1 := by
    intro s d ks
    induction ks with
    | nil => intro L h _; exact h
    | cons a ks ih =>
      intro L h hk
      refine ih _ ?_ (fun k hk2 => hk k (List.mem_cons_of_mem _ hk2))
      show ∀ e ∈ insE L (af s a) s a (d + 1), Q e.1
      unfold insE
      split
      · exact h
      · intro e he
        rcases List.mem_append.mp he with he | he
        · exact h e he
        · rw [List.mem_singleton] at he
          subst he
          exact hk a List.mem_cons_self
  intro n
  induction n with
  | zero => intro i L _; rfl
  | succ n ih =>
    intro i L h
    rw [rnL, rnL]
    split
    · rename_i hi
      have hx := h _ (List.mem_of_getElem? (getD_some hi))
      rw [← he _ hx]
      exact ih _ _ (hs _ _ _ _ h (fun k hk => hq _ hx k hk))
    · rfl
