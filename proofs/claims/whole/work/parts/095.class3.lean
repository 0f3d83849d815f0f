/-! the class: why not, lists of acts -/
theorem pk_eq' {x y : Int32} {A B : Prop} (a b : Nat) (g : a ≠ b → B) (f : a = b → A) (hx : x = nI a := by rfl) (hy : y = nI b := by rfl) (ha : a < 2 ^ 31 := by omega) (hb : b < 2 ^ 31 := by omega) : (¬ x = y → B) ∧ (x = y → A) := ⟨(pk_eq a b f g hx hy ha hb).2, (pk_eq a b f g hx hy ha hb).1⟩
def TD (t : Nat → Nat) (told : Nat → Int32) : Prop := ∀ c, c < 5 → told c = nI (t c)
theorem row0 {t : Nat → Nat} {P : Nat → Int32} (hP : LWP t P) {s c w : Nat} (hc : c < 5) (hw : w < 6) (z : fo s c = 0) : P (rwN c s + w) = -9 := by
  have e : rwN c s + w = c * 4 * 6 + w := by unfold rwN; rw [z]; omega
  rw [e]
  exact hP.2.2 c w hc hw
theorem sp_formsOf {t : Nat → Nat} {told : Nat → Int32} (hT : TD t told) {x : Int32} {c : Nat} (hx : x = nI c) (hc : c < 5) {post : Int32 → Prop} (h : post (nI (t c))) : wp_X2_formsOf told x post := by
  unfold wp_X2_formsOf
  subst hx
  refine pk_lt c 0 (fun h => by omega) (fun _ => pk_lt c 5 (fun _ => ⟨pk_in c 5 hc, ?_⟩) (fun h => by omega))
  rw [nI_clamp (by omega), hT c hc]
  exact h
theorem sp_gives {t : Nat → Nat} {P told : Nat → Int32} (hP : LWP t P) (hT : TD t told) {s k : Nat} (hs : SV t s) (hk : k < 20) {x : Int32} (hx : x = nI (k % 4)) {post : Int32 → Prop} (h : post (nI (givB t P 5 s k).toNat)) : wp_X4_gives told (P (rwN (k / 4) s)) (P (rwN (k / 4) s + 3)) x post := by
  unfold wp_X4_gives
  have hc : k / 4 < 5 := by omega
  have hk4 : k % 4 < 4 := by omega
  subst hx
  by_cases h0 : fo s (k / 4) = 0
  · have e : P (rwN (k / 4) s) = -9 := row0 hP (w := 0) hc (by decide) h0
    have hg : givB t P 5 s k = false := by unfold givB; simp [h0]
    rw [hg] at h
    rw [e]
    exact ⟨fun _ => ⟨fun q => absurd q (by decide), fun _ => ⟨fun _ => h, fun q => absurd q (by decide)⟩⟩, fun q => absurd q (by decide)⟩
  · have hwf := hP.wf hs hc h0
    have h0b : (fo s (k / 4) != 0) = true := by simp; exact h0
    unfold givB at h
    rw [h0b, Bool.true_and] at h
    refine ⟨fun q0 => ⟨fun q1 => pk_eq' (k % 4) 0 (fun e => ?_) (fun e => ?_), fun q1 => ⟨fun q2 => ?_, fun q2 => pk_eq' (k % 4) 0 (fun e => ?_) (fun e => ?_)⟩⟩, fun q0 => ?_⟩
    · rw [if_neg e] at h; simp [q1] at h; exact h
    · rw [if_pos e] at h; simp [q1] at h; exact h
    · by_cases e : k % 4 = 0
      · rw [if_pos e] at h; simp [q1, q2] at h; exact h
      · rw [if_neg e] at h; simp [q0] at h; exact h
    · rw [if_neg e] at h; simp [q2] at h; exact h
    · rw [if_pos e] at h; simp [q2] at h; exact h
    · refine pk_lt (k % 4) 1 (fun e => ?_) (fun e => ?_)
      · have e : k % 4 = 0 := by omega
        rw [if_pos e] at h; simp [q0] at h; exact h
      · have e3 := (hwf.ch (Or.inl q0)).2.2.val
        have e : ¬ k % 4 = 0 := by omega
        rw [if_neg e] at h
        have e5 : (5 != Pn P (rwN (k / 4) s + 3)) = true := by simp; omega
        rw [q0, e5] at h
        refine sp_formsOf hT e3.1 (by omega) ?_
        have ht := hP.1 (Pn P (rwN (k / 4) s + 3)) (by omega)
        refine pk_lt _ _ (fun z => ?_) (fun z => ?_)
        · have : ¬ (k % 4 ≤ t (Pn P (rwN (k / 4) s + 3))) := by omega
          simp [this] at h; exact h
        · have : k % 4 ≤ t (Pn P (rwN (k / 4) s + 3)) := z
          simp [this] at h; exact h
