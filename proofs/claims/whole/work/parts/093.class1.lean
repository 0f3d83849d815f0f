/-! the class's leaves -/
theorem nbool {b : Bool} {A B : Prop} {r : Int32} (h : r = nI b.toNat) (f : b = false → A) (g : b = true → B) : (r = 0 → A) ∧ (¬ r = 0 → B) := by
  subst h
  cases b
  · exact ⟨fun _ => f rfl, fun h => absurd rfl h⟩
  · exact ⟨fun h => absurd h (by decide), fun _ => g rfl⟩
theorem nbool' {b : Bool} {A B : Prop} {r : Int32} (h : r = nI b.toNat) (f : b = false → A) (g : b = true → B) : (¬ r = 0 → B) ∧ (r = 0 → A) := ⟨(nbool h f g).2, (nbool h f g).1⟩
theorem sp_isClause {x : Int32} {c : Nat} (hx : x = nI c) (hc : c < 5) {post : Int32 → Prop} (h : post 1) : wp_X7_isClause x post := by
  unfold wp_X7_isClause
  exact pk_lt c 0 (fun h => by omega) (fun _ => pk_le 5 c (fun h => by omega) (fun _ => h) rfl hx) hx
theorem sp_part {P : Nat → Int32} {x : Int32} (i : Nat) (hx : x = nI i) (hi : i < 120) {post : Int32 → Prop} (h : post (P i)) : wp_X2_part P x post := by
  unfold wp_X2_part
  subst hx
  refine pk_lt i 0 (fun h => by omega) (fun _ => pk_lt i 120 (fun _ => ⟨pk_in i 120 hi, ?_⟩) (fun h => by omega))
  rw [nI_clamp (by omega)]
  exact h
theorem sp_X0_clauseOf {x : Int32} {a : Nat} (hx : x = nI a) (ha : a < 2 ^ 31) {post : Int32 → Prop} (h : post (nI (a / 100))) : wp_X0_clauseOf x post := by
  unfold wp_X0_clauseOf
  subst hx
  have := pk_div (a := a) (d := 100) ha (by decide) (by decide)
  exact this ▸ h
theorem w_formA {a : Nat} (ha : a < 2 ^ 31) : (nI a / (10 : Int32)) - (nI a / (10 : Int32)) / (10 : Int32) * (10 : Int32) = nI (a / 10 % 10) := by
  have h1 : nI a / (10 : Int32) = nI (a / 10) := pk_div (a := a) (d := 10) ha (by decide) (by decide)
  rw [h1]
  exact pk_rem (a := a / 10) (d := 10) (by omega) (by decide) (by decide)
theorem sp_X0_formOf {x : Int32} {a : Nat} (hx : x = nI a) (ha : a < 2 ^ 31) {post : Int32 → Prop} (h : post (nI (a / 10 % 10))) : wp_X0_formOf x post := by
  unfold wp_X0_formOf
  subst hx
  rw [w_formA ha]
  exact h
theorem sp_X0_nth {x : Int32} {k : Nat} (hx : x = nI k) (hk : k < 20) {post : Int32 → Prop} (h : post (nI (actN k))) : wp_X0_nth x post := by
  unfold wp_X0_nth
  subst hx
  have h1 : nI k / (4 : Int32) = nI (k / 4) := pk_div (a := k) (d := 4) (by omega) (by decide) (by decide)
  have h2 : nI k - nI k / (4 : Int32) * (4 : Int32) = nI (k % 4) := pk_rem (a := k) (d := 4) (by omega) (by decide) (by decide)
  rw [h2, h1]
  have h3 : (100 : Int32) * nI (k / 4) = nI (100 * (k / 4)) := pk_mul 100 _
  have h4 : (10 : Int32) * nI (k % 4) = nI (10 * (k % 4)) := pk_mul 10 _
  rw [h3, h4, nI_add]
  exact h
theorem sp_X5_formOf {x y : Int32} {s c : Nat} (hx : x = nI s) (hy : y = nI c) (hs : s < 2 ^ 31) (hc : c < 5) {post : Int32 → Prop} (h : post (nI (fo s c))) : wp_X5_formOf x y post := by
  unfold wp_X5_formOf
  subst hx hy
  rw [w_formOf hs hc]
  exact h
theorem sp_X5_put {x y z : Int32} {s c f : Nat} (hx : x = nI s) (hy : y = nI c) (hz : z = nI f) (hs : s < 16384) (hc : c < 5) (hf : f < 4) {post : Int32 → Prop} (h : post (nI (pu s c f))) : wp_X5_put x y z post := by
  unfold wp_X5_put
  subst hx hy hz
  refine nm_e ?_
  rw [w_put hs hc hf]
  exact h
theorem sp_X5_make {x y z : Int32} {s t b : Nat} (hx : x = nI s) (hy : y = nI t) (hz : z = nI b) (hs : s < 16384) (ht : t < 4) (hb : b < 2) {post : Int32 → Prop} (h : post (nI (mk s t b))) : wp_X5_make x y z post := by
  unfold wp_X5_make
  subst hx hy hz
  refine nm_e ?_
  rw [w_make hs ht hb]
  exact h
theorem sp_X2_placeOf {x y : Int32} {c f : Nat} (hx : x = nI c) (hy : y = nI f) {post : Int32 → Prop} (h : post (nI (c * 4 + f))) : wp_X2_placeOf x y post := by
  unfold wp_X2_placeOf
  subst hx hy
  have h1 : nI c * (4 : Int32) = nI (c * 4) := pk_mul c 4
  rw [h1, nI_add]
  exact h
theorem sp_X2_rowOf {x y : Int32} {c f : Nat} (hx : x = nI c) (hy : y = nI f) {post : Int32 → Prop} (h : post (nI ((c * 4 + f) * 6))) : wp_X2_rowOf x y post := by
  unfold wp_X2_rowOf
  refine sp_X2_placeOf hx hy ?_
  have h1 : nI (c * 4 + f) * (6 : Int32) = nI ((c * 4 + f) * 6) := pk_mul _ 6
  rw [h1]
  exact h
/-- the law's rows, the masks of what forms hang on, seats: as the class holds them -/
def LH (t : Nat → Nat) (P hm hv : Nat → Int32) : Prop := ∀ c f, c < 5 → 1 ≤ f → f ≤ t c → ∀ s, s < 16384 → ((nI s &&& hm (c * 4 + f) = hv (c * 4 + f)) ↔ hgB P ((c * 4 + f) * 6) s = true)
theorem sp_inForce {t : Nat → Nat} {P hm hv : Nat → Int32} (hH : LH t P hm hv) (ht : ∀ c, c < 5 → t c ≤ 3) {x y : Int32} {s c : Nat} (hx : x = nI s) (hy : y = nI c) (hs : SV t s) (hc : c < 5) {post : Int32 → Prop} (h : post (nI (frc P s c).toNat)) : wp_X2_inForce hm hv x y post := by
  unfold wp_X2_inForce
  have hs1 := hs.1
  refine sp_X5_formOf hx hy (by omega) hc ?_
  refine sp_X2_placeOf hy rfl ?_
  have hf := fo_lt s c
  have hfr : frc P s c = (fo s c != 0 && hgB P (rwN c s) s) := rfl
  refine pk_eq (fo s c) 0 (fun h0 => ?_) (fun h0 => ?_)
  · rw [hfr, h0] at h
    exact h
  · refine pk_lt (c * 4 + fo s c) 0 (fun h => by omega) (fun _ => pk_lt (c * 4 + fo s c) 20 (fun _ => ?_) (fun h => by omega))
    refine ⟨pk_in _ 20 (by omega), pk_in _ 20 (by omega), ?_⟩
    rw [nI_clamp (by omega), hx]
    have hi := hH c (fo s c) hc (by omega) (hs.2 c hc) s hs1
    have h1 : (fo s c != 0) = true := by simp; omega
    rw [hfr, h1, Bool.true_and] at h
    refine ⟨fun q => ?_, fun q => ?_⟩
    · have : hgB P (rwN c s) s = false := by
        cases e : hgB P (rwN c s) s
        · rfl
        · exact absurd (hi.mpr e) q
      rw [this] at h
      exact h
    · have : hgB P (rwN c s) s = true := hi.mp q
      rw [this] at h
      exact h
theorem sp_addVotes {v : Nat → Int32} {x y : Int32} {b : Nat} (hx : x = nI b) (hb : b < 3) {post : (Nat → Int32) → Prop} (h : post (upd v b (v b + y))) : wp_X4_addVotes v x y post := by
  unfold wp_X4_addVotes
  subst hx
  refine pk_lt b 0 (fun h => by omega) (fun _ => pk_le 3 b (fun h => by omega) (fun _ => ⟨pk_in b 3 hb, pk_in b 3 hb, nm_e ?_⟩))
  rw [nI_clamp (by omega)]
  exact h
