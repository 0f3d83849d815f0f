/-! the law in numbers -/
def bt (m c : Nat) : Bool := m / 2 ^ c % 2 == 1
def sm (f : Nat → Nat) : Nat → Nat
  | 0 => 0
  | n + 1 => sm f n + f n
def anyN (f : Nat → Bool) : Nat → Bool
  | 0 => false
  | n + 1 => anyN f n || f n
def soN (g s : Nat) : Bool := if g < 100 then th s (g / 10) == g % 10 else fo s (g / 10 - 10) == g % 10
def goalN (g : Nat) : Prop := (g < 100 ∧ g / 10 < 4 ∧ g % 10 ≤ 1) ∨ (100 ≤ g ∧ g < 150 ∧ g % 10 ≤ 3)
def rwN (c s : Nat) : Nat := (c * 4 + fo s c) * 6
def Pn (P : Nat → Int32) (i : Nat) : Nat := (P i).toNatClampNeg
def hgB (P : Nat → Int32) (r s : Nat) : Bool := if P (r + 5) = -9 then true else soN (Pn P (r + 5)) s
def frc (P : Nat → Int32) (s c : Nat) : Bool := fo s c != 0 && hgB P (rwN c s) s
def ownT (G : Nat → Nat) (set b g : Nat) : Nat := if bt set g then G (b * 4 + g) else 0
def ownV (G : Nat → Nat) (set b : Nat) : Nat := sm (ownT G set b) 4
def exT (P : Nat → Int32) (set s b c : Nat) : Nat := if frc P s c && decide (P (rwN c s) = 4) && Pn P (rwN c s + 1) == b && bt set (Pn P (rwN c s + 2)) then Pn P (rwN c s + 3) else 0
def votesN (P : Nat → Int32) (G : Nat → Nat) (set s b : Nat) : Nat := ownV G set b + sm (exT P set s b) 5
def baT (P : Nat → Int32) (s x c : Nat) : Bool := frc P s c && decide (P (rwN c s) = 3) && Pn P (rwN c s + 1) == x
def barB (P : Nat → Int32) (bars s x : Nat) : Bool := bt bars x || anyN (baT P s x) 5
def aft (P : Nat → Int32) (s k : Nat) : Nat := if P (rwN (k / 4) s) = 2 then mk s (Pn P (rwN (k / 4) s + 3)) (Pn P (rwN (k / 4) s + 4)) else pu s (Pn P (rwN (k / 4) s + 3)) (k % 4)
/-- whether the clause gives such an act; np: a clause that can't be put (5: none) -/
def givB (t : Nat → Nat) (P : Nat → Int32) (np s k : Nat) : Bool :=
  fo s (k / 4) != 0 && (if k % 4 = 0 then decide (P (rwN (k / 4) s) = 1) || decide (P (rwN (k / 4) s) = 2) else decide (P (rwN (k / 4) s) = 0) && decide (k % 4 ≤ t (Pn P (rwN (k / 4) s + 3))) && np != Pn P (rwN (k / 4) s + 3))
def whyN (t : Nat → Nat) (P : Nat → Int32) (G : Nat → Nat) (set bars np s k : Nat) : Nat :=
  if givB t P np s k = false then 1
  else if frc P s (k / 4) = false then 2
  else if votesN P G set s (Pn P (rwN (k / 4) s + 1)) < Pn P (rwN (k / 4) s + 2) then 3
  else if P (rwN (k / 4) s) ≠ 2 ∧ barB P bars s (Pn P (rwN (k / 4) s + 3)) = true then 4
  else if aft P s k = s then 5 else 0
def actN (k : Nat) : Nat := 100 * (k / 4) + 10 * (k % 4)
def numAt (P : Nat → Int32) (i lo hi : Nat) : Prop := ∃ n, P i = nI n ∧ lo ≤ n ∧ n ≤ hi
/-- a row that is a form -/
def WF (P : Nat → Int32) (r : Nat) : Prop :=
  ((P r = 0 ∧ numAt P (r + 1) 0 2 ∧ numAt P (r + 2) 1 99 ∧ numAt P (r + 3) 0 4 ∧ P (r + 4) = -9) ∨
   (P r = 1 ∧ numAt P (r + 1) 0 2 ∧ numAt P (r + 2) 1 99 ∧ numAt P (r + 3) 0 4 ∧ P (r + 4) = -9) ∨
   (P r = 2 ∧ numAt P (r + 1) 0 2 ∧ numAt P (r + 2) 1 99 ∧ numAt P (r + 3) 0 3 ∧ numAt P (r + 4) 0 1) ∨
   (P r = 3 ∧ numAt P (r + 1) 0 4 ∧ P (r + 2) = -9 ∧ P (r + 3) = -9 ∧ P (r + 4) = -9) ∨
   (P r = 4 ∧ numAt P (r + 1) 0 2 ∧ numAt P (r + 2) 0 3 ∧ numAt P (r + 3) 1 99 ∧ P (r + 4) = -9)) ∧
  (P (r + 5) = -9 ∨ ∃ g, P (r + 5) = nI g ∧ goalN g)
theorem numAt.val {P : Nat → Int32} {i lo hi : Nat} (h : numAt P i lo hi) (hb : hi < 1000 := by omega) : P i = nI (Pn P i) ∧ lo ≤ Pn P i ∧ Pn P i ≤ hi := by
  obtain ⟨n, e, h1, h2⟩ := h
  have : Pn P i = n := by unfold Pn; rw [e]; exact nI_clamp (by omega)
  rw [this]
  exact ⟨e, h1, h2⟩
theorem goalN.lt {g : Nat} (h : goalN g) : g < 150 := by unfold goalN at h; omega
/-- a state of the law: forms that are told -/
def SV (t : Nat → Nat) (s : Nat) : Prop := s < 16384 ∧ ∀ c, c < 5 → fo s c ≤ t c
/-- the forms of the law (the class's rows) -/
def LWP (t : Nat → Nat) (P : Nat → Int32) : Prop := (∀ c, c < 5 → t c ≤ 3) ∧ (∀ c f, c < 5 → 1 ≤ f → f ≤ t c → WF P ((c * 4 + f) * 6)) ∧ ∀ c w, c < 5 → w < 6 → P (c * 4 * 6 + w) = -9
def LG (G : Nat → Nat) : Prop := ∀ i, i < 12 → G i ≤ 99
theorem fo_lt (s c : Nat) : fo s c < 4 := Nat.mod_lt _ (by decide)
theorem LWP.wf {t : Nat → Nat} {P : Nat → Int32} (h : LWP t P) {s c : Nat} (hs : SV t s) (hc : c < 5) (h0 : fo s c ≠ 0) : WF P (rwN c s) := h.2.1 c (fo s c) hc (by omega) (hs.2 c hc)
theorem rwN_lt {s c : Nat} (hc : c < 5) : rwN c s + 5 < 120 := by
  have := fo_lt s c
  unfold rwN
  omega
theorem WF.letter {P : Nat → Int32} {r : Nat} (h : WF P r) : P r = 0 ∨ P r = 1 ∨ P r = 2 ∨ P r = 3 ∨ P r = 4 := by
  obtain ⟨h, -⟩ := h
  rcases h with h | h | h | h | h
  · exact Or.inl h.1
  · exact Or.inr (Or.inl h.1)
  · exact Or.inr (Or.inr (Or.inl h.1))
  · exact Or.inr (Or.inr (Or.inr (Or.inl h.1)))
  · exact Or.inr (Or.inr (Or.inr (Or.inr h.1)))
theorem WF.do_ {P : Nat → Int32} {r : Nat} (h : WF P r) (e : P r = 2) : numAt P (r + 1) 0 2 ∧ numAt P (r + 2) 1 99 ∧ numAt P (r + 3) 0 3 ∧ numAt P (r + 4) 0 1 := by
  obtain ⟨h, -⟩ := h
  rcases h with h | h | h | h | h
  · rw [e] at h; exact absurd h.1 (by decide)
  · rw [e] at h; exact absurd h.1 (by decide)
  · exact h.2
  · rw [e] at h; exact absurd h.1 (by decide)
  · rw [e] at h; exact absurd h.1 (by decide)
theorem WF.ch {P : Nat → Int32} {r : Nat} (h : WF P r) (e : P r = 0 ∨ P r = 1) : numAt P (r + 1) 0 2 ∧ numAt P (r + 2) 1 99 ∧ numAt P (r + 3) 0 4 := by
  obtain ⟨h, -⟩ := h
  rcases h with h | h | h | h | h
  · exact ⟨h.2.1, h.2.2.1, h.2.2.2.1⟩
  · exact ⟨h.2.1, h.2.2.1, h.2.2.2.1⟩
  · rw [h.1] at e; rcases e with e | e <;> exact absurd e (by decide)
  · rw [h.1] at e; rcases e with e | e <;> exact absurd e (by decide)
  · rw [h.1] at e; rcases e with e | e <;> exact absurd e (by decide)
theorem WF.bar {P : Nat → Int32} {r : Nat} (h : WF P r) (e : P r = 3) : numAt P (r + 1) 0 4 := by
  obtain ⟨h, -⟩ := h
  rcases h with h | h | h | h | h
  · rw [e] at h; exact absurd h.1 (by decide)
  · rw [e] at h; exact absurd h.1 (by decide)
  · rw [e] at h; exact absurd h.1 (by decide)
  · exact h.2.1
  · rw [e] at h; exact absurd h.1 (by decide)
theorem WF.seats {P : Nat → Int32} {r : Nat} (h : WF P r) (e : P r = 4) : numAt P (r + 1) 0 2 ∧ numAt P (r + 2) 0 3 ∧ numAt P (r + 3) 1 99 := by
  obtain ⟨h, -⟩ := h
  rcases h with h | h | h | h | h
  · rw [e] at h; exact absurd h.1 (by decide)
  · rw [e] at h; exact absurd h.1 (by decide)
  · rw [e] at h; exact absurd h.1 (by decide)
  · rw [e] at h; exact absurd h.1 (by decide)
  · exact ⟨h.2.1, h.2.2.1, h.2.2.2.1⟩
theorem bt_iff (m c : Nat) : bt m c = true ↔ m / 2 ^ c % 2 = 1 := by unfold bt; simp
theorem bt_zero (m c : Nat) : bt m c = false ↔ m / 2 ^ c % 2 = 0 := by
  unfold bt
  have := Nat.mod_lt (m / 2 ^ c) (show 0 < 2 by decide)
  simp
theorem w_bit {m c : Nat} (hm : m < 2 ^ 31) (hc : c < 5) : (nI m >>> (nI c &&& 31)) &&& (1 : Int32) = nI (m / 2 ^ c % 2) := by
  rcases lt5 hc with rfl | rfl | rfl | rfl | rfl
  · rw [pk_shrN hm _ 0 (by decide), pk_andN (by omega) 1 (by decide)]
  · rw [pk_shrN hm _ 1 (by decide), pk_andN (by omega) 1 (by decide)]
  · rw [pk_shrN hm _ 2 (by decide), pk_andN (by omega) 1 (by decide)]
  · rw [pk_shrN hm _ 3 (by decide), pk_andN (by omega) 1 (by decide)]
  · rw [pk_shrN hm _ 4 (by decide), pk_andN (by omega) 1 (by decide)]
theorem w_shl {c : Nat} (hc : c < 5) : (1 : Int32) <<< (nI c &&& 31) = nI (2 ^ c) := by
  rcases lt5 hc with rfl | rfl | rfl | rfl | rfl <;> decide
theorem bt_set : ∀ m, m < 32 → ∀ x, x < 5 → Nat.lor m (2 ^ x) < 32 ∧ ∀ c, c < 5 → bt (Nat.lor m (2 ^ x)) c = (bt m c || decide (c = x)) := by decide +kernel
theorem w_set {m x : Nat} (hm : m < 32) (hx : x < 5) : nI m ||| ((1 : Int32) <<< (nI x &&& 31)) = nI (Nat.lor m (2 ^ x)) := by
  rw [w_shl hx, nb_or (by omega)]
  have : 2 ^ x < 2 ^ 5 := Nat.pow_lt_pow_right (by decide) hx
  omega
theorem sm_le {f : Nat → Nat} {B : Nat} : ∀ n, (∀ i, i < n → f i ≤ B) → sm f n ≤ n * B := by
  intro n
  induction n with
  | zero => intro _; exact Nat.zero_le _
  | succ n ih =>
    intro h
    have h1 := ih (fun i hi => h i (by omega))
    have h2 := h n (by omega)
    show sm f n + f n ≤ (n + 1) * B
    rw [Nat.succ_mul]
    omega
theorem ownT_le {G : Nat → Nat} (hG : LG G) {set b g : Nat} (hb : b < 3) (hg : g < 4) : ownT G set b g ≤ 99 := by
  unfold ownT
  split
  · exact hG _ (by omega)
  · omega
theorem ownV_le {G : Nat → Nat} (hG : LG G) {set b : Nat} (hb : b < 3) : ownV G set b ≤ 396 := sm_le 4 (fun i hi => ownT_le hG hb hi)
theorem exT_le {t : Nat → Nat} {P : Nat → Int32} (hP : LWP t P) {set s b c : Nat} (hs : SV t s) (hc : c < 5) : exT P set s b c ≤ 99 := by
  unfold exT
  split
  · rename_i h
    simp only [Bool.and_eq_true, decide_eq_true_eq] at h
    have h0 : fo s c ≠ 0 := by
      have := h.1.1.1
      unfold frc at this
      simp only [Bool.and_eq_true, bne_iff_ne] at this
      exact this.1
    exact ((hP.wf hs hc h0).seats h.1.1.2).2.2.val.2.2
  · omega
theorem actN_lt {k : Nat} (hk : k < 20) : actN k ≤ 430 := by unfold actN; omega
theorem actN_div {k : Nat} (hk : k < 20) : actN k / 100 = k / 4 := by unfold actN; omega
theorem actN_mod {k : Nat} (hk : k < 20) : actN k / 10 % 10 = k % 4 := by unfold actN; omega
theorem actN_ten {k : Nat} (hk : k < 20) : actN k % 10 = 0 := by unfold actN; omega
