/-! the reference's search -/
def umT (t : Nat → Nat) (P : Nat → Int32) (G : Nat → Nat) (set oth bars np s n : Nat) : List Nat := (List.range n).filter (fun k => whyN t P G set bars np s k == 0 || (oth != set && whyN t P G oth bars np s k == 0))
def umv (t : Nat → Nat) (P : Nat → Int32) (G : Nat → Nat) (set oth bars np s : Nat) : List Nat := umT t P G set oth bars np s 20
theorem umv_same (t : Nat → Nat) (P : Nat → Int32) (G : Nat → Nat) (set bars np : Nat) : umv t P G set set bars np = mvs t P G set bars np := by
  funext s
  unfold umv umT mvs mvT
  congr 1
  funext k
  simp
theorem umT_mem {t : Nat → Nat} {P : Nat → Int32} {G : Nat → Nat} {set oth bars np s n k : Nat} : k ∈ umT t P G set oth bars np s n ↔ k < n ∧ (whyN t P G set bars np s k = 0 ∨ (oth ≠ set ∧ whyN t P G oth bars np s k = 0)) := by
  unfold umT
  simp
theorem umT_succ {t : Nat → Nat} {P : Nat → Int32} {G : Nat → Nat} {set oth bars np s n : Nat} : umT t P G set oth bars np s (n + 1) = umT t P G set oth bars np s n ++ (if whyN t P G set bars np s n = 0 ∨ (oth ≠ set ∧ whyN t P G oth bars np s n = 0) then [n] else []) := by
  unfold umT
  rw [List.range_succ, List.filter_append]
  congr 1
  by_cases h : whyN t P G set bars np s n = 0 ∨ (oth ≠ set ∧ whyN t P G oth bars np s n = 0)
  · rw [if_pos h]
    have : (whyN t P G set bars np s n == 0 || (oth != set && whyN t P G oth bars np s n == 0)) = true := by simpa using h
    simp [this]
  · rw [if_neg h]
    have : (whyN t P G set bars np s n == 0 || (oth != set && whyN t P G oth bars np s n == 0)) = false := by
      cases e : (whyN t P G set bars np s n == 0 || (oth != set && whyN t P G oth bars np s n == 0))
      · rfl
      · exact absurd (by simpa using e) h
    simp [this]
theorem umv_ok {t : Nat → Nat} {P : Nat → Int32} (hP : LWP t P) {G : Nat → Nat} {set oth bars np : Nat} : ∀ x, SV t x → ∀ k ∈ umv t P G set oth bars np x, SV t (aft P x k) := by
  intro x hx k hk
  obtain ⟨h1, h2⟩ := umT_mem.mp hk
  rcases h2 with h2 | ⟨-, h2⟩
  · exact giv_aft hP hx h1 (why_giv h2)
  · exact giv_aft hP hx h1 (why_giv h2)
def MLW (t : Nat → Nat) (P : Nat → Int32) (G : Nat → Nat) (forms formMany seats : Nat → Int32) : Prop := MF t P forms ∧ LWP t P ∧ TD t formMany ∧ SD G seats ∧ LG G
/-- what the reference's rows hold of a search -/
def MS (L : List En) (far queue frm by_ : Nat → Int32) (many : Int32) : Prop :=
  many = nI L.length ∧ (∀ (j : Nat) (e : En), L[j]? = some e → queue j = nI (ph e.1) ∧ far (ph e.1) = nI e.2.2.2 ∧ (j ≠ 0 → frm (ph e.1) = nI (ph e.2.1) ∧ by_ (ph e.1) = nI (actN e.2.2.1))) ∧ ∀ x, x < 16384 → x ∉ sts L → far (ph x) = -9
theorem why_lt {t : Nat → Nat} {P : Nat → Int32} {G : Nat → Nat} {set bars np s k : Nat} : whyN t P G set bars np s k < 6 := by
  unfold whyN
  repeat' split
  all_goals decide
theorem sp8_act {k : Nat} (hk : k < 20) : ((100 : Int32) * (nI k / (4 : Int32))) + ((10 : Int32) * (nI k - nI k / (4 : Int32) * (4 : Int32))) = nI (actN k) := by
  have h1 : nI k / (4 : Int32) = nI (k / 4) := pk_div (a := k) (d := 4) (by omega) (by decide) (by decide)
  have h2 : nI k - nI k / (4 : Int32) * (4 : Int32) = nI (k % 4) := pk_rem (a := k) (d := 4) (by omega) (by decide) (by decide)
  rw [h2, h1]
  have h3 : (100 : Int32) * nI (k / 4) = nI (100 * (k / 4)) := pk_mul 100 _
  have h4 : (10 : Int32) * nI (k % 4) = nI (10 * (k % 4)) := pk_mul 10 _
  rw [h3, h4, nI_add]
  rfl
theorem ph_ne {x y : Nat} (hx : x < 16384) (hy : y < 16384) (h : x ≠ y) : ph x ≠ ph y := fun z => h (ph_inj hx hy z)
theorem MS.ins {t : Nat → Nat} {mv : Nat → List Nat} {P : Nat → Int32} {s0 : Nat} {L : List En} (hL : GL (SV t) mv (aft P) s0 L) {far queue frm by_ : Nat → Int32} {many : Int32} (hM : MS L far queue frm by_ many) {x k : Nat} {p : En} (hx : x < 16384) (hn : x ∉ sts L) : MS (L ++ [(x, p.1, k, p.2.2.2 + 1)]) (upd far (ph x) (nI (p.2.2.2 + 1))) (upd queue L.length (nI (ph x))) (upd frm (ph x) (nI (ph p.1))) (upd by_ (ph x) (nI (actN k))) (nI (L.length + 1)) := by
  obtain ⟨h1, h2, h3⟩ := hM
  refine ⟨by rw [List.length_append]; rfl, fun j e he => ?_, fun y hy hyn => ?_⟩
  · by_cases hj : j < L.length
    · rw [List.getElem?_append_left hj] at he
      have hem := List.mem_of_getElem? he
      have hne : ph e.1 ≠ ph x := ph_ne (hL.2.1 e hem).1 hx (fun z => hn (mem_sts.mpr ⟨e, hem, z⟩))
      rw [pk_un (by omega), pk_un hne, pk_un hne, pk_un hne]
      exact h2 j e he
    · rw [List.getElem?_append_right (by omega)] at he
      have hz : j - L.length < 1 := (List.getElem?_eq_some_iff.mp he).1
      have hz0 : j - L.length = 0 := by omega
      rw [hz0] at he
      simp at he
      subst he
      have hjl : j = L.length := by omega
      subst hjl
      rw [pk_us, pk_us, pk_us, pk_us]
      exact ⟨rfl, rfl, fun _ => ⟨rfl, rfl⟩⟩
  · have hyn1 : y ∉ sts L := fun z => hyn (pre_sts (List.prefix_append L _) z)
    have hyn2 : y ≠ x := fun z => hyn (mem_sts.mpr ⟨(x, p.1, k, p.2.2.2 + 1), List.mem_append_right _ List.mem_cons_self, z.symm⟩)
    rw [pk_un (ph_ne hy hx hyn2)]
    exact h3 y hy hyn1
theorem sp8_wave {t : Nat → Nat} {P forms formMany seats : Nat → Int32} {G : Nat → Nat} (hW : MLW t P G forms formMany seats) {bars np : Nat} {ba noPut : Int32} (hB : BA bars ba) (hN : NPt np noPut) {set oth s0 : Nat} (hset : set < 16) (hoth : oth < 16) (hs : SV t s0) {x y z : Int32} (hx : x = nI (ph s0)) (hy : y = nI set) (hz : z = nI oth) {far queue frm by_ : Nat → Int32} {many : Int32} {post : (Nat → Int32) → (Nat → Int32) → (Nat → Int32) → (Nat → Int32) → Int32 → Prop}
    (h : ∀ fa q fr b m, MS (bfs (umv t P G set oth bars np) (aft P) s0) fa q fr b m → post fa q fr b m) : wp_X8_wave forms formMany seats ba noPut far queue frm by_ many x y z post := by
  obtain ⟨hM, hP, hT, hD, hG⟩ := id hW
  subst hx hy hz
  have hs1 := hs.1
  have hps := ph_lt hs1
  -- the acts from one state
  have inner : ∀ (K : (Nat → Int32) → (Nat → Int32) → (Nat → Int32) → (Nat → Int32) → Int32 → Int32 → Int32 → Int32 → Prop) (L0 : List En) (i : Nat) (p : En), GL (SV t) (umv t P G set oth bars np) (aft P) s0 L0 → L0[i]? = some p → i < 16384 →
      (∀ fa q fr b m, MS (spr (aft P) p.1 p.2.2.2 (umv t P G set oth bars np p.1) L0) fa q fr b m → K fa q fr b m (nI set) (nI oth) (nI (i + 1))) →
      ∀ n k, k ≤ 20 → 20 < n + k → ∀ fa q fr b m, MS (spr (aft P) p.1 p.2.2.2 (umT t P G set oth bars np p.1 k) L0) fa q fr b m → wpL_X8_wave_69 forms formMany seats ba noPut K post n fa q fr b m (nI set) (nI oth) (nI i) (nI (ph p.1)) (nI k) := by
    intro K L0 i p hL0 hp hi hK n
    have hpv : SV t p.1 := hL0.2.1 p (List.mem_of_getElem? hp)
    have hp1 := hpv.1
    have hpp := ph_lt hp1
    induction n with
    | zero => intro k h1 h2; omega
    | succ n ih =>
      intro k h1 h2 fa q fr b m hMS
      rw [wpL_X8_wave_69]
      refine pk_le 20 k (fun h5 => ?_) (fun h5 => ?_)
      · have : k = 20 := by omega
        subst this
        exact nm_r (nI_1 i) (hK _ _ _ _ _ hMS)
      · refine nm_r (sp8_act h5) ?_
        have hwl := why_lt (t := t) (P := P) (G := G) (set := set) (bars := bars) (np := np) (s := p.1) (k := k)
        have hwl2 := why_lt (t := t) (P := P) (G := G) (set := oth) (bars := bars) (np := np) (s := p.1) (k := k)
        have next := ih (k + 1) (by omega) (by omega)
        have skip : ¬ (whyN t P G set bars np p.1 k = 0 ∨ (oth ≠ set ∧ whyN t P G oth bars np p.1 k = 0)) → ∀ w : Int32, w = nI k + 1 → wpL_X8_wave_69 forms formMany seats ba noPut K post n fa q fr b m (nI set) (nI oth) (nI i) (nI (ph p.1)) w := by
          intro hno
          refine nm_r (nI_1 k) (next _ _ _ _ _ ?_)
          rw [umT_succ, if_neg hno, List.append_nil]
          exact hMS
        have take : (whyN t P G set bars np p.1 k = 0 ∨ (oth ≠ set ∧ whyN t P G oth bars np p.1 k = 0)) → wpJ_X8_wave_122 forms formMany seats ba noPut K (fun y0 y1 y2 y3 y4 y5 y6 y7 y8 y9 => wpL_X8_wave_69 forms formMany seats ba noPut K post n y0 y1 y2 y3 y4 y5 y6 y7 y8 y9) post fa q fr b m (nI set) (nI oth) (nI i) (nI (ph p.1)) (nI k) (nI (actN k)) := by
          intro hyes
          have hg : givB t P np p.1 k = true := by
            rcases hyes with w | ⟨-, w⟩
            · exact why_giv w
            · exact why_giv w
          have hav := giv_aft hP hpv h5 hg
          have ha1 := hav.1
          have hpa := ph_lt ha1
          have hGk : GL (SV t) (umv t P G set oth bars np) (aft P) s0 (spr (aft P) p.1 p.2.2.2 (umT t P G set oth bars np p.1 k) L0) := spr_GL _ _ hL0 hp (fun k2 hk2 => by
            obtain ⟨w1, w2⟩ := umT_mem.mp hk2
            have hm : k2 ∈ umv t P G set oth bars np p.1 := umT_mem.mpr ⟨by omega, w2⟩
            exact ⟨hm, umv_ok hP _ hpv k2 hm⟩)
          have hpk := pre_get (spr_pre (aft P) p.1 p.2.2.2 (umT t P G set oth bars np p.1 k) L0) hp
          unfold wpJ_X8_wave_122
          refine sp8_done hM hP hpv h5 hg rfl rfl ?_
          refine ⟨pk_in _ 16384 hpa, ?_⟩
          rw [nI_clamp (by omega)]
          have next2 : ∀ fa2 q2 fr2 b2 m2, MS (insE (spr (aft P) p.1 p.2.2.2 (umT t P G set oth bars np p.1 k) L0) (aft P p.1 k) p.1 k (p.2.2.2 + 1)) fa2 q2 fr2 b2 m2 → wpL_X8_wave_69 forms formMany seats ba noPut K post n fa2 q2 fr2 b2 m2 (nI set) (nI oth) (nI i) (nI (ph p.1)) (nI (k + 1)) := by
            intro fa2 q2 fr2 b2 m2 hM2
            refine next _ _ _ _ _ ?_
            rw [umT_succ, if_pos hyes]
            unfold spr at hM2 ⊢
            rw [List.foldl_append]
            exact hM2
          unfold insE at next2
          generalize spr (aft P) p.1 p.2.2.2 (umT t P G set oth bars np p.1 k) L0 = Lk at hMS hGk hpk next2
          obtain ⟨e1, e2, e3⟩ := id hMS
          by_cases hin : aft P p.1 k ∈ sts Lk
          · rw [if_pos hin] at next2
            obtain ⟨e, w1, w2⟩ := mem_sts.mp hin
            obtain ⟨j, hj⟩ := List.getElem?_of_mem w1
            have hfar := (e2 j e hj).2.1
            rw [w2] at hfar
            refine ⟨fun _ => nm_r (nI_1 k) (next2 _ _ _ _ _ hMS), fun w => ?_⟩
            rw [hfar] at w
            have hd := hGk.dlt w1
            exact absurd (w ▸ nI_pos' (n := e.2.2.2) (by omega)) (by decide)
          · rw [if_neg hin] at next2
            have hlen := hGk.len_new (fun _ w => w.1) ha1 hin
            refine ⟨fun w => absurd (e3 _ ha1 hin) w, fun _ => ⟨pk_in _ 16384 hpp, ?_⟩⟩
            rw [nI_clamp (by omega), (e2 i p hpk).2.1, e1]
            have e4 : nI p.2.2.2 + (1 : Int32) = nI (p.2.2.2 + 1) := nI_1 _
            rw [e4]
            refine ⟨pk_in _ 16384 hpa, nm_e ⟨pk_in _ 16384 hpa, nm_e ⟨pk_in _ 16384 hpa, nm_e ⟨pk_in _ 16384 hlen, nm_e (nm_r (nI_1 _) (nm_r (nI_1 k) ?_))⟩⟩⟩⟩
            rw [nI_clamp (by omega)]
            exact next2 _ _ _ _ _ (hMS.ins hGk ha1 hin)
        refine sp8_whyNot hM hP hT hD hG hB hN hpv hset h5 rfl rfl rfl ?_
        refine pk_eq _ 0 (fun w => take (Or.inl w)) (fun w => ?_)
        refine pk_eq oth set (fun w2 => skip (fun w3 => ?_)) (fun w2 => ?_)
        · rcases w3 with w3 | w3
          · exact w w3
          · exact w3.1 w2
        · refine sp8_whyNot hM hP hT hD hG hB hN hpv hoth h5 rfl rfl rfl ?_
          refine pk_eq' _ 0 (fun w4 => skip (fun w3 => ?_)) (fun w4 => take (Or.inr ⟨w2, w4⟩))
          rcases w3 with w3 | w3
          · exact w w3
          · exact w4 w3.2
  -- the queue
  have outer : ∀ n i, 16384 < n + i → ∀ L, bfs (umv t P G set oth bars np) (aft P) s0 = rnL (umv t P G set oth bars np) (aft P) n i L → GL (SV t) (umv t P G set oth bars np) (aft P) s0 L → i ≤ L.length → ∀ fa q fr b m, MS L fa q fr b m → wpL_X8_wave_48 forms formMany seats ba noPut post (n + 1) fa q fr b m (nI set) (nI oth) (nI i) := by
    intro n
    induction n with
    | zero =>
      intro i hi L he hL hil fa q fr b m hMS
      have := hL.len (fun _ q => q.1)
      omega
    | succ n ih =>
      intro i hi L he hL hil fa q fr b m hMS
      have hlen := hL.len (fun _ q => q.1)
      rw [wpL_X8_wave_48, hMS.1]
      refine pk_le L.length i (fun h5 => ?_) (fun h5 => ?_)
      · rw [rnL_end h5] at he
        rw [← hMS.1]
        exact h _ _ _ _ _ (he ▸ hMS)
      · refine ⟨pk_in i 16384 (by omega), ?_⟩
        have hgd := getD_some h5
        rw [nI_clamp (by omega), ← hMS.1]
        refine nm_r ((hMS.2.1 i _ hgd).1) ⟨21, ?_⟩
        refine inner _ L i (L.getD i e0) hL hgd (by omega) (fun fa2 q2 fr2 b2 m2 hM2 => ?_) 21 0 (by omega) (by omega) _ _ _ _ _ hMS
        refine ih (i + 1) (by omega) _ ?_ ?_ ?_ _ _ _ _ _ hM2
        · rw [he, rnL_step h5]
        · exact spr_GL _ _ hL hgd (fun k hk => ⟨hk, umv_ok hP _ (hL.2.1 _ (List.mem_of_getElem? hgd)) k hk⟩)
        · exact Nat.le_trans (Nat.succ_le_of_lt h5) (spr_pre _ _ _ _ L).length_le
  -- the cleaning
  unfold wp_X8_wave
  have clean : ∀ n i, i ≤ 16384 → 16384 < n + i → ∀ fa : Nat → Int32, (∀ j, j < i → fa j = -9) → wpL_X8_wave_3 forms formMany seats ba noPut post n fa queue frm by_ many (nI (ph s0)) (nI set) (nI oth) (nI i) := by
    intro n
    induction n with
    | zero => intro i h1 h2; omega
    | succ n ih =>
      intro i h1 h2 fa hfa
      rw [wpL_X8_wave_3]
      refine pk_le 16384 i (fun h5 => ?_) (fun h5 => ?_)
      · unfold wpJ_X8_wave_26
        refine ⟨pk_in _ 16384 hps, nm_e ⟨pk_in 0 16384 (by decide), nm_e ⟨16386, ?_⟩⟩⟩
        rw [nI_clamp (by omega)]
        refine outer 16385 0 (by omega) [(s0, 0, 0, 0)] rfl (GL_start hs) (by simp) _ _ _ _ _ ⟨rfl, fun j e he => ?_, fun y hy hyn => ?_⟩
        · have hj : j = 0 := by
            have := (List.getElem?_eq_some_iff.mp he).1
            rw [List.length_singleton] at this
            omega
          subst hj
          cases he
          refine ⟨pk_us, pk_us, fun z => absurd rfl z⟩
        · have hne : y ≠ s0 := fun z => hyn (by rw [z]; simp [sts])
          rw [pk_un (ph_ne hy hs1 hne)]
          exact hfa _ (by have := ph_lt hy; omega)
      · refine ⟨pk_in i 16384 h5, nm_e (nm_r (nI_1 i) ?_)⟩
        rw [nI_clamp (by omega)]
        refine ih (i + 1) (by omega) (by omega) _ (fun j hj => ?_)
        by_cases q : j = i
        · subst q; exact pk_us
        · rw [pk_un q]; exact hfa j (by omega)
  exact ⟨16385, clean 16385 0 (by omega) (by omega) _ (fun j hj => absurd hj (Nat.not_lt_zero j))⟩
