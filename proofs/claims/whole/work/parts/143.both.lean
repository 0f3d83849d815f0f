/-- who is sure of a goal while so many moves are left -/
def srN (mA mB : Nat → List Nat) (af : Nat → Nat → Nat) (g : Nat) : Nat → Nat → Bool
  | 0, x => soN g x
  | n + 1, x => if (n + 1) % 2 = 0 then srN mA mB af g n x || (mA x).any (fun k => srN mA mB af g n (af x k)) else srN mA mB af g n x && (mB x).all (fun k => srN mA mB af g n (af x k))
def mvB (t : Nat → Nat) (P : Nat → Int32) (G : Nat → Nat) (set oth : Nat) (x : Nat) : List Nat := mvs t P G set 0 5 x ++ mvs t P G oth 0 5 x
theorem mvB_ok {t : Nat → Nat} {P : Nat → Int32} (hP : LWP t P) {G : Nat → Nat} {set oth : Nat} : ∀ x, SV t x → ∀ k ∈ mvB t P G set oth x, SV t (aft P x k) := by
  intro x hx k hk
  rcases List.mem_append.mp hk with h | h
  · exact cmv_ok hP x hx k h
  · exact cmv_ok hP x hx k h
/-- the lengths behind each act -/
def WI (mv : Nat → List Nat) (af : Nat → Nat → Nat) (L : List En) (W : Nat → Nat) (a : Nat) : Prop := (∀ b, b < a → 1 ≤ W b ∧ W b ≤ L.length) ∧ ∀ b, b + 1 < a → W b ≤ W (b + 1) ∧ ∀ (j : Nat) (e : En), j < W b → L[j]? = some e → ∀ k ∈ mv e.1, ∃ (i : Nat) (e2 : En), i < W (b + 1) ∧ L[i]? = some e2 ∧ e2.1 = af e.1 k
theorem pre_back {L M : List En} (h : L <+: M) {j : Nat} {e : En} (hj : j < L.length) (he : M[j]? = some e) : L[j]? = some e := by
  have h2 := pre_get h (getD_some hj)
  rw [he] at h2
  rw [getD_some hj, Option.some.inj h2]
theorem WI.mono {mv : Nat → List Nat} {af : Nat → Nat → Nat} {L M : List En} {W : Nat → Nat} {a : Nat} (h : WI mv af L W a) (hp : L <+: M) : WI mv af M W a := by
  refine ⟨fun b hb => ⟨(h.1 b hb).1, Nat.le_trans (h.1 b hb).2 hp.length_le⟩, fun b hb => ⟨(h.2 b hb).1, fun j e hj he k hk => ?_⟩⟩
  have hl := (h.1 b (by omega)).2
  obtain ⟨i, e2, h1, h2, h3⟩ := (h.2 b hb).2 j e hj (pre_back hp (by omega) he) k hk
  exact ⟨i, e2, h1, pre_get hp h2, h3⟩
theorem sp_runByBoth {t : Nat → Nat} {P hm hv told : Nat → Int32} {G : Nat → Nat} (hW : LW t P G told hm hv) {set oth : Nat} {ow1 ow2 : Nat → Int32} {gr1 ba1 gr2 ba2 : Int32} (hS1 : SC G set 0 ow1 gr1 ba1) (hS2 : SC G oth 0 ow2 gr2 ba2) {order frm cameBy within : Nat → Int32} {runs length : Int32} {R s0 T : Nat} (hB : CB cameBy runs R) (hR : R + 1 < 1000000) (hs : SV t s0) {x y : Int32} (hx : x = nI s0) (hT : T ≤ 16) (hy : y = nI T)
    {v1 r1 a1 d1 : Nat → Int32} {n1 f1 b1 m1 : Int32} {v2 r2 a2 d2 : Nat → Int32} {n2 f2 b2 m2 : Int32}
    {post : (Nat → Int32) → (Nat → Int32) → (Nat → Int32) → Int32 → Int32 → (Nat → Int32) → (Nat → Int32) → (Nat → Int32) → Int32 → Int32 → Int32 → (Nat → Int32) → (Nat → Int32) → Int32 → (Nat → Int32) → (Nat → Int32) → Int32 → Int32 → Int32 → (Nat → Int32) → (Nat → Int32) → Int32 → Prop}
    (hh : ∀ L W o f c r l w v1 r1 n1 f1 b1 a1 d1 m1 v2 r2 n2 f2 b2 a2 d2 m2, GL (SV t) (mvB t P G set oth) (aft P) s0 L → WI (mvB t P G set oth) (aft P) L W (T + 1) → W T = L.length → (∀ a, a ≤ T → w a = nI (W a)) → CS L o f c r l (R + 1) → post o f c r l w v1 r1 n1 f1 b1 a1 d1 m1 v2 r2 n2 f2 b2 a2 d2 m2) :
    wp_X3_runByBoth order frm cameBy runs length within ow1 v1 r1 gr1 ba1 n1 f1 b1 a1 d1 m1 ow2 v2 r2 gr2 ba2 n2 f2 b2 a2 d2 m2 told P hm hv x y post := by
  unfold wp_X3_runByBoth
  refine CS_start hB hR hs.1 hx (fun o f c r l hC => ?_)
  have inner : ∀ (K : (Nat → Int32) → (Nat → Int32) → (Nat → Int32) → Int32 → Int32 → (Nat → Int32) → (Nat → Int32) → (Nat → Int32) → Int32 → Int32 → Int32 → (Nat → Int32) → (Nat → Int32) → Int32 → (Nat → Int32) → (Nat → Int32) → Int32 → Int32 → Int32 → (Nat → Int32) → (Nat → Int32) → Int32 → Int32 → Int32 → Int32 → Prop) (a : Nat) (w : Nat → Int32) (L0 : List En), a < T → w a = nI L0.length →
      (∀ L o f c r l v1 r1 n1 f1 b1 a1 d1 m1 v2 r2 n2 f2 b2 a2 d2 m2, GL (SV t) (mvB t P G set oth) (aft P) s0 L → L0 <+: L → (∀ (j : Nat) (e : En), j < L0.length → L[j]? = some e → ∀ k ∈ mvB t P G set oth e.1, aft P e.1 k ∈ sts L) → CS L o f c r l (R + 1) → K o f c r l w v1 r1 n1 f1 b1 a1 d1 m1 v2 r2 n2 f2 b2 a2 d2 m2 y (nI L0.length) (nI (a + 1))) →
      ∀ q i, i ≤ L0.length → L0.length < q + i → ∀ L o f c r l v1 r1 n1 f1 b1 a1 d1 m1 v2 r2 n2 f2 b2 a2 d2 m2, GL (SV t) (mvB t P G set oth) (aft P) s0 L → L0 <+: L → (∀ (j : Nat) (e : En), j < i → L[j]? = some e → ∀ k ∈ mvB t P G set oth e.1, aft P e.1 k ∈ sts L) → CS L o f c r l (R + 1) → wpL_X3_runByBoth_43 ow1 gr1 ba1 ow2 gr2 ba2 told P hm hv K post q o f c r l w v1 r1 n1 f1 b1 a1 d1 m1 v2 r2 n2 f2 b2 a2 d2 m2 y (nI a) (nI i) := by
    intro K a w L0 haT hwa hK q
    induction q with
    | zero => intro i h1 h2; omega
    | succ q ih =>
      intro i h1 h2 L o f c r l v1 r1 n1 f1 b1 a1 d1 m1 v2 r2 n2 f2 b2 a2 d2 m2 hGL hpre hcl hC
      have hlen := hGL.len (fun _ q => q.1)
      have hll := hpre.length_le
      rw [wpL_X3_runByBoth_43]
      refine pk_le T a (fun z => by omega) (fun _ => ⟨pk_in a 17 (by omega), ?_⟩) hy
      rw [nI_clamp (by omega), hwa]
      refine pk_le L0.length i (fun h5 => ?_) (fun h5 => pk_le 16384 i (fun z => by omega) (fun _ => ⟨pk_in i 16384 (by omega), ?_⟩))
      · unfold wpJ_X3_runByBoth_100
        refine ⟨pk_in a 17 (by omega), ?_⟩
        rw [nI_clamp (by omega), hwa]
        have : i = L0.length := by omega
        subst this
        exact nm_e (nm_r (nI_1 a) (hK _ _ _ _ _ _ _ _ _ _ _ _ _ _ _ _ _ _ _ _ _ _ hGL hpre hcl hC))
      · have hgd := getD_some (L := L) (i := i) (by omega)
        have hpv := hGL.2.1 _ (List.mem_of_getElem? hgd)
        rw [nI_clamp (by omega)]
        refine sp_spread hW hS1 hC hR hGL hgd (fun k hk => List.mem_append_left _ hk) ((hC.2.2.1 i _ hgd).1) (fun o2 f2 c2 l2 v3 r3 n3 f3 b3 a3 d3 m3 hC2 => ⟨pk_in i 16384 (by omega), ?_⟩)
        have hp2 := spr_pre (aft P) (L.getD i e0).1 (L.getD i e0).2.2.2 (mvs t P G set 0 5 (L.getD i e0).1) L
        have hGL2 : GL (SV t) (mvB t P G set oth) (aft P) s0 (spr (aft P) (L.getD i e0).1 (L.getD i e0).2.2.2 (mvs t P G set 0 5 (L.getD i e0).1) L) := spr_GL _ _ hGL hgd (fun k hk => ⟨List.mem_append_left _ hk, mvB_ok (G := G) (set := set) (oth := oth) hW.1 _ hpv k (List.mem_append_left _ hk)⟩)
        have hin2 := spr_mem (aft P) (L.getD i e0).1 (L.getD i e0).2.2.2 (mvs t P G set 0 5 (L.getD i e0).1) L
        have hgd2 := pre_get hp2 hgd
        generalize spr (aft P) (L.getD i e0).1 (L.getD i e0).2.2.2 (mvs t P G set 0 5 (L.getD i e0).1) L = L2 at hp2 hGL2 hin2 hgd2 hC2
        refine sp_spread hW hS2 hC2 hR hGL2 hgd2 (fun k hk => List.mem_append_right _ hk) ((hC2.2.2.1 i _ hgd2).1) (fun o3 f3 c3 l3 v4 r4 n4 f4 b4 a4 d4 m4 hC3 => nm_r (nI_1 i) ?_)
        have hp3 := spr_pre (aft P) (L.getD i e0).1 (L.getD i e0).2.2.2 (mvs t P G oth 0 5 (L.getD i e0).1) L2
        have hGL3 : GL (SV t) (mvB t P G set oth) (aft P) s0 (spr (aft P) (L.getD i e0).1 (L.getD i e0).2.2.2 (mvs t P G oth 0 5 (L.getD i e0).1) L2) := spr_GL _ _ hGL2 hgd2 (fun k hk => ⟨List.mem_append_right _ hk, mvB_ok (G := G) (set := set) (oth := oth) hW.1 _ hpv k (List.mem_append_right _ hk)⟩)
        have hin3 := spr_mem (aft P) (L.getD i e0).1 (L.getD i e0).2.2.2 (mvs t P G oth 0 5 (L.getD i e0).1) L2
        generalize spr (aft P) (L.getD i e0).1 (L.getD i e0).2.2.2 (mvs t P G oth 0 5 (L.getD i e0).1) L2 = L3 at hp3 hGL3 hin3 hC3
        have hp23 : L <+: L3 := hp2.trans hp3
        refine ih (i + 1) (by omega) (by omega) L3 _ _ _ _ _ _ _ _ _ _ _ _ _ _ _ _ _ _ _ _ _ hGL3 (hpre.trans hp23) (fun j e hj he k hk => ?_) hC3
        have he2 := pre_back hp23 (by omega) he
        by_cases w : j = i
        · subst w
          rw [hgd] at he2
          rw [← Option.some.inj he2] at hk ⊢
          rcases List.mem_append.mp hk with z | z
          · exact pre_sts hp3 (hin2 k z)
          · exact hin3 k z
        · exact pre_sts hp23 (hcl j e (by omega) he2 k hk)
  have outer : ∀ q a next, a ≤ T + 1 → T + 1 < q + a → ∀ L W o f c r l w v1 r1 n1 f1 b1 a1 d1 m1 v2 r2 n2 f2 b2 a2 d2 m2, GL (SV t) (mvB t P G set oth) (aft P) s0 L → WI (mvB t P G set oth) (aft P) L W a → (a ≤ T → ∀ (j : Nat) (e : En), j < next → L[j]? = some e → ∀ k ∈ mvB t P G set oth e.1, aft P e.1 k ∈ sts L) → next ≤ L.length → (a = 0 → next = 0) → (∀ b, a = b + 1 → next = W b) → (a = T + 1 → W T = L.length) → (∀ b, b < a → w b = nI (W b)) → CS L o f c r l (R + 1) → wpL_X3_runByBoth_11 ow1 gr1 ba1 ow2 gr2 ba2 told P hm hv post q o f c r l w v1 r1 n1 f1 b1 a1 d1 m1 v2 r2 n2 f2 b2 a2 d2 m2 y (nI next) (nI a) := by
    intro q
    induction q with
    | zero => intro a next h1 h2; omega
    | succ q ih =>
      intro a next h1 h2 L W o f c r l w v1 r1 n1 f1 b1 a1 d1 m1 v2 r2 n2 f2 b2 a2 d2 m2 hGL hWI hcl hnl hn0 hnb hlast hw hC
      have hlen := hGL.len (fun _ q => q.1)
      rw [wpL_X3_runByBoth_11]
      refine pk_lt T a (fun h5 => ?_) (fun h5 => pk_le 17 a (fun z => by omega) (fun _ => ⟨pk_in a 17 (by omega), nm_e ?_⟩)) hy
      · have : a = T + 1 := by omega
        subst this
        exact hh _ _ _ _ _ _ _ _ _ _ _ _ _ _ _ _ _ _ _ _ _ _ _ _ hGL hWI (hlast rfl) (fun b hb => hw b (by omega)) hC
      · rw [nI_clamp (by omega), hC.2.1]
        -- the lengths with the new one
        have hpos : 1 ≤ L.length := by
          have := (List.getElem?_eq_some_iff.mp hGL.2.2.1).1
          omega
        have hWI2 : WI (mvB t P G set oth) (aft P) L (fun b => if b = a then L.length else W b) (a + 1) := by
          refine ⟨fun b hb => ?_, fun b hb => ?_⟩
          · show 1 ≤ (if b = a then _ else _) ∧ (if b = a then _ else _) ≤ _
            by_cases z : b = a
            · rw [if_pos z]; exact ⟨hpos, Nat.le_refl _⟩
            · rw [if_neg z]; exact hWI.1 b (by omega)
          · show (if b = a then _ else _) ≤ (if b + 1 = a then _ else _) ∧ ∀ (j : Nat) (e : En), j < (if b = a then _ else _) → L[j]? = some e → ∀ k ∈ mvB t P G set oth e.1, ∃ (i : Nat) (e2 : En), i < (if b + 1 = a then _ else _) ∧ L[i]? = some e2 ∧ e2.1 = aft P e.1 k
            rw [if_neg (show ¬ b = a by omega)]
            by_cases z : b + 1 = a
            · rw [if_pos z]
              refine ⟨(hWI.1 b (by omega)).2, fun j e hj he k hk => ?_⟩
              have hnb2 := hnb b z.symm
              obtain ⟨e2, h3, h4⟩ := mem_sts.mp (hcl (by omega) j e (by omega) he k hk)
              obtain ⟨i, hi⟩ := List.getElem?_of_mem h3
              exact ⟨i, e2, (List.getElem?_eq_some_iff.mp hi).1, hi, h4⟩
            · rw [if_neg z]
              exact hWI.2 b (by omega)
        have hwn : ∀ b, b < a + 1 → (upd w a (nI L.length)) b = nI ((fun b => if b = a then L.length else W b) b) := by
          intro b hb
          show _ = nI (if b = a then _ else _)
          by_cases z : b = a
          · rw [if_pos z, z, pk_us]
          · rw [if_neg z, pk_un z]; exact hw b (by omega)
        by_cases haT : a = T
        · refine ⟨1, ?_⟩
          rw [wpL_X3_runByBoth_43]
          refine pk_le T a (fun _ => ?_) (fun z => by omega) hy
          unfold wpJ_X3_runByBoth_100
          refine ⟨pk_in a 17 (by omega), ?_⟩
          rw [nI_clamp (by omega), pk_us]
          refine nm_e (nm_r (nI_1 a) ?_)
          refine ih (a + 1) L.length (by omega) (by omega) L (fun b => if b = a then L.length else W b) _ _ _ _ _ _ _ _ _ _ _ _ _ _ _ _ _ _ _ _ _ _ hGL hWI2 (fun z => by omega) (Nat.le_refl _) (fun z => by omega) (fun b hb => ?_) (fun _ => ?_) hwn ?_
          · show _ = if b = a then _ else _
            rw [if_pos (by omega)]
          · show (if T = a then _ else _) = _
            rw [if_pos haT.symm]
          · rw [← hC.2.1]; exact hC
        · refine ⟨L.length + 1, ?_⟩
          refine inner _ a _ L (by omega) pk_us (fun L2 o2 f2 c2 r2 l2 v3 r3 n3 f3 b3 a3 d3 m3 v4 r4 n4 f4 b4 a4 d4 m4 hGL2 hpre2 hcl2 hC2 => ?_) _ next (by omega) (by omega) L _ _ _ _ _ _ _ _ _ _ _ _ _ _ _ _ _ _ _ _ _ hGL (List.prefix_refl L) (hcl (by omega)) (by rw [← hC.2.1]; exact hC)
          refine ih (a + 1) L.length (by omega) (by omega) L2 (fun b => if b = a then L.length else W b) _ _ _ _ _ _ _ _ _ _ _ _ _ _ _ _ _ _ _ _ _ _ hGL2 (hWI2.mono hpre2) (fun _ => hcl2) hpre2.length_le (fun z => by omega) (fun b hb => ?_) (fun z => by omega) hwn hC2
          show _ = if b = a then _ else _
          rw [if_pos (by omega)]
  exact ⟨T + 2, outer (T + 2) 0 0 (by omega) (by omega) [(s0, 0, 0, 0)] (fun _ => 0) _ _ _ _ _ _ _ _ _ _ _ _ _ _ _ _ _ _ _ _ _ _ (GL_start hs) ⟨fun b hb => absurd hb (Nat.not_lt_zero b), fun b hb => absurd hb (Nat.not_lt_zero _)⟩ (fun _ j e hj => absurd hj (Nat.not_lt_zero j)) (by omega) (fun _ => rfl) (fun b hb => by omega) (fun z => by omega) (fun b hb => absurd hb (Nat.not_lt_zero b)) hC⟩
