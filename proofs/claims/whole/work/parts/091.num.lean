/-! numbers: Int32 words of small naturals -/
theorem nb_and {a b : Nat} (ha : a < 4294967296) (hb : b < 4294967296) : nI a &&& nI b = nI (Nat.land a b) := by
  apply Int32.toBitVec_inj.mp
  apply BitVec.eq_of_toNat_eq
  have h1 : Nat.land a b ≤ a := Nat.and_le_left
  rw [Int32.toBitVec_and, BitVec.toNat_and, pk_tn (by omega), pk_tn (by omega), pk_tn (by omega)]
  rfl
theorem nb_or {a b : Nat} (ha : a < 4294967296) (hb : b < 4294967296) : nI a ||| nI b = nI (Nat.lor a b) := by
  apply Int32.toBitVec_inj.mp
  apply BitVec.eq_of_toNat_eq
  have h1 : Nat.lor a b < 2 ^ 32 := Nat.or_lt_two_pow (by omega) (by omega)
  rw [Int32.toBitVec_or, BitVec.toNat_or, pk_tn (by omega), pk_tn (by omega), pk_tn (by omega)]
  rfl
theorem nb_xor {a b : Nat} (ha : a < 4294967296) (hb : b < 4294967296) : nI a ^^^ nI b = nI (Nat.xor a b) := by
  apply Int32.toBitVec_inj.mp
  apply BitVec.eq_of_toNat_eq
  have h1 : Nat.xor a b < 2 ^ 32 := Nat.xor_lt_two_pow (by omega) (by omega)
  rw [Int32.toBitVec_xor, BitVec.toNat_xor, pk_tn (by omega), pk_tn (by omega), pk_tn (by omega)]
  rfl
abbrev fo (s c : Nat) : Nat := s / 4 ^ c % 4
abbrev th (s t : Nat) : Nat := s / 2 ^ (10 + t) % 2
def pu (s c f : Nat) : Nat := s - s / 4 ^ c % 4 * 4 ^ c + f * 4 ^ c
def mk (s t b : Nat) : Nat := s - s / 2 ^ (10 + t) % 2 * 2 ^ (10 + t) + b * 2 ^ (10 + t)
/-- the reference's number of a state -/
def ph (s : Nat) : Nat := s / 1024 + 16 * (s % 1024)
theorem lt5 {c : Nat} (h : c < 5) : c = 0 ∨ c = 1 ∨ c = 2 ∨ c = 3 ∨ c = 4 := by omega
theorem lt4 {c : Nat} (h : c < 4) : c = 0 ∨ c = 1 ∨ c = 2 ∨ c = 3 := by omega
theorem lt2 {c : Nat} (h : c < 2) : c = 0 ∨ c = 1 := by omega
theorem split128 {s : Nat} (h : s < 16384) : s = 128 * (s / 128) + s % 128 ∧ s / 128 < 128 ∧ s % 128 < 128 := by omega
-- the class's formOf, put, thingOf, make
theorem w_formOf {s c : Nat} (hs : s < 2 ^ 31) (hc : c < 5) : (nI s >>> (((2 : Int32) * nI c) &&& 31)) &&& (3 : Int32) = nI (fo s c) := by
  rcases lt5 hc with rfl | rfl | rfl | rfl | rfl
  · rw [pk_shrN hs _ 0 (by decide), pk_andN (by omega) 2 (by decide)]
  · rw [pk_shrN hs _ 2 (by decide), pk_andN (by omega) 2 (by decide)]
  · rw [pk_shrN hs _ 4 (by decide), pk_andN (by omega) 2 (by decide)]
  · rw [pk_shrN hs _ 6 (by decide), pk_andN (by omega) 2 (by decide)]
  · rw [pk_shrN hs _ 8 (by decide), pk_andN (by omega) 2 (by decide)]
theorem w_thingOf {s t : Nat} (hs : s < 2 ^ 31) (ht : t < 4) : (nI s >>> (((10 : Int32) + nI t) &&& 31)) &&& (1 : Int32) = nI (th s t) := by
  rcases lt4 ht with rfl | rfl | rfl | rfl
  · rw [pk_shrN hs _ 10 (by decide), pk_andN (by omega) 1 (by decide)]
  · rw [pk_shrN hs _ 11 (by decide), pk_andN (by omega) 1 (by decide)]
  · rw [pk_shrN hs _ 12 (by decide), pk_andN (by omega) 1 (by decide)]
  · rw [pk_shrN hs _ 13 (by decide), pk_andN (by omega) 1 (by decide)]
theorem w_thingsOf {s : Nat} (hs : s < 16384) : (nI s >>> ((10 : Int32) &&& 31)) &&& (15 : Int32) = nI (s / 1024) := by
  rw [pk_shrN (by omega) _ 10 (by decide), pk_andN (by omega) 4 (by decide)]
  congr 1
  omega
theorem w_put {s c f : Nat} (hs : s < 16384) (hc : c < 5) (hf : f < 4) : (nI s &&& (((3 : Int32) <<< (((2 : Int32) * nI c) &&& 31)) ^^^ (-1 : Int32))) ||| ((nI f &&& (3 : Int32)) <<< (((2 : Int32) * nI c) &&& 31)) = nI (pu s c f) := by
  obtain ⟨e, ha, hb⟩ := split128 hs
  rcases lt5 hc with rfl | rfl | rfl | rfl | rfl <;> rcases lt4 hf with rfl | rfl | rfl | rfl
  · have h := bf_p0 (s / 128) ha (s % 128) hb 0 (by decide)
    rw [← e] at h
    rw [show ((3 : Int32) <<< (((2 : Int32) * nI 0) &&& 31)) ^^^ (-1 : Int32) = nI 4294967292 from by decide, show (nI 0 &&& (3 : Int32)) <<< (((2 : Int32) * nI 0) &&& 31) = nI 0 from by decide, nb_and (by omega) (by decide), nb_or (a := Nat.land s 4294967292) (b := 0) (Nat.lt_of_le_of_lt (show Nat.land s 4294967292 ≤ s from Nat.and_le_left) (by omega)) (by decide)]
    exact congrArg nI h
  · have h := bf_p0 (s / 128) ha (s % 128) hb 1 (by decide)
    rw [← e] at h
    rw [show ((3 : Int32) <<< (((2 : Int32) * nI 0) &&& 31)) ^^^ (-1 : Int32) = nI 4294967292 from by decide, show (nI 1 &&& (3 : Int32)) <<< (((2 : Int32) * nI 0) &&& 31) = nI 1 from by decide, nb_and (by omega) (by decide), nb_or (a := Nat.land s 4294967292) (b := 1) (Nat.lt_of_le_of_lt (show Nat.land s 4294967292 ≤ s from Nat.and_le_left) (by omega)) (by decide)]
    exact congrArg nI h
  · have h := bf_p0 (s / 128) ha (s % 128) hb 2 (by decide)
    rw [← e] at h
    rw [show ((3 : Int32) <<< (((2 : Int32) * nI 0) &&& 31)) ^^^ (-1 : Int32) = nI 4294967292 from by decide, show (nI 2 &&& (3 : Int32)) <<< (((2 : Int32) * nI 0) &&& 31) = nI 2 from by decide, nb_and (by omega) (by decide), nb_or (a := Nat.land s 4294967292) (b := 2) (Nat.lt_of_le_of_lt (show Nat.land s 4294967292 ≤ s from Nat.and_le_left) (by omega)) (by decide)]
    exact congrArg nI h
  · have h := bf_p0 (s / 128) ha (s % 128) hb 3 (by decide)
    rw [← e] at h
    rw [show ((3 : Int32) <<< (((2 : Int32) * nI 0) &&& 31)) ^^^ (-1 : Int32) = nI 4294967292 from by decide, show (nI 3 &&& (3 : Int32)) <<< (((2 : Int32) * nI 0) &&& 31) = nI 3 from by decide, nb_and (by omega) (by decide), nb_or (a := Nat.land s 4294967292) (b := 3) (Nat.lt_of_le_of_lt (show Nat.land s 4294967292 ≤ s from Nat.and_le_left) (by omega)) (by decide)]
    exact congrArg nI h
  · have h := bf_p2 (s / 128) ha (s % 128) hb 0 (by decide)
    rw [← e] at h
    rw [show ((3 : Int32) <<< (((2 : Int32) * nI 1) &&& 31)) ^^^ (-1 : Int32) = nI 4294967283 from by decide, show (nI 0 &&& (3 : Int32)) <<< (((2 : Int32) * nI 1) &&& 31) = nI 0 from by decide, nb_and (by omega) (by decide), nb_or (a := Nat.land s 4294967283) (b := 0) (Nat.lt_of_le_of_lt (show Nat.land s 4294967283 ≤ s from Nat.and_le_left) (by omega)) (by decide)]
    exact congrArg nI h
  · have h := bf_p2 (s / 128) ha (s % 128) hb 1 (by decide)
    rw [← e] at h
    rw [show ((3 : Int32) <<< (((2 : Int32) * nI 1) &&& 31)) ^^^ (-1 : Int32) = nI 4294967283 from by decide, show (nI 1 &&& (3 : Int32)) <<< (((2 : Int32) * nI 1) &&& 31) = nI 4 from by decide, nb_and (by omega) (by decide), nb_or (a := Nat.land s 4294967283) (b := 4) (Nat.lt_of_le_of_lt (show Nat.land s 4294967283 ≤ s from Nat.and_le_left) (by omega)) (by decide)]
    exact congrArg nI h
  · have h := bf_p2 (s / 128) ha (s % 128) hb 2 (by decide)
    rw [← e] at h
    rw [show ((3 : Int32) <<< (((2 : Int32) * nI 1) &&& 31)) ^^^ (-1 : Int32) = nI 4294967283 from by decide, show (nI 2 &&& (3 : Int32)) <<< (((2 : Int32) * nI 1) &&& 31) = nI 8 from by decide, nb_and (by omega) (by decide), nb_or (a := Nat.land s 4294967283) (b := 8) (Nat.lt_of_le_of_lt (show Nat.land s 4294967283 ≤ s from Nat.and_le_left) (by omega)) (by decide)]
    exact congrArg nI h
  · have h := bf_p2 (s / 128) ha (s % 128) hb 3 (by decide)
    rw [← e] at h
    rw [show ((3 : Int32) <<< (((2 : Int32) * nI 1) &&& 31)) ^^^ (-1 : Int32) = nI 4294967283 from by decide, show (nI 3 &&& (3 : Int32)) <<< (((2 : Int32) * nI 1) &&& 31) = nI 12 from by decide, nb_and (by omega) (by decide), nb_or (a := Nat.land s 4294967283) (b := 12) (Nat.lt_of_le_of_lt (show Nat.land s 4294967283 ≤ s from Nat.and_le_left) (by omega)) (by decide)]
    exact congrArg nI h
  · have h := bf_p4 (s / 128) ha (s % 128) hb 0 (by decide)
    rw [← e] at h
    rw [show ((3 : Int32) <<< (((2 : Int32) * nI 2) &&& 31)) ^^^ (-1 : Int32) = nI 4294967247 from by decide, show (nI 0 &&& (3 : Int32)) <<< (((2 : Int32) * nI 2) &&& 31) = nI 0 from by decide, nb_and (by omega) (by decide), nb_or (a := Nat.land s 4294967247) (b := 0) (Nat.lt_of_le_of_lt (show Nat.land s 4294967247 ≤ s from Nat.and_le_left) (by omega)) (by decide)]
    exact congrArg nI h
  · have h := bf_p4 (s / 128) ha (s % 128) hb 1 (by decide)
    rw [← e] at h
    rw [show ((3 : Int32) <<< (((2 : Int32) * nI 2) &&& 31)) ^^^ (-1 : Int32) = nI 4294967247 from by decide, show (nI 1 &&& (3 : Int32)) <<< (((2 : Int32) * nI 2) &&& 31) = nI 16 from by decide, nb_and (by omega) (by decide), nb_or (a := Nat.land s 4294967247) (b := 16) (Nat.lt_of_le_of_lt (show Nat.land s 4294967247 ≤ s from Nat.and_le_left) (by omega)) (by decide)]
    exact congrArg nI h
  · have h := bf_p4 (s / 128) ha (s % 128) hb 2 (by decide)
    rw [← e] at h
    rw [show ((3 : Int32) <<< (((2 : Int32) * nI 2) &&& 31)) ^^^ (-1 : Int32) = nI 4294967247 from by decide, show (nI 2 &&& (3 : Int32)) <<< (((2 : Int32) * nI 2) &&& 31) = nI 32 from by decide, nb_and (by omega) (by decide), nb_or (a := Nat.land s 4294967247) (b := 32) (Nat.lt_of_le_of_lt (show Nat.land s 4294967247 ≤ s from Nat.and_le_left) (by omega)) (by decide)]
    exact congrArg nI h
  · have h := bf_p4 (s / 128) ha (s % 128) hb 3 (by decide)
    rw [← e] at h
    rw [show ((3 : Int32) <<< (((2 : Int32) * nI 2) &&& 31)) ^^^ (-1 : Int32) = nI 4294967247 from by decide, show (nI 3 &&& (3 : Int32)) <<< (((2 : Int32) * nI 2) &&& 31) = nI 48 from by decide, nb_and (by omega) (by decide), nb_or (a := Nat.land s 4294967247) (b := 48) (Nat.lt_of_le_of_lt (show Nat.land s 4294967247 ≤ s from Nat.and_le_left) (by omega)) (by decide)]
    exact congrArg nI h
  · have h := bf_p6 (s / 128) ha (s % 128) hb 0 (by decide)
    rw [← e] at h
    rw [show ((3 : Int32) <<< (((2 : Int32) * nI 3) &&& 31)) ^^^ (-1 : Int32) = nI 4294967103 from by decide, show (nI 0 &&& (3 : Int32)) <<< (((2 : Int32) * nI 3) &&& 31) = nI 0 from by decide, nb_and (by omega) (by decide), nb_or (a := Nat.land s 4294967103) (b := 0) (Nat.lt_of_le_of_lt (show Nat.land s 4294967103 ≤ s from Nat.and_le_left) (by omega)) (by decide)]
    exact congrArg nI h
  · have h := bf_p6 (s / 128) ha (s % 128) hb 1 (by decide)
    rw [← e] at h
    rw [show ((3 : Int32) <<< (((2 : Int32) * nI 3) &&& 31)) ^^^ (-1 : Int32) = nI 4294967103 from by decide, show (nI 1 &&& (3 : Int32)) <<< (((2 : Int32) * nI 3) &&& 31) = nI 64 from by decide, nb_and (by omega) (by decide), nb_or (a := Nat.land s 4294967103) (b := 64) (Nat.lt_of_le_of_lt (show Nat.land s 4294967103 ≤ s from Nat.and_le_left) (by omega)) (by decide)]
    exact congrArg nI h
  · have h := bf_p6 (s / 128) ha (s % 128) hb 2 (by decide)
    rw [← e] at h
    rw [show ((3 : Int32) <<< (((2 : Int32) * nI 3) &&& 31)) ^^^ (-1 : Int32) = nI 4294967103 from by decide, show (nI 2 &&& (3 : Int32)) <<< (((2 : Int32) * nI 3) &&& 31) = nI 128 from by decide, nb_and (by omega) (by decide), nb_or (a := Nat.land s 4294967103) (b := 128) (Nat.lt_of_le_of_lt (show Nat.land s 4294967103 ≤ s from Nat.and_le_left) (by omega)) (by decide)]
    exact congrArg nI h
  · have h := bf_p6 (s / 128) ha (s % 128) hb 3 (by decide)
    rw [← e] at h
    rw [show ((3 : Int32) <<< (((2 : Int32) * nI 3) &&& 31)) ^^^ (-1 : Int32) = nI 4294967103 from by decide, show (nI 3 &&& (3 : Int32)) <<< (((2 : Int32) * nI 3) &&& 31) = nI 192 from by decide, nb_and (by omega) (by decide), nb_or (a := Nat.land s 4294967103) (b := 192) (Nat.lt_of_le_of_lt (show Nat.land s 4294967103 ≤ s from Nat.and_le_left) (by omega)) (by decide)]
    exact congrArg nI h
  · have h := bf_p8 (s / 128) ha (s % 128) hb 0 (by decide)
    rw [← e] at h
    rw [show ((3 : Int32) <<< (((2 : Int32) * nI 4) &&& 31)) ^^^ (-1 : Int32) = nI 4294966527 from by decide, show (nI 0 &&& (3 : Int32)) <<< (((2 : Int32) * nI 4) &&& 31) = nI 0 from by decide, nb_and (by omega) (by decide), nb_or (a := Nat.land s 4294966527) (b := 0) (Nat.lt_of_le_of_lt (show Nat.land s 4294966527 ≤ s from Nat.and_le_left) (by omega)) (by decide)]
    exact congrArg nI h
  · have h := bf_p8 (s / 128) ha (s % 128) hb 1 (by decide)
    rw [← e] at h
    rw [show ((3 : Int32) <<< (((2 : Int32) * nI 4) &&& 31)) ^^^ (-1 : Int32) = nI 4294966527 from by decide, show (nI 1 &&& (3 : Int32)) <<< (((2 : Int32) * nI 4) &&& 31) = nI 256 from by decide, nb_and (by omega) (by decide), nb_or (a := Nat.land s 4294966527) (b := 256) (Nat.lt_of_le_of_lt (show Nat.land s 4294966527 ≤ s from Nat.and_le_left) (by omega)) (by decide)]
    exact congrArg nI h
  · have h := bf_p8 (s / 128) ha (s % 128) hb 2 (by decide)
    rw [← e] at h
    rw [show ((3 : Int32) <<< (((2 : Int32) * nI 4) &&& 31)) ^^^ (-1 : Int32) = nI 4294966527 from by decide, show (nI 2 &&& (3 : Int32)) <<< (((2 : Int32) * nI 4) &&& 31) = nI 512 from by decide, nb_and (by omega) (by decide), nb_or (a := Nat.land s 4294966527) (b := 512) (Nat.lt_of_le_of_lt (show Nat.land s 4294966527 ≤ s from Nat.and_le_left) (by omega)) (by decide)]
    exact congrArg nI h
  · have h := bf_p8 (s / 128) ha (s % 128) hb 3 (by decide)
    rw [← e] at h
    rw [show ((3 : Int32) <<< (((2 : Int32) * nI 4) &&& 31)) ^^^ (-1 : Int32) = nI 4294966527 from by decide, show (nI 3 &&& (3 : Int32)) <<< (((2 : Int32) * nI 4) &&& 31) = nI 768 from by decide, nb_and (by omega) (by decide), nb_or (a := Nat.land s 4294966527) (b := 768) (Nat.lt_of_le_of_lt (show Nat.land s 4294966527 ≤ s from Nat.and_le_left) (by omega)) (by decide)]
    exact congrArg nI h
theorem w_make {s t f : Nat} (hs : s < 16384) (ht : t < 4) (hf : f < 2) : (nI s &&& (((1 : Int32) <<< (((10 : Int32) + nI t) &&& 31)) ^^^ (-1 : Int32))) ||| ((nI f &&& (1 : Int32)) <<< (((10 : Int32) + nI t) &&& 31)) = nI (mk s t f) := by
  obtain ⟨e, ha, hb⟩ := split128 hs
  rcases lt4 ht with rfl | rfl | rfl | rfl <;> rcases lt2 hf with rfl | rfl
  · have h := bf_b10 (s / 128) ha (s % 128) hb 0 (by decide)
    rw [← e] at h
    rw [show ((1 : Int32) <<< (((10 : Int32) + nI 0) &&& 31)) ^^^ (-1 : Int32) = nI 4294966271 from by decide, show (nI 0 &&& (1 : Int32)) <<< (((10 : Int32) + nI 0) &&& 31) = nI 0 from by decide, nb_and (by omega) (by decide), nb_or (a := Nat.land s 4294966271) (b := 0) (Nat.lt_of_le_of_lt (show Nat.land s 4294966271 ≤ s from Nat.and_le_left) (by omega)) (by decide)]
    exact congrArg nI h
  · have h := bf_b10 (s / 128) ha (s % 128) hb 1 (by decide)
    rw [← e] at h
    rw [show ((1 : Int32) <<< (((10 : Int32) + nI 0) &&& 31)) ^^^ (-1 : Int32) = nI 4294966271 from by decide, show (nI 1 &&& (1 : Int32)) <<< (((10 : Int32) + nI 0) &&& 31) = nI 1024 from by decide, nb_and (by omega) (by decide), nb_or (a := Nat.land s 4294966271) (b := 1024) (Nat.lt_of_le_of_lt (show Nat.land s 4294966271 ≤ s from Nat.and_le_left) (by omega)) (by decide)]
    exact congrArg nI h
  · have h := bf_b11 (s / 128) ha (s % 128) hb 0 (by decide)
    rw [← e] at h
    rw [show ((1 : Int32) <<< (((10 : Int32) + nI 1) &&& 31)) ^^^ (-1 : Int32) = nI 4294965247 from by decide, show (nI 0 &&& (1 : Int32)) <<< (((10 : Int32) + nI 1) &&& 31) = nI 0 from by decide, nb_and (by omega) (by decide), nb_or (a := Nat.land s 4294965247) (b := 0) (Nat.lt_of_le_of_lt (show Nat.land s 4294965247 ≤ s from Nat.and_le_left) (by omega)) (by decide)]
    exact congrArg nI h
  · have h := bf_b11 (s / 128) ha (s % 128) hb 1 (by decide)
    rw [← e] at h
    rw [show ((1 : Int32) <<< (((10 : Int32) + nI 1) &&& 31)) ^^^ (-1 : Int32) = nI 4294965247 from by decide, show (nI 1 &&& (1 : Int32)) <<< (((10 : Int32) + nI 1) &&& 31) = nI 2048 from by decide, nb_and (by omega) (by decide), nb_or (a := Nat.land s 4294965247) (b := 2048) (Nat.lt_of_le_of_lt (show Nat.land s 4294965247 ≤ s from Nat.and_le_left) (by omega)) (by decide)]
    exact congrArg nI h
  · have h := bf_b12 (s / 128) ha (s % 128) hb 0 (by decide)
    rw [← e] at h
    rw [show ((1 : Int32) <<< (((10 : Int32) + nI 2) &&& 31)) ^^^ (-1 : Int32) = nI 4294963199 from by decide, show (nI 0 &&& (1 : Int32)) <<< (((10 : Int32) + nI 2) &&& 31) = nI 0 from by decide, nb_and (by omega) (by decide), nb_or (a := Nat.land s 4294963199) (b := 0) (Nat.lt_of_le_of_lt (show Nat.land s 4294963199 ≤ s from Nat.and_le_left) (by omega)) (by decide)]
    exact congrArg nI h
  · have h := bf_b12 (s / 128) ha (s % 128) hb 1 (by decide)
    rw [← e] at h
    rw [show ((1 : Int32) <<< (((10 : Int32) + nI 2) &&& 31)) ^^^ (-1 : Int32) = nI 4294963199 from by decide, show (nI 1 &&& (1 : Int32)) <<< (((10 : Int32) + nI 2) &&& 31) = nI 4096 from by decide, nb_and (by omega) (by decide), nb_or (a := Nat.land s 4294963199) (b := 4096) (Nat.lt_of_le_of_lt (show Nat.land s 4294963199 ≤ s from Nat.and_le_left) (by omega)) (by decide)]
    exact congrArg nI h
  · have h := bf_b13 (s / 128) ha (s % 128) hb 0 (by decide)
    rw [← e] at h
    rw [show ((1 : Int32) <<< (((10 : Int32) + nI 3) &&& 31)) ^^^ (-1 : Int32) = nI 4294959103 from by decide, show (nI 0 &&& (1 : Int32)) <<< (((10 : Int32) + nI 3) &&& 31) = nI 0 from by decide, nb_and (by omega) (by decide), nb_or (a := Nat.land s 4294959103) (b := 0) (Nat.lt_of_le_of_lt (show Nat.land s 4294959103 ≤ s from Nat.and_le_left) (by omega)) (by decide)]
    exact congrArg nI h
  · have h := bf_b13 (s / 128) ha (s % 128) hb 1 (by decide)
    rw [← e] at h
    rw [show ((1 : Int32) <<< (((10 : Int32) + nI 3) &&& 31)) ^^^ (-1 : Int32) = nI 4294959103 from by decide, show (nI 1 &&& (1 : Int32)) <<< (((10 : Int32) + nI 3) &&& 31) = nI 8192 from by decide, nb_and (by omega) (by decide), nb_or (a := Nat.land s 4294959103) (b := 8192) (Nat.lt_of_le_of_lt (show Nat.land s 4294959103 ≤ s from Nat.and_le_left) (by omega)) (by decide)]
    exact congrArg nI h
theorem digits {s : Nat} (h : s < 16384) : ∃ f0 f1 f2 f3 f4 t0 t1 t2 t3 : Nat, f0 < 4 ∧ f1 < 4 ∧ f2 < 4 ∧ f3 < 4 ∧ f4 < 4 ∧ t0 < 2 ∧ t1 < 2 ∧ t2 < 2 ∧ t3 < 2 ∧ s = f0 + 4 * f1 + 16 * f2 + 64 * f3 + 256 * f4 + 1024 * t0 + 2048 * t1 + 4096 * t2 + 8192 * t3 :=
  ⟨s % 4, s / 4 % 4, s / 16 % 4, s / 64 % 4, s / 256 % 4, s / 1024 % 2, s / 2048 % 2, s / 4096 % 2, s / 8192, by omega, by omega, by omega, by omega, by omega, by omega, by omega, by omega, by omega, by omega⟩
theorem ph_dig {f0 f1 f2 f3 f4 t0 t1 t2 t3 : Nat} (h0 : f0 < 4) (h1 : f1 < 4) (h2 : f2 < 4) (h3 : f3 < 4) (h4 : f4 < 4) (h5 : t0 < 2) (h6 : t1 < 2) (h7 : t2 < 2) (h8 : t3 < 2) : ph (f0 + 4 * f1 + 16 * f2 + 64 * f3 + 256 * f4 + 1024 * t0 + 2048 * t1 + 4096 * t2 + 8192 * t3) = t0 + 2 * t1 + 4 * t2 + 8 * t3 + 16 * f0 + 64 * f1 + 256 * f2 + 1024 * f3 + 4096 * f4 := by
  have e1 : (f0 + 4 * f1 + 16 * f2 + 64 * f3 + 256 * f4 + 1024 * t0 + 2048 * t1 + 4096 * t2 + 8192 * t3) / 1024 = t0 + 2 * t1 + 4 * t2 + 8 * t3 := by omega
  have e2 : (f0 + 4 * f1 + 16 * f2 + 64 * f3 + 256 * f4 + 1024 * t0 + 2048 * t1 + 4096 * t2 + 8192 * t3) % 1024 = f0 + 4 * f1 + 16 * f2 + 64 * f3 + 256 * f4 := by omega
  unfold ph
  rw [e1, e2]
  omega
theorem fo_d0 {f0 f1 f2 f3 f4 t0 t1 t2 t3 : Nat} (h0 : f0 < 4) (h1 : f1 < 4) (h2 : f2 < 4) (h3 : f3 < 4) (h4 : f4 < 4) (h5 : t0 < 2) (h6 : t1 < 2) (h7 : t2 < 2) (h8 : t3 < 2) : (f0 + 4 * f1 + 16 * f2 + 64 * f3 + 256 * f4 + 1024 * t0 + 2048 * t1 + 4096 * t2 + 8192 * t3) / 4 ^ 0 % 4 = f0 := by
  have e : (f0 + 4 * f1 + 16 * f2 + 64 * f3 + 256 * f4 + 1024 * t0 + 2048 * t1 + 4096 * t2 + 8192 * t3) / 1 = f0 + 4 * f1 + 16 * f2 + 64 * f3 + 256 * f4 + 1024 * t0 + 2048 * t1 + 4096 * t2 + 8192 * t3 := by omega
  show (f0 + 4 * f1 + 16 * f2 + 64 * f3 + 256 * f4 + 1024 * t0 + 2048 * t1 + 4096 * t2 + 8192 * t3) / 1 % 4 = f0
  rw [e]
  omega
theorem fm_d0 {f0 f1 f2 f3 f4 t0 t1 t2 t3 : Nat} (h0 : f0 < 4) (h1 : f1 < 4) (h2 : f2 < 4) (h3 : f3 < 4) (h4 : f4 < 4) (h5 : t0 < 2) (h6 : t1 < 2) (h7 : t2 < 2) (h8 : t3 < 2) : (t0 + 2 * t1 + 4 * t2 + 8 * t3 + 16 * f0 + 64 * f1 + 256 * f2 + 1024 * f3 + 4096 * f4) / 2 ^ (4 + 2 * 0) % 4 = f0 := by
  have e : (t0 + 2 * t1 + 4 * t2 + 8 * t3 + 16 * f0 + 64 * f1 + 256 * f2 + 1024 * f3 + 4096 * f4) / 16 = f0 + 4 * f1 + 16 * f2 + 64 * f3 + 256 * f4 := by omega
  show (t0 + 2 * t1 + 4 * t2 + 8 * t3 + 16 * f0 + 64 * f1 + 256 * f2 + 1024 * f3 + 4096 * f4) / 16 % 4 = f0
  rw [e]
  omega
theorem fo_d1 {f0 f1 f2 f3 f4 t0 t1 t2 t3 : Nat} (h0 : f0 < 4) (h1 : f1 < 4) (h2 : f2 < 4) (h3 : f3 < 4) (h4 : f4 < 4) (h5 : t0 < 2) (h6 : t1 < 2) (h7 : t2 < 2) (h8 : t3 < 2) : (f0 + 4 * f1 + 16 * f2 + 64 * f3 + 256 * f4 + 1024 * t0 + 2048 * t1 + 4096 * t2 + 8192 * t3) / 4 ^ 1 % 4 = f1 := by
  have e : (f0 + 4 * f1 + 16 * f2 + 64 * f3 + 256 * f4 + 1024 * t0 + 2048 * t1 + 4096 * t2 + 8192 * t3) / 4 = f1 + 4 * f2 + 16 * f3 + 64 * f4 + 256 * t0 + 512 * t1 + 1024 * t2 + 2048 * t3 := by omega
  show (f0 + 4 * f1 + 16 * f2 + 64 * f3 + 256 * f4 + 1024 * t0 + 2048 * t1 + 4096 * t2 + 8192 * t3) / 4 % 4 = f1
  rw [e]
  omega
theorem fm_d1 {f0 f1 f2 f3 f4 t0 t1 t2 t3 : Nat} (h0 : f0 < 4) (h1 : f1 < 4) (h2 : f2 < 4) (h3 : f3 < 4) (h4 : f4 < 4) (h5 : t0 < 2) (h6 : t1 < 2) (h7 : t2 < 2) (h8 : t3 < 2) : (t0 + 2 * t1 + 4 * t2 + 8 * t3 + 16 * f0 + 64 * f1 + 256 * f2 + 1024 * f3 + 4096 * f4) / 2 ^ (4 + 2 * 1) % 4 = f1 := by
  have e : (t0 + 2 * t1 + 4 * t2 + 8 * t3 + 16 * f0 + 64 * f1 + 256 * f2 + 1024 * f3 + 4096 * f4) / 64 = f1 + 4 * f2 + 16 * f3 + 64 * f4 := by omega
  show (t0 + 2 * t1 + 4 * t2 + 8 * t3 + 16 * f0 + 64 * f1 + 256 * f2 + 1024 * f3 + 4096 * f4) / 64 % 4 = f1
  rw [e]
  omega
theorem fo_d2 {f0 f1 f2 f3 f4 t0 t1 t2 t3 : Nat} (h0 : f0 < 4) (h1 : f1 < 4) (h2 : f2 < 4) (h3 : f3 < 4) (h4 : f4 < 4) (h5 : t0 < 2) (h6 : t1 < 2) (h7 : t2 < 2) (h8 : t3 < 2) : (f0 + 4 * f1 + 16 * f2 + 64 * f3 + 256 * f4 + 1024 * t0 + 2048 * t1 + 4096 * t2 + 8192 * t3) / 4 ^ 2 % 4 = f2 := by
  have e : (f0 + 4 * f1 + 16 * f2 + 64 * f3 + 256 * f4 + 1024 * t0 + 2048 * t1 + 4096 * t2 + 8192 * t3) / 16 = f2 + 4 * f3 + 16 * f4 + 64 * t0 + 128 * t1 + 256 * t2 + 512 * t3 := by omega
  show (f0 + 4 * f1 + 16 * f2 + 64 * f3 + 256 * f4 + 1024 * t0 + 2048 * t1 + 4096 * t2 + 8192 * t3) / 16 % 4 = f2
  rw [e]
  omega
theorem fm_d2 {f0 f1 f2 f3 f4 t0 t1 t2 t3 : Nat} (h0 : f0 < 4) (h1 : f1 < 4) (h2 : f2 < 4) (h3 : f3 < 4) (h4 : f4 < 4) (h5 : t0 < 2) (h6 : t1 < 2) (h7 : t2 < 2) (h8 : t3 < 2) : (t0 + 2 * t1 + 4 * t2 + 8 * t3 + 16 * f0 + 64 * f1 + 256 * f2 + 1024 * f3 + 4096 * f4) / 2 ^ (4 + 2 * 2) % 4 = f2 := by
  have e : (t0 + 2 * t1 + 4 * t2 + 8 * t3 + 16 * f0 + 64 * f1 + 256 * f2 + 1024 * f3 + 4096 * f4) / 256 = f2 + 4 * f3 + 16 * f4 := by omega
  show (t0 + 2 * t1 + 4 * t2 + 8 * t3 + 16 * f0 + 64 * f1 + 256 * f2 + 1024 * f3 + 4096 * f4) / 256 % 4 = f2
  rw [e]
  omega
theorem fo_d3 {f0 f1 f2 f3 f4 t0 t1 t2 t3 : Nat} (h0 : f0 < 4) (h1 : f1 < 4) (h2 : f2 < 4) (h3 : f3 < 4) (h4 : f4 < 4) (h5 : t0 < 2) (h6 : t1 < 2) (h7 : t2 < 2) (h8 : t3 < 2) : (f0 + 4 * f1 + 16 * f2 + 64 * f3 + 256 * f4 + 1024 * t0 + 2048 * t1 + 4096 * t2 + 8192 * t3) / 4 ^ 3 % 4 = f3 := by
  have e : (f0 + 4 * f1 + 16 * f2 + 64 * f3 + 256 * f4 + 1024 * t0 + 2048 * t1 + 4096 * t2 + 8192 * t3) / 64 = f3 + 4 * f4 + 16 * t0 + 32 * t1 + 64 * t2 + 128 * t3 := by omega
  show (f0 + 4 * f1 + 16 * f2 + 64 * f3 + 256 * f4 + 1024 * t0 + 2048 * t1 + 4096 * t2 + 8192 * t3) / 64 % 4 = f3
  rw [e]
  omega
theorem fm_d3 {f0 f1 f2 f3 f4 t0 t1 t2 t3 : Nat} (h0 : f0 < 4) (h1 : f1 < 4) (h2 : f2 < 4) (h3 : f3 < 4) (h4 : f4 < 4) (h5 : t0 < 2) (h6 : t1 < 2) (h7 : t2 < 2) (h8 : t3 < 2) : (t0 + 2 * t1 + 4 * t2 + 8 * t3 + 16 * f0 + 64 * f1 + 256 * f2 + 1024 * f3 + 4096 * f4) / 2 ^ (4 + 2 * 3) % 4 = f3 := by
  have e : (t0 + 2 * t1 + 4 * t2 + 8 * t3 + 16 * f0 + 64 * f1 + 256 * f2 + 1024 * f3 + 4096 * f4) / 1024 = f3 + 4 * f4 := by omega
  show (t0 + 2 * t1 + 4 * t2 + 8 * t3 + 16 * f0 + 64 * f1 + 256 * f2 + 1024 * f3 + 4096 * f4) / 1024 % 4 = f3
  rw [e]
  omega
theorem fo_d4 {f0 f1 f2 f3 f4 t0 t1 t2 t3 : Nat} (h0 : f0 < 4) (h1 : f1 < 4) (h2 : f2 < 4) (h3 : f3 < 4) (h4 : f4 < 4) (h5 : t0 < 2) (h6 : t1 < 2) (h7 : t2 < 2) (h8 : t3 < 2) : (f0 + 4 * f1 + 16 * f2 + 64 * f3 + 256 * f4 + 1024 * t0 + 2048 * t1 + 4096 * t2 + 8192 * t3) / 4 ^ 4 % 4 = f4 := by
  have e : (f0 + 4 * f1 + 16 * f2 + 64 * f3 + 256 * f4 + 1024 * t0 + 2048 * t1 + 4096 * t2 + 8192 * t3) / 256 = f4 + 4 * t0 + 8 * t1 + 16 * t2 + 32 * t3 := by omega
  show (f0 + 4 * f1 + 16 * f2 + 64 * f3 + 256 * f4 + 1024 * t0 + 2048 * t1 + 4096 * t2 + 8192 * t3) / 256 % 4 = f4
  rw [e]
  omega
theorem fm_d4 {f0 f1 f2 f3 f4 t0 t1 t2 t3 : Nat} (h0 : f0 < 4) (h1 : f1 < 4) (h2 : f2 < 4) (h3 : f3 < 4) (h4 : f4 < 4) (h5 : t0 < 2) (h6 : t1 < 2) (h7 : t2 < 2) (h8 : t3 < 2) : (t0 + 2 * t1 + 4 * t2 + 8 * t3 + 16 * f0 + 64 * f1 + 256 * f2 + 1024 * f3 + 4096 * f4) / 2 ^ (4 + 2 * 4) % 4 = f4 := by
  have e : (t0 + 2 * t1 + 4 * t2 + 8 * t3 + 16 * f0 + 64 * f1 + 256 * f2 + 1024 * f3 + 4096 * f4) / 4096 = f4 := by omega
  show (t0 + 2 * t1 + 4 * t2 + 8 * t3 + 16 * f0 + 64 * f1 + 256 * f2 + 1024 * f3 + 4096 * f4) / 4096 % 4 = f4
  rw [e]
  omega
theorem th_d0 {f0 f1 f2 f3 f4 t0 t1 t2 t3 : Nat} (h0 : f0 < 4) (h1 : f1 < 4) (h2 : f2 < 4) (h3 : f3 < 4) (h4 : f4 < 4) (h5 : t0 < 2) (h6 : t1 < 2) (h7 : t2 < 2) (h8 : t3 < 2) : (f0 + 4 * f1 + 16 * f2 + 64 * f3 + 256 * f4 + 1024 * t0 + 2048 * t1 + 4096 * t2 + 8192 * t3) / 2 ^ (10 + 0) % 2 = t0 := by
  have e : (f0 + 4 * f1 + 16 * f2 + 64 * f3 + 256 * f4 + 1024 * t0 + 2048 * t1 + 4096 * t2 + 8192 * t3) / 1024 = t0 + 2 * t1 + 4 * t2 + 8 * t3 := by omega
  show (f0 + 4 * f1 + 16 * f2 + 64 * f3 + 256 * f4 + 1024 * t0 + 2048 * t1 + 4096 * t2 + 8192 * t3) / 1024 % 2 = t0
  rw [e]
  omega
theorem tm_d0 {f0 f1 f2 f3 f4 t0 t1 t2 t3 : Nat} (h0 : f0 < 4) (h1 : f1 < 4) (h2 : f2 < 4) (h3 : f3 < 4) (h4 : f4 < 4) (h5 : t0 < 2) (h6 : t1 < 2) (h7 : t2 < 2) (h8 : t3 < 2) : (t0 + 2 * t1 + 4 * t2 + 8 * t3 + 16 * f0 + 64 * f1 + 256 * f2 + 1024 * f3 + 4096 * f4) / 2 ^ 0 % 2 = t0 := by
  have e : (t0 + 2 * t1 + 4 * t2 + 8 * t3 + 16 * f0 + 64 * f1 + 256 * f2 + 1024 * f3 + 4096 * f4) / 1 = t0 + 2 * t1 + 4 * t2 + 8 * t3 + 16 * f0 + 64 * f1 + 256 * f2 + 1024 * f3 + 4096 * f4 := by omega
  show (t0 + 2 * t1 + 4 * t2 + 8 * t3 + 16 * f0 + 64 * f1 + 256 * f2 + 1024 * f3 + 4096 * f4) / 1 % 2 = t0
  rw [e]
  omega
theorem th_d1 {f0 f1 f2 f3 f4 t0 t1 t2 t3 : Nat} (h0 : f0 < 4) (h1 : f1 < 4) (h2 : f2 < 4) (h3 : f3 < 4) (h4 : f4 < 4) (h5 : t0 < 2) (h6 : t1 < 2) (h7 : t2 < 2) (h8 : t3 < 2) : (f0 + 4 * f1 + 16 * f2 + 64 * f3 + 256 * f4 + 1024 * t0 + 2048 * t1 + 4096 * t2 + 8192 * t3) / 2 ^ (10 + 1) % 2 = t1 := by
  have e : (f0 + 4 * f1 + 16 * f2 + 64 * f3 + 256 * f4 + 1024 * t0 + 2048 * t1 + 4096 * t2 + 8192 * t3) / 2048 = t1 + 2 * t2 + 4 * t3 := by omega
  show (f0 + 4 * f1 + 16 * f2 + 64 * f3 + 256 * f4 + 1024 * t0 + 2048 * t1 + 4096 * t2 + 8192 * t3) / 2048 % 2 = t1
  rw [e]
  omega
theorem tm_d1 {f0 f1 f2 f3 f4 t0 t1 t2 t3 : Nat} (h0 : f0 < 4) (h1 : f1 < 4) (h2 : f2 < 4) (h3 : f3 < 4) (h4 : f4 < 4) (h5 : t0 < 2) (h6 : t1 < 2) (h7 : t2 < 2) (h8 : t3 < 2) : (t0 + 2 * t1 + 4 * t2 + 8 * t3 + 16 * f0 + 64 * f1 + 256 * f2 + 1024 * f3 + 4096 * f4) / 2 ^ 1 % 2 = t1 := by
  have e : (t0 + 2 * t1 + 4 * t2 + 8 * t3 + 16 * f0 + 64 * f1 + 256 * f2 + 1024 * f3 + 4096 * f4) / 2 = t1 + 2 * t2 + 4 * t3 + 8 * f0 + 32 * f1 + 128 * f2 + 512 * f3 + 2048 * f4 := by omega
  show (t0 + 2 * t1 + 4 * t2 + 8 * t3 + 16 * f0 + 64 * f1 + 256 * f2 + 1024 * f3 + 4096 * f4) / 2 % 2 = t1
  rw [e]
  omega
theorem th_d2 {f0 f1 f2 f3 f4 t0 t1 t2 t3 : Nat} (h0 : f0 < 4) (h1 : f1 < 4) (h2 : f2 < 4) (h3 : f3 < 4) (h4 : f4 < 4) (h5 : t0 < 2) (h6 : t1 < 2) (h7 : t2 < 2) (h8 : t3 < 2) : (f0 + 4 * f1 + 16 * f2 + 64 * f3 + 256 * f4 + 1024 * t0 + 2048 * t1 + 4096 * t2 + 8192 * t3) / 2 ^ (10 + 2) % 2 = t2 := by
  have e : (f0 + 4 * f1 + 16 * f2 + 64 * f3 + 256 * f4 + 1024 * t0 + 2048 * t1 + 4096 * t2 + 8192 * t3) / 4096 = t2 + 2 * t3 := by omega
  show (f0 + 4 * f1 + 16 * f2 + 64 * f3 + 256 * f4 + 1024 * t0 + 2048 * t1 + 4096 * t2 + 8192 * t3) / 4096 % 2 = t2
  rw [e]
  omega
theorem tm_d2 {f0 f1 f2 f3 f4 t0 t1 t2 t3 : Nat} (h0 : f0 < 4) (h1 : f1 < 4) (h2 : f2 < 4) (h3 : f3 < 4) (h4 : f4 < 4) (h5 : t0 < 2) (h6 : t1 < 2) (h7 : t2 < 2) (h8 : t3 < 2) : (t0 + 2 * t1 + 4 * t2 + 8 * t3 + 16 * f0 + 64 * f1 + 256 * f2 + 1024 * f3 + 4096 * f4) / 2 ^ 2 % 2 = t2 := by
  have e : (t0 + 2 * t1 + 4 * t2 + 8 * t3 + 16 * f0 + 64 * f1 + 256 * f2 + 1024 * f3 + 4096 * f4) / 4 = t2 + 2 * t3 + 4 * f0 + 16 * f1 + 64 * f2 + 256 * f3 + 1024 * f4 := by omega
  show (t0 + 2 * t1 + 4 * t2 + 8 * t3 + 16 * f0 + 64 * f1 + 256 * f2 + 1024 * f3 + 4096 * f4) / 4 % 2 = t2
  rw [e]
  omega
theorem th_d3 {f0 f1 f2 f3 f4 t0 t1 t2 t3 : Nat} (h0 : f0 < 4) (h1 : f1 < 4) (h2 : f2 < 4) (h3 : f3 < 4) (h4 : f4 < 4) (h5 : t0 < 2) (h6 : t1 < 2) (h7 : t2 < 2) (h8 : t3 < 2) : (f0 + 4 * f1 + 16 * f2 + 64 * f3 + 256 * f4 + 1024 * t0 + 2048 * t1 + 4096 * t2 + 8192 * t3) / 2 ^ (10 + 3) % 2 = t3 := by
  have e : (f0 + 4 * f1 + 16 * f2 + 64 * f3 + 256 * f4 + 1024 * t0 + 2048 * t1 + 4096 * t2 + 8192 * t3) / 8192 = t3 := by omega
  show (f0 + 4 * f1 + 16 * f2 + 64 * f3 + 256 * f4 + 1024 * t0 + 2048 * t1 + 4096 * t2 + 8192 * t3) / 8192 % 2 = t3
  rw [e]
  omega
theorem tm_d3 {f0 f1 f2 f3 f4 t0 t1 t2 t3 : Nat} (h0 : f0 < 4) (h1 : f1 < 4) (h2 : f2 < 4) (h3 : f3 < 4) (h4 : f4 < 4) (h5 : t0 < 2) (h6 : t1 < 2) (h7 : t2 < 2) (h8 : t3 < 2) : (t0 + 2 * t1 + 4 * t2 + 8 * t3 + 16 * f0 + 64 * f1 + 256 * f2 + 1024 * f3 + 4096 * f4) / 2 ^ 3 % 2 = t3 := by
  have e : (t0 + 2 * t1 + 4 * t2 + 8 * t3 + 16 * f0 + 64 * f1 + 256 * f2 + 1024 * f3 + 4096 * f4) / 8 = t3 + 2 * f0 + 8 * f1 + 32 * f2 + 128 * f3 + 512 * f4 := by omega
  show (t0 + 2 * t1 + 4 * t2 + 8 * t3 + 16 * f0 + 64 * f1 + 256 * f2 + 1024 * f3 + 4096 * f4) / 8 % 2 = t3
  rw [e]
  omega
theorem pu_d0 {f0 f1 f2 f3 f4 t0 t1 t2 t3 : Nat} (h0 : f0 < 4) (h1 : f1 < 4) (h2 : f2 < 4) (h3 : f3 < 4) (h4 : f4 < 4) (h5 : t0 < 2) (h6 : t1 < 2) (h7 : t2 < 2) (h8 : t3 < 2) (f : Nat) : pu (f0 + 4 * f1 + 16 * f2 + 64 * f3 + 256 * f4 + 1024 * t0 + 2048 * t1 + 4096 * t2 + 8192 * t3) 0 f = f + 4 * f1 + 16 * f2 + 64 * f3 + 256 * f4 + 1024 * t0 + 2048 * t1 + 4096 * t2 + 8192 * t3 := by
  unfold pu
  rw [fo_d0 h0 h1 h2 h3 h4 h5 h6 h7 h8]
  show _ - f0 * 1 + f * 1 = _
  omega
theorem pu_d1 {f0 f1 f2 f3 f4 t0 t1 t2 t3 : Nat} (h0 : f0 < 4) (h1 : f1 < 4) (h2 : f2 < 4) (h3 : f3 < 4) (h4 : f4 < 4) (h5 : t0 < 2) (h6 : t1 < 2) (h7 : t2 < 2) (h8 : t3 < 2) (f : Nat) : pu (f0 + 4 * f1 + 16 * f2 + 64 * f3 + 256 * f4 + 1024 * t0 + 2048 * t1 + 4096 * t2 + 8192 * t3) 1 f = f0 + 4 * f + 16 * f2 + 64 * f3 + 256 * f4 + 1024 * t0 + 2048 * t1 + 4096 * t2 + 8192 * t3 := by
  unfold pu
  rw [fo_d1 h0 h1 h2 h3 h4 h5 h6 h7 h8]
  show _ - f1 * 4 + f * 4 = _
  omega
theorem pu_d2 {f0 f1 f2 f3 f4 t0 t1 t2 t3 : Nat} (h0 : f0 < 4) (h1 : f1 < 4) (h2 : f2 < 4) (h3 : f3 < 4) (h4 : f4 < 4) (h5 : t0 < 2) (h6 : t1 < 2) (h7 : t2 < 2) (h8 : t3 < 2) (f : Nat) : pu (f0 + 4 * f1 + 16 * f2 + 64 * f3 + 256 * f4 + 1024 * t0 + 2048 * t1 + 4096 * t2 + 8192 * t3) 2 f = f0 + 4 * f1 + 16 * f + 64 * f3 + 256 * f4 + 1024 * t0 + 2048 * t1 + 4096 * t2 + 8192 * t3 := by
  unfold pu
  rw [fo_d2 h0 h1 h2 h3 h4 h5 h6 h7 h8]
  show _ - f2 * 16 + f * 16 = _
  omega
theorem pu_d3 {f0 f1 f2 f3 f4 t0 t1 t2 t3 : Nat} (h0 : f0 < 4) (h1 : f1 < 4) (h2 : f2 < 4) (h3 : f3 < 4) (h4 : f4 < 4) (h5 : t0 < 2) (h6 : t1 < 2) (h7 : t2 < 2) (h8 : t3 < 2) (f : Nat) : pu (f0 + 4 * f1 + 16 * f2 + 64 * f3 + 256 * f4 + 1024 * t0 + 2048 * t1 + 4096 * t2 + 8192 * t3) 3 f = f0 + 4 * f1 + 16 * f2 + 64 * f + 256 * f4 + 1024 * t0 + 2048 * t1 + 4096 * t2 + 8192 * t3 := by
  unfold pu
  rw [fo_d3 h0 h1 h2 h3 h4 h5 h6 h7 h8]
  show _ - f3 * 64 + f * 64 = _
  omega
theorem pu_d4 {f0 f1 f2 f3 f4 t0 t1 t2 t3 : Nat} (h0 : f0 < 4) (h1 : f1 < 4) (h2 : f2 < 4) (h3 : f3 < 4) (h4 : f4 < 4) (h5 : t0 < 2) (h6 : t1 < 2) (h7 : t2 < 2) (h8 : t3 < 2) (f : Nat) : pu (f0 + 4 * f1 + 16 * f2 + 64 * f3 + 256 * f4 + 1024 * t0 + 2048 * t1 + 4096 * t2 + 8192 * t3) 4 f = f0 + 4 * f1 + 16 * f2 + 64 * f3 + 256 * f + 1024 * t0 + 2048 * t1 + 4096 * t2 + 8192 * t3 := by
  unfold pu
  rw [fo_d4 h0 h1 h2 h3 h4 h5 h6 h7 h8]
  show _ - f4 * 256 + f * 256 = _
  omega
theorem mk_d0 {f0 f1 f2 f3 f4 t0 t1 t2 t3 : Nat} (h0 : f0 < 4) (h1 : f1 < 4) (h2 : f2 < 4) (h3 : f3 < 4) (h4 : f4 < 4) (h5 : t0 < 2) (h6 : t1 < 2) (h7 : t2 < 2) (h8 : t3 < 2) (b : Nat) : mk (f0 + 4 * f1 + 16 * f2 + 64 * f3 + 256 * f4 + 1024 * t0 + 2048 * t1 + 4096 * t2 + 8192 * t3) 0 b = f0 + 4 * f1 + 16 * f2 + 64 * f3 + 256 * f4 + 1024 * b + 2048 * t1 + 4096 * t2 + 8192 * t3 := by
  unfold mk
  rw [th_d0 h0 h1 h2 h3 h4 h5 h6 h7 h8]
  show _ - t0 * 1024 + b * 1024 = _
  omega
theorem mk_d1 {f0 f1 f2 f3 f4 t0 t1 t2 t3 : Nat} (h0 : f0 < 4) (h1 : f1 < 4) (h2 : f2 < 4) (h3 : f3 < 4) (h4 : f4 < 4) (h5 : t0 < 2) (h6 : t1 < 2) (h7 : t2 < 2) (h8 : t3 < 2) (b : Nat) : mk (f0 + 4 * f1 + 16 * f2 + 64 * f3 + 256 * f4 + 1024 * t0 + 2048 * t1 + 4096 * t2 + 8192 * t3) 1 b = f0 + 4 * f1 + 16 * f2 + 64 * f3 + 256 * f4 + 1024 * t0 + 2048 * b + 4096 * t2 + 8192 * t3 := by
  unfold mk
  rw [th_d1 h0 h1 h2 h3 h4 h5 h6 h7 h8]
  show _ - t1 * 2048 + b * 2048 = _
  omega
theorem mk_d2 {f0 f1 f2 f3 f4 t0 t1 t2 t3 : Nat} (h0 : f0 < 4) (h1 : f1 < 4) (h2 : f2 < 4) (h3 : f3 < 4) (h4 : f4 < 4) (h5 : t0 < 2) (h6 : t1 < 2) (h7 : t2 < 2) (h8 : t3 < 2) (b : Nat) : mk (f0 + 4 * f1 + 16 * f2 + 64 * f3 + 256 * f4 + 1024 * t0 + 2048 * t1 + 4096 * t2 + 8192 * t3) 2 b = f0 + 4 * f1 + 16 * f2 + 64 * f3 + 256 * f4 + 1024 * t0 + 2048 * t1 + 4096 * b + 8192 * t3 := by
  unfold mk
  rw [th_d2 h0 h1 h2 h3 h4 h5 h6 h7 h8]
  show _ - t2 * 4096 + b * 4096 = _
  omega
theorem mk_d3 {f0 f1 f2 f3 f4 t0 t1 t2 t3 : Nat} (h0 : f0 < 4) (h1 : f1 < 4) (h2 : f2 < 4) (h3 : f3 < 4) (h4 : f4 < 4) (h5 : t0 < 2) (h6 : t1 < 2) (h7 : t2 < 2) (h8 : t3 < 2) (b : Nat) : mk (f0 + 4 * f1 + 16 * f2 + 64 * f3 + 256 * f4 + 1024 * t0 + 2048 * t1 + 4096 * t2 + 8192 * t3) 3 b = f0 + 4 * f1 + 16 * f2 + 64 * f3 + 256 * f4 + 1024 * t0 + 2048 * t1 + 4096 * t2 + 8192 * b := by
  unfold mk
  rw [th_d3 h0 h1 h2 h3 h4 h5 h6 h7 h8]
  show _ - t3 * 8192 + b * 8192 = _
  omega
theorem ph_lt {s : Nat} (hs : s < 16384) : ph s < 16384 := by
  obtain ⟨f0, f1, f2, f3, f4, t0, t1, t2, t3, h0, h1, h2, h3, h4, h5, h6, h7, h8, rfl⟩ := digits hs
  rw [ph_dig h0 h1 h2 h3 h4 h5 h6 h7 h8]
  omega
theorem ph_inj {s t : Nat} (hs : s < 16384) (ht : t < 16384) (h : ph s = ph t) : s = t := by unfold ph at h; omega
theorem pu_lt {s c f : Nat} (hs : s < 16384) (hc : c < 5) (hf : f < 4) : pu s c f < 16384 := by
  obtain ⟨f0, f1, f2, f3, f4, t0, t1, t2, t3, h0, h1, h2, h3, h4, h5, h6, h7, h8, rfl⟩ := digits hs
  rcases lt5 hc with rfl | rfl | rfl | rfl | rfl
  · rw [pu_d0 h0 h1 h2 h3 h4 h5 h6 h7 h8]; omega
  · rw [pu_d1 h0 h1 h2 h3 h4 h5 h6 h7 h8]; omega
  · rw [pu_d2 h0 h1 h2 h3 h4 h5 h6 h7 h8]; omega
  · rw [pu_d3 h0 h1 h2 h3 h4 h5 h6 h7 h8]; omega
  · rw [pu_d4 h0 h1 h2 h3 h4 h5 h6 h7 h8]; omega
theorem mk_lt {s t b : Nat} (hs : s < 16384) (ht : t < 4) (hb : b < 2) : mk s t b < 16384 := by
  obtain ⟨f0, f1, f2, f3, f4, t0, t1, t2, t3, h0, h1, h2, h3, h4, h5, h6, h7, h8, rfl⟩ := digits hs
  rcases lt4 ht with rfl | rfl | rfl | rfl
  · rw [mk_d0 h0 h1 h2 h3 h4 h5 h6 h7 h8]; omega
  · rw [mk_d1 h0 h1 h2 h3 h4 h5 h6 h7 h8]; omega
  · rw [mk_d2 h0 h1 h2 h3 h4 h5 h6 h7 h8]; omega
  · rw [mk_d3 h0 h1 h2 h3 h4 h5 h6 h7 h8]; omega
theorem ph_fo {s c : Nat} (hs : s < 16384) (hc : c < 5) : ph s / 2 ^ (4 + 2 * c) % 4 = fo s c := by
  obtain ⟨f0, f1, f2, f3, f4, t0, t1, t2, t3, h0, h1, h2, h3, h4, h5, h6, h7, h8, rfl⟩ := digits hs
  rw [ph_dig h0 h1 h2 h3 h4 h5 h6 h7 h8]
  rcases lt5 hc with rfl | rfl | rfl | rfl | rfl
  · rw [fm_d0 h0 h1 h2 h3 h4 h5 h6 h7 h8]; exact (fo_d0 h0 h1 h2 h3 h4 h5 h6 h7 h8).symm
  · rw [fm_d1 h0 h1 h2 h3 h4 h5 h6 h7 h8]; exact (fo_d1 h0 h1 h2 h3 h4 h5 h6 h7 h8).symm
  · rw [fm_d2 h0 h1 h2 h3 h4 h5 h6 h7 h8]; exact (fo_d2 h0 h1 h2 h3 h4 h5 h6 h7 h8).symm
  · rw [fm_d3 h0 h1 h2 h3 h4 h5 h6 h7 h8]; exact (fo_d3 h0 h1 h2 h3 h4 h5 h6 h7 h8).symm
  · rw [fm_d4 h0 h1 h2 h3 h4 h5 h6 h7 h8]; exact (fo_d4 h0 h1 h2 h3 h4 h5 h6 h7 h8).symm
theorem ph_th {s t : Nat} (hs : s < 16384) (ht : t < 4) : ph s / 2 ^ t % 2 = th s t := by
  obtain ⟨f0, f1, f2, f3, f4, t0, t1, t2, t3, h0, h1, h2, h3, h4, h5, h6, h7, h8, rfl⟩ := digits hs
  rw [ph_dig h0 h1 h2 h3 h4 h5 h6 h7 h8]
  rcases lt4 ht with rfl | rfl | rfl | rfl
  · rw [tm_d0 h0 h1 h2 h3 h4 h5 h6 h7 h8]; exact (th_d0 h0 h1 h2 h3 h4 h5 h6 h7 h8).symm
  · rw [tm_d1 h0 h1 h2 h3 h4 h5 h6 h7 h8]; exact (th_d1 h0 h1 h2 h3 h4 h5 h6 h7 h8).symm
  · rw [tm_d2 h0 h1 h2 h3 h4 h5 h6 h7 h8]; exact (th_d2 h0 h1 h2 h3 h4 h5 h6 h7 h8).symm
  · rw [tm_d3 h0 h1 h2 h3 h4 h5 h6 h7 h8]; exact (th_d3 h0 h1 h2 h3 h4 h5 h6 h7 h8).symm
theorem ph_pu {s c f : Nat} (hs : s < 16384) (hc : c < 5) (hf : f < 4) : ph s - ph s / 2 ^ (4 + 2 * c) % 4 * 2 ^ (4 + 2 * c) + f * 2 ^ (4 + 2 * c) = ph (pu s c f) := by
  obtain ⟨f0, f1, f2, f3, f4, t0, t1, t2, t3, h0, h1, h2, h3, h4, h5, h6, h7, h8, rfl⟩ := digits hs
  rw [ph_dig h0 h1 h2 h3 h4 h5 h6 h7 h8]
  rcases lt5 hc with rfl | rfl | rfl | rfl | rfl
  · rw [pu_d0 h0 h1 h2 h3 h4 h5 h6 h7 h8, fm_d0 h0 h1 h2 h3 h4 h5 h6 h7 h8, ph_dig hf h1 h2 h3 h4 h5 h6 h7 h8]
    show _ - f0 * 16 + f * 16 = _
    omega
  · rw [pu_d1 h0 h1 h2 h3 h4 h5 h6 h7 h8, fm_d1 h0 h1 h2 h3 h4 h5 h6 h7 h8, ph_dig h0 hf h2 h3 h4 h5 h6 h7 h8]
    show _ - f1 * 64 + f * 64 = _
    omega
  · rw [pu_d2 h0 h1 h2 h3 h4 h5 h6 h7 h8, fm_d2 h0 h1 h2 h3 h4 h5 h6 h7 h8, ph_dig h0 h1 hf h3 h4 h5 h6 h7 h8]
    show _ - f2 * 256 + f * 256 = _
    omega
  · rw [pu_d3 h0 h1 h2 h3 h4 h5 h6 h7 h8, fm_d3 h0 h1 h2 h3 h4 h5 h6 h7 h8, ph_dig h0 h1 h2 hf h4 h5 h6 h7 h8]
    show _ - f3 * 1024 + f * 1024 = _
    omega
  · rw [pu_d4 h0 h1 h2 h3 h4 h5 h6 h7 h8, fm_d4 h0 h1 h2 h3 h4 h5 h6 h7 h8, ph_dig h0 h1 h2 h3 hf h5 h6 h7 h8]
    show _ - f4 * 4096 + f * 4096 = _
    omega
theorem ph_mk {s t b : Nat} (hs : s < 16384) (ht : t < 4) (hb : b < 2) : ph s - ph s / 2 ^ t % 2 * 2 ^ t + b * 2 ^ t = ph (mk s t b) := by
  obtain ⟨f0, f1, f2, f3, f4, t0, t1, t2, t3, h0, h1, h2, h3, h4, h5, h6, h7, h8, rfl⟩ := digits hs
  rw [ph_dig h0 h1 h2 h3 h4 h5 h6 h7 h8]
  rcases lt4 ht with rfl | rfl | rfl | rfl
  · rw [mk_d0 h0 h1 h2 h3 h4 h5 h6 h7 h8, tm_d0 h0 h1 h2 h3 h4 h5 h6 h7 h8, ph_dig h0 h1 h2 h3 h4 hb h6 h7 h8]
    show _ - t0 * 1 + b * 1 = _
    omega
  · rw [mk_d1 h0 h1 h2 h3 h4 h5 h6 h7 h8, tm_d1 h0 h1 h2 h3 h4 h5 h6 h7 h8, ph_dig h0 h1 h2 h3 h4 h5 hb h7 h8]
    show _ - t1 * 2 + b * 2 = _
    omega
  · rw [mk_d2 h0 h1 h2 h3 h4 h5 h6 h7 h8, tm_d2 h0 h1 h2 h3 h4 h5 h6 h7 h8, ph_dig h0 h1 h2 h3 h4 h5 h6 hb h8]
    show _ - t2 * 4 + b * 4 = _
    omega
  · rw [mk_d3 h0 h1 h2 h3 h4 h5 h6 h7 h8, tm_d3 h0 h1 h2 h3 h4 h5 h6 h7 h8, ph_dig h0 h1 h2 h3 h4 h5 h6 h7 hb]
    show _ - t3 * 8 + b * 8 = _
    omega
theorem fo_pu {s c f d : Nat} (hs : s < 16384) (hc : c < 5) (hf : f < 4) (hd : d < 5) : fo (pu s c f) d = if d = c then f else fo s d := by
  obtain ⟨f0, f1, f2, f3, f4, t0, t1, t2, t3, h0, h1, h2, h3, h4, h5, h6, h7, h8, rfl⟩ := digits hs
  rcases lt5 hc with rfl | rfl | rfl | rfl | rfl <;> rcases lt5 hd with rfl | rfl | rfl | rfl | rfl
  · rw [pu_d0 h0 h1 h2 h3 h4 h5 h6 h7 h8]; exact (fo_d0 hf h1 h2 h3 h4 h5 h6 h7 h8).trans rfl
  · rw [pu_d0 h0 h1 h2 h3 h4 h5 h6 h7 h8]; exact (fo_d1 hf h1 h2 h3 h4 h5 h6 h7 h8).trans (fo_d1 h0 h1 h2 h3 h4 h5 h6 h7 h8).symm
  · rw [pu_d0 h0 h1 h2 h3 h4 h5 h6 h7 h8]; exact (fo_d2 hf h1 h2 h3 h4 h5 h6 h7 h8).trans (fo_d2 h0 h1 h2 h3 h4 h5 h6 h7 h8).symm
  · rw [pu_d0 h0 h1 h2 h3 h4 h5 h6 h7 h8]; exact (fo_d3 hf h1 h2 h3 h4 h5 h6 h7 h8).trans (fo_d3 h0 h1 h2 h3 h4 h5 h6 h7 h8).symm
  · rw [pu_d0 h0 h1 h2 h3 h4 h5 h6 h7 h8]; exact (fo_d4 hf h1 h2 h3 h4 h5 h6 h7 h8).trans (fo_d4 h0 h1 h2 h3 h4 h5 h6 h7 h8).symm
  · rw [pu_d1 h0 h1 h2 h3 h4 h5 h6 h7 h8]; exact (fo_d0 h0 hf h2 h3 h4 h5 h6 h7 h8).trans (fo_d0 h0 h1 h2 h3 h4 h5 h6 h7 h8).symm
  · rw [pu_d1 h0 h1 h2 h3 h4 h5 h6 h7 h8]; exact (fo_d1 h0 hf h2 h3 h4 h5 h6 h7 h8).trans rfl
  · rw [pu_d1 h0 h1 h2 h3 h4 h5 h6 h7 h8]; exact (fo_d2 h0 hf h2 h3 h4 h5 h6 h7 h8).trans (fo_d2 h0 h1 h2 h3 h4 h5 h6 h7 h8).symm
  · rw [pu_d1 h0 h1 h2 h3 h4 h5 h6 h7 h8]; exact (fo_d3 h0 hf h2 h3 h4 h5 h6 h7 h8).trans (fo_d3 h0 h1 h2 h3 h4 h5 h6 h7 h8).symm
  · rw [pu_d1 h0 h1 h2 h3 h4 h5 h6 h7 h8]; exact (fo_d4 h0 hf h2 h3 h4 h5 h6 h7 h8).trans (fo_d4 h0 h1 h2 h3 h4 h5 h6 h7 h8).symm
  · rw [pu_d2 h0 h1 h2 h3 h4 h5 h6 h7 h8]; exact (fo_d0 h0 h1 hf h3 h4 h5 h6 h7 h8).trans (fo_d0 h0 h1 h2 h3 h4 h5 h6 h7 h8).symm
  · rw [pu_d2 h0 h1 h2 h3 h4 h5 h6 h7 h8]; exact (fo_d1 h0 h1 hf h3 h4 h5 h6 h7 h8).trans (fo_d1 h0 h1 h2 h3 h4 h5 h6 h7 h8).symm
  · rw [pu_d2 h0 h1 h2 h3 h4 h5 h6 h7 h8]; exact (fo_d2 h0 h1 hf h3 h4 h5 h6 h7 h8).trans rfl
  · rw [pu_d2 h0 h1 h2 h3 h4 h5 h6 h7 h8]; exact (fo_d3 h0 h1 hf h3 h4 h5 h6 h7 h8).trans (fo_d3 h0 h1 h2 h3 h4 h5 h6 h7 h8).symm
  · rw [pu_d2 h0 h1 h2 h3 h4 h5 h6 h7 h8]; exact (fo_d4 h0 h1 hf h3 h4 h5 h6 h7 h8).trans (fo_d4 h0 h1 h2 h3 h4 h5 h6 h7 h8).symm
  · rw [pu_d3 h0 h1 h2 h3 h4 h5 h6 h7 h8]; exact (fo_d0 h0 h1 h2 hf h4 h5 h6 h7 h8).trans (fo_d0 h0 h1 h2 h3 h4 h5 h6 h7 h8).symm
  · rw [pu_d3 h0 h1 h2 h3 h4 h5 h6 h7 h8]; exact (fo_d1 h0 h1 h2 hf h4 h5 h6 h7 h8).trans (fo_d1 h0 h1 h2 h3 h4 h5 h6 h7 h8).symm
  · rw [pu_d3 h0 h1 h2 h3 h4 h5 h6 h7 h8]; exact (fo_d2 h0 h1 h2 hf h4 h5 h6 h7 h8).trans (fo_d2 h0 h1 h2 h3 h4 h5 h6 h7 h8).symm
  · rw [pu_d3 h0 h1 h2 h3 h4 h5 h6 h7 h8]; exact (fo_d3 h0 h1 h2 hf h4 h5 h6 h7 h8).trans rfl
  · rw [pu_d3 h0 h1 h2 h3 h4 h5 h6 h7 h8]; exact (fo_d4 h0 h1 h2 hf h4 h5 h6 h7 h8).trans (fo_d4 h0 h1 h2 h3 h4 h5 h6 h7 h8).symm
  · rw [pu_d4 h0 h1 h2 h3 h4 h5 h6 h7 h8]; exact (fo_d0 h0 h1 h2 h3 hf h5 h6 h7 h8).trans (fo_d0 h0 h1 h2 h3 h4 h5 h6 h7 h8).symm
  · rw [pu_d4 h0 h1 h2 h3 h4 h5 h6 h7 h8]; exact (fo_d1 h0 h1 h2 h3 hf h5 h6 h7 h8).trans (fo_d1 h0 h1 h2 h3 h4 h5 h6 h7 h8).symm
  · rw [pu_d4 h0 h1 h2 h3 h4 h5 h6 h7 h8]; exact (fo_d2 h0 h1 h2 h3 hf h5 h6 h7 h8).trans (fo_d2 h0 h1 h2 h3 h4 h5 h6 h7 h8).symm
  · rw [pu_d4 h0 h1 h2 h3 h4 h5 h6 h7 h8]; exact (fo_d3 h0 h1 h2 h3 hf h5 h6 h7 h8).trans (fo_d3 h0 h1 h2 h3 h4 h5 h6 h7 h8).symm
  · rw [pu_d4 h0 h1 h2 h3 h4 h5 h6 h7 h8]; exact (fo_d4 h0 h1 h2 h3 hf h5 h6 h7 h8).trans rfl
theorem fo_mk {s t b d : Nat} (hs : s < 16384) (ht : t < 4) (hb : b < 2) (hd : d < 5) : fo (mk s t b) d = fo s d := by
  obtain ⟨f0, f1, f2, f3, f4, t0, t1, t2, t3, h0, h1, h2, h3, h4, h5, h6, h7, h8, rfl⟩ := digits hs
  rcases lt4 ht with rfl | rfl | rfl | rfl <;> rcases lt5 hd with rfl | rfl | rfl | rfl | rfl
  · rw [mk_d0 h0 h1 h2 h3 h4 h5 h6 h7 h8]; exact (fo_d0 h0 h1 h2 h3 h4 hb h6 h7 h8).trans (fo_d0 h0 h1 h2 h3 h4 h5 h6 h7 h8).symm
  · rw [mk_d0 h0 h1 h2 h3 h4 h5 h6 h7 h8]; exact (fo_d1 h0 h1 h2 h3 h4 hb h6 h7 h8).trans (fo_d1 h0 h1 h2 h3 h4 h5 h6 h7 h8).symm
  · rw [mk_d0 h0 h1 h2 h3 h4 h5 h6 h7 h8]; exact (fo_d2 h0 h1 h2 h3 h4 hb h6 h7 h8).trans (fo_d2 h0 h1 h2 h3 h4 h5 h6 h7 h8).symm
  · rw [mk_d0 h0 h1 h2 h3 h4 h5 h6 h7 h8]; exact (fo_d3 h0 h1 h2 h3 h4 hb h6 h7 h8).trans (fo_d3 h0 h1 h2 h3 h4 h5 h6 h7 h8).symm
  · rw [mk_d0 h0 h1 h2 h3 h4 h5 h6 h7 h8]; exact (fo_d4 h0 h1 h2 h3 h4 hb h6 h7 h8).trans (fo_d4 h0 h1 h2 h3 h4 h5 h6 h7 h8).symm
  · rw [mk_d1 h0 h1 h2 h3 h4 h5 h6 h7 h8]; exact (fo_d0 h0 h1 h2 h3 h4 h5 hb h7 h8).trans (fo_d0 h0 h1 h2 h3 h4 h5 h6 h7 h8).symm
  · rw [mk_d1 h0 h1 h2 h3 h4 h5 h6 h7 h8]; exact (fo_d1 h0 h1 h2 h3 h4 h5 hb h7 h8).trans (fo_d1 h0 h1 h2 h3 h4 h5 h6 h7 h8).symm
  · rw [mk_d1 h0 h1 h2 h3 h4 h5 h6 h7 h8]; exact (fo_d2 h0 h1 h2 h3 h4 h5 hb h7 h8).trans (fo_d2 h0 h1 h2 h3 h4 h5 h6 h7 h8).symm
  · rw [mk_d1 h0 h1 h2 h3 h4 h5 h6 h7 h8]; exact (fo_d3 h0 h1 h2 h3 h4 h5 hb h7 h8).trans (fo_d3 h0 h1 h2 h3 h4 h5 h6 h7 h8).symm
  · rw [mk_d1 h0 h1 h2 h3 h4 h5 h6 h7 h8]; exact (fo_d4 h0 h1 h2 h3 h4 h5 hb h7 h8).trans (fo_d4 h0 h1 h2 h3 h4 h5 h6 h7 h8).symm
  · rw [mk_d2 h0 h1 h2 h3 h4 h5 h6 h7 h8]; exact (fo_d0 h0 h1 h2 h3 h4 h5 h6 hb h8).trans (fo_d0 h0 h1 h2 h3 h4 h5 h6 h7 h8).symm
  · rw [mk_d2 h0 h1 h2 h3 h4 h5 h6 h7 h8]; exact (fo_d1 h0 h1 h2 h3 h4 h5 h6 hb h8).trans (fo_d1 h0 h1 h2 h3 h4 h5 h6 h7 h8).symm
  · rw [mk_d2 h0 h1 h2 h3 h4 h5 h6 h7 h8]; exact (fo_d2 h0 h1 h2 h3 h4 h5 h6 hb h8).trans (fo_d2 h0 h1 h2 h3 h4 h5 h6 h7 h8).symm
  · rw [mk_d2 h0 h1 h2 h3 h4 h5 h6 h7 h8]; exact (fo_d3 h0 h1 h2 h3 h4 h5 h6 hb h8).trans (fo_d3 h0 h1 h2 h3 h4 h5 h6 h7 h8).symm
  · rw [mk_d2 h0 h1 h2 h3 h4 h5 h6 h7 h8]; exact (fo_d4 h0 h1 h2 h3 h4 h5 h6 hb h8).trans (fo_d4 h0 h1 h2 h3 h4 h5 h6 h7 h8).symm
  · rw [mk_d3 h0 h1 h2 h3 h4 h5 h6 h7 h8]; exact (fo_d0 h0 h1 h2 h3 h4 h5 h6 h7 hb).trans (fo_d0 h0 h1 h2 h3 h4 h5 h6 h7 h8).symm
  · rw [mk_d3 h0 h1 h2 h3 h4 h5 h6 h7 h8]; exact (fo_d1 h0 h1 h2 h3 h4 h5 h6 h7 hb).trans (fo_d1 h0 h1 h2 h3 h4 h5 h6 h7 h8).symm
  · rw [mk_d3 h0 h1 h2 h3 h4 h5 h6 h7 h8]; exact (fo_d2 h0 h1 h2 h3 h4 h5 h6 h7 hb).trans (fo_d2 h0 h1 h2 h3 h4 h5 h6 h7 h8).symm
  · rw [mk_d3 h0 h1 h2 h3 h4 h5 h6 h7 h8]; exact (fo_d3 h0 h1 h2 h3 h4 h5 h6 h7 hb).trans (fo_d3 h0 h1 h2 h3 h4 h5 h6 h7 h8).symm
  · rw [mk_d3 h0 h1 h2 h3 h4 h5 h6 h7 h8]; exact (fo_d4 h0 h1 h2 h3 h4 h5 h6 h7 hb).trans (fo_d4 h0 h1 h2 h3 h4 h5 h6 h7 h8).symm
theorem w8_formOf {s c : Nat} (hs : s < 16384) (hc : c < 5) : (nI (ph s) >>> (((4 : Int32) + ((2 : Int32) * nI c)) &&& 31)) &&& (3 : Int32) = nI (fo s c) := by
  have h1 := ph_lt hs
  have h2 := ph_fo hs hc
  rcases lt5 hc with rfl | rfl | rfl | rfl | rfl
  · rw [pk_shrN (by omega) _ 4 (by decide), pk_andN (by omega) 2 (by decide)]; exact congrArg nI h2
  · rw [pk_shrN (by omega) _ 6 (by decide), pk_andN (by omega) 2 (by decide)]; exact congrArg nI h2
  · rw [pk_shrN (by omega) _ 8 (by decide), pk_andN (by omega) 2 (by decide)]; exact congrArg nI h2
  · rw [pk_shrN (by omega) _ 10 (by decide), pk_andN (by omega) 2 (by decide)]; exact congrArg nI h2
  · rw [pk_shrN (by omega) _ 12 (by decide), pk_andN (by omega) 2 (by decide)]; exact congrArg nI h2
theorem w8_thing {s t : Nat} (hs : s < 16384) (ht : t < 4) : (nI (ph s) >>> (nI t &&& 31)) &&& (1 : Int32) = nI (th s t) := by
  have h1 := ph_lt hs
  have h2 := ph_th hs ht
  rcases lt4 ht with rfl | rfl | rfl | rfl
  · rw [pk_shrN (by omega) _ 0 (by decide), pk_andN (by omega) 1 (by decide)]; exact congrArg nI h2
  · rw [pk_shrN (by omega) _ 1 (by decide), pk_andN (by omega) 1 (by decide)]; exact congrArg nI h2
  · rw [pk_shrN (by omega) _ 2 (by decide), pk_andN (by omega) 1 (by decide)]; exact congrArg nI h2
  · rw [pk_shrN (by omega) _ 3 (by decide), pk_andN (by omega) 1 (by decide)]; exact congrArg nI h2
theorem w8_put {s c f : Nat} (hs : s < 16384) (hc : c < 5) (hf : f < 4) : (nI (ph s) &&& (((3 : Int32) <<< (((4 : Int32) + ((2 : Int32) * nI c)) &&& 31)) ^^^ (-1 : Int32))) ||| (nI f <<< (((4 : Int32) + ((2 : Int32) * nI c)) &&& 31)) = nI (ph (pu s c f)) := by
  have h2 := ph_pu hs hc hf
  rw [← h2]
  have h1 := ph_lt hs
  generalize ph s = z at h1
  obtain ⟨e, ha, hb⟩ := split128 h1
  rcases lt5 hc with rfl | rfl | rfl | rfl | rfl <;> rcases lt4 hf with rfl | rfl | rfl | rfl
  · have h := bf_p4 (z / 128) ha (z % 128) hb 0 (by decide)
    rw [← e] at h
    rw [show ((3 : Int32) <<< (((4 : Int32) + ((2 : Int32) * nI 0)) &&& 31)) ^^^ (-1 : Int32) = nI 4294967247 from by decide, show nI 0 <<< (((4 : Int32) + ((2 : Int32) * nI 0)) &&& 31) = nI 0 from by decide, nb_and (by omega) (by decide), nb_or (a := Nat.land z 4294967247) (b := 0) (Nat.lt_of_le_of_lt (show Nat.land z 4294967247 ≤ z from Nat.and_le_left) (by omega)) (by decide)]
    exact congrArg nI h
  · have h := bf_p4 (z / 128) ha (z % 128) hb 1 (by decide)
    rw [← e] at h
    rw [show ((3 : Int32) <<< (((4 : Int32) + ((2 : Int32) * nI 0)) &&& 31)) ^^^ (-1 : Int32) = nI 4294967247 from by decide, show nI 1 <<< (((4 : Int32) + ((2 : Int32) * nI 0)) &&& 31) = nI 16 from by decide, nb_and (by omega) (by decide), nb_or (a := Nat.land z 4294967247) (b := 16) (Nat.lt_of_le_of_lt (show Nat.land z 4294967247 ≤ z from Nat.and_le_left) (by omega)) (by decide)]
    exact congrArg nI h
  · have h := bf_p4 (z / 128) ha (z % 128) hb 2 (by decide)
    rw [← e] at h
    rw [show ((3 : Int32) <<< (((4 : Int32) + ((2 : Int32) * nI 0)) &&& 31)) ^^^ (-1 : Int32) = nI 4294967247 from by decide, show nI 2 <<< (((4 : Int32) + ((2 : Int32) * nI 0)) &&& 31) = nI 32 from by decide, nb_and (by omega) (by decide), nb_or (a := Nat.land z 4294967247) (b := 32) (Nat.lt_of_le_of_lt (show Nat.land z 4294967247 ≤ z from Nat.and_le_left) (by omega)) (by decide)]
    exact congrArg nI h
  · have h := bf_p4 (z / 128) ha (z % 128) hb 3 (by decide)
    rw [← e] at h
    rw [show ((3 : Int32) <<< (((4 : Int32) + ((2 : Int32) * nI 0)) &&& 31)) ^^^ (-1 : Int32) = nI 4294967247 from by decide, show nI 3 <<< (((4 : Int32) + ((2 : Int32) * nI 0)) &&& 31) = nI 48 from by decide, nb_and (by omega) (by decide), nb_or (a := Nat.land z 4294967247) (b := 48) (Nat.lt_of_le_of_lt (show Nat.land z 4294967247 ≤ z from Nat.and_le_left) (by omega)) (by decide)]
    exact congrArg nI h
  · have h := bf_p6 (z / 128) ha (z % 128) hb 0 (by decide)
    rw [← e] at h
    rw [show ((3 : Int32) <<< (((4 : Int32) + ((2 : Int32) * nI 1)) &&& 31)) ^^^ (-1 : Int32) = nI 4294967103 from by decide, show nI 0 <<< (((4 : Int32) + ((2 : Int32) * nI 1)) &&& 31) = nI 0 from by decide, nb_and (by omega) (by decide), nb_or (a := Nat.land z 4294967103) (b := 0) (Nat.lt_of_le_of_lt (show Nat.land z 4294967103 ≤ z from Nat.and_le_left) (by omega)) (by decide)]
    exact congrArg nI h
  · have h := bf_p6 (z / 128) ha (z % 128) hb 1 (by decide)
    rw [← e] at h
    rw [show ((3 : Int32) <<< (((4 : Int32) + ((2 : Int32) * nI 1)) &&& 31)) ^^^ (-1 : Int32) = nI 4294967103 from by decide, show nI 1 <<< (((4 : Int32) + ((2 : Int32) * nI 1)) &&& 31) = nI 64 from by decide, nb_and (by omega) (by decide), nb_or (a := Nat.land z 4294967103) (b := 64) (Nat.lt_of_le_of_lt (show Nat.land z 4294967103 ≤ z from Nat.and_le_left) (by omega)) (by decide)]
    exact congrArg nI h
  · have h := bf_p6 (z / 128) ha (z % 128) hb 2 (by decide)
    rw [← e] at h
    rw [show ((3 : Int32) <<< (((4 : Int32) + ((2 : Int32) * nI 1)) &&& 31)) ^^^ (-1 : Int32) = nI 4294967103 from by decide, show nI 2 <<< (((4 : Int32) + ((2 : Int32) * nI 1)) &&& 31) = nI 128 from by decide, nb_and (by omega) (by decide), nb_or (a := Nat.land z 4294967103) (b := 128) (Nat.lt_of_le_of_lt (show Nat.land z 4294967103 ≤ z from Nat.and_le_left) (by omega)) (by decide)]
    exact congrArg nI h
  · have h := bf_p6 (z / 128) ha (z % 128) hb 3 (by decide)
    rw [← e] at h
    rw [show ((3 : Int32) <<< (((4 : Int32) + ((2 : Int32) * nI 1)) &&& 31)) ^^^ (-1 : Int32) = nI 4294967103 from by decide, show nI 3 <<< (((4 : Int32) + ((2 : Int32) * nI 1)) &&& 31) = nI 192 from by decide, nb_and (by omega) (by decide), nb_or (a := Nat.land z 4294967103) (b := 192) (Nat.lt_of_le_of_lt (show Nat.land z 4294967103 ≤ z from Nat.and_le_left) (by omega)) (by decide)]
    exact congrArg nI h
  · have h := bf_p8 (z / 128) ha (z % 128) hb 0 (by decide)
    rw [← e] at h
    rw [show ((3 : Int32) <<< (((4 : Int32) + ((2 : Int32) * nI 2)) &&& 31)) ^^^ (-1 : Int32) = nI 4294966527 from by decide, show nI 0 <<< (((4 : Int32) + ((2 : Int32) * nI 2)) &&& 31) = nI 0 from by decide, nb_and (by omega) (by decide), nb_or (a := Nat.land z 4294966527) (b := 0) (Nat.lt_of_le_of_lt (show Nat.land z 4294966527 ≤ z from Nat.and_le_left) (by omega)) (by decide)]
    exact congrArg nI h
  · have h := bf_p8 (z / 128) ha (z % 128) hb 1 (by decide)
    rw [← e] at h
    rw [show ((3 : Int32) <<< (((4 : Int32) + ((2 : Int32) * nI 2)) &&& 31)) ^^^ (-1 : Int32) = nI 4294966527 from by decide, show nI 1 <<< (((4 : Int32) + ((2 : Int32) * nI 2)) &&& 31) = nI 256 from by decide, nb_and (by omega) (by decide), nb_or (a := Nat.land z 4294966527) (b := 256) (Nat.lt_of_le_of_lt (show Nat.land z 4294966527 ≤ z from Nat.and_le_left) (by omega)) (by decide)]
    exact congrArg nI h
  · have h := bf_p8 (z / 128) ha (z % 128) hb 2 (by decide)
    rw [← e] at h
    rw [show ((3 : Int32) <<< (((4 : Int32) + ((2 : Int32) * nI 2)) &&& 31)) ^^^ (-1 : Int32) = nI 4294966527 from by decide, show nI 2 <<< (((4 : Int32) + ((2 : Int32) * nI 2)) &&& 31) = nI 512 from by decide, nb_and (by omega) (by decide), nb_or (a := Nat.land z 4294966527) (b := 512) (Nat.lt_of_le_of_lt (show Nat.land z 4294966527 ≤ z from Nat.and_le_left) (by omega)) (by decide)]
    exact congrArg nI h
  · have h := bf_p8 (z / 128) ha (z % 128) hb 3 (by decide)
    rw [← e] at h
    rw [show ((3 : Int32) <<< (((4 : Int32) + ((2 : Int32) * nI 2)) &&& 31)) ^^^ (-1 : Int32) = nI 4294966527 from by decide, show nI 3 <<< (((4 : Int32) + ((2 : Int32) * nI 2)) &&& 31) = nI 768 from by decide, nb_and (by omega) (by decide), nb_or (a := Nat.land z 4294966527) (b := 768) (Nat.lt_of_le_of_lt (show Nat.land z 4294966527 ≤ z from Nat.and_le_left) (by omega)) (by decide)]
    exact congrArg nI h
  · have h := bf_p10 (z / 128) ha (z % 128) hb 0 (by decide)
    rw [← e] at h
    rw [show ((3 : Int32) <<< (((4 : Int32) + ((2 : Int32) * nI 3)) &&& 31)) ^^^ (-1 : Int32) = nI 4294964223 from by decide, show nI 0 <<< (((4 : Int32) + ((2 : Int32) * nI 3)) &&& 31) = nI 0 from by decide, nb_and (by omega) (by decide), nb_or (a := Nat.land z 4294964223) (b := 0) (Nat.lt_of_le_of_lt (show Nat.land z 4294964223 ≤ z from Nat.and_le_left) (by omega)) (by decide)]
    exact congrArg nI h
  · have h := bf_p10 (z / 128) ha (z % 128) hb 1 (by decide)
    rw [← e] at h
    rw [show ((3 : Int32) <<< (((4 : Int32) + ((2 : Int32) * nI 3)) &&& 31)) ^^^ (-1 : Int32) = nI 4294964223 from by decide, show nI 1 <<< (((4 : Int32) + ((2 : Int32) * nI 3)) &&& 31) = nI 1024 from by decide, nb_and (by omega) (by decide), nb_or (a := Nat.land z 4294964223) (b := 1024) (Nat.lt_of_le_of_lt (show Nat.land z 4294964223 ≤ z from Nat.and_le_left) (by omega)) (by decide)]
    exact congrArg nI h
  · have h := bf_p10 (z / 128) ha (z % 128) hb 2 (by decide)
    rw [← e] at h
    rw [show ((3 : Int32) <<< (((4 : Int32) + ((2 : Int32) * nI 3)) &&& 31)) ^^^ (-1 : Int32) = nI 4294964223 from by decide, show nI 2 <<< (((4 : Int32) + ((2 : Int32) * nI 3)) &&& 31) = nI 2048 from by decide, nb_and (by omega) (by decide), nb_or (a := Nat.land z 4294964223) (b := 2048) (Nat.lt_of_le_of_lt (show Nat.land z 4294964223 ≤ z from Nat.and_le_left) (by omega)) (by decide)]
    exact congrArg nI h
  · have h := bf_p10 (z / 128) ha (z % 128) hb 3 (by decide)
    rw [← e] at h
    rw [show ((3 : Int32) <<< (((4 : Int32) + ((2 : Int32) * nI 3)) &&& 31)) ^^^ (-1 : Int32) = nI 4294964223 from by decide, show nI 3 <<< (((4 : Int32) + ((2 : Int32) * nI 3)) &&& 31) = nI 3072 from by decide, nb_and (by omega) (by decide), nb_or (a := Nat.land z 4294964223) (b := 3072) (Nat.lt_of_le_of_lt (show Nat.land z 4294964223 ≤ z from Nat.and_le_left) (by omega)) (by decide)]
    exact congrArg nI h
  · have h := bf_p12 (z / 128) ha (z % 128) hb 0 (by decide)
    rw [← e] at h
    rw [show ((3 : Int32) <<< (((4 : Int32) + ((2 : Int32) * nI 4)) &&& 31)) ^^^ (-1 : Int32) = nI 4294955007 from by decide, show nI 0 <<< (((4 : Int32) + ((2 : Int32) * nI 4)) &&& 31) = nI 0 from by decide, nb_and (by omega) (by decide), nb_or (a := Nat.land z 4294955007) (b := 0) (Nat.lt_of_le_of_lt (show Nat.land z 4294955007 ≤ z from Nat.and_le_left) (by omega)) (by decide)]
    exact congrArg nI h
  · have h := bf_p12 (z / 128) ha (z % 128) hb 1 (by decide)
    rw [← e] at h
    rw [show ((3 : Int32) <<< (((4 : Int32) + ((2 : Int32) * nI 4)) &&& 31)) ^^^ (-1 : Int32) = nI 4294955007 from by decide, show nI 1 <<< (((4 : Int32) + ((2 : Int32) * nI 4)) &&& 31) = nI 4096 from by decide, nb_and (by omega) (by decide), nb_or (a := Nat.land z 4294955007) (b := 4096) (Nat.lt_of_le_of_lt (show Nat.land z 4294955007 ≤ z from Nat.and_le_left) (by omega)) (by decide)]
    exact congrArg nI h
  · have h := bf_p12 (z / 128) ha (z % 128) hb 2 (by decide)
    rw [← e] at h
    rw [show ((3 : Int32) <<< (((4 : Int32) + ((2 : Int32) * nI 4)) &&& 31)) ^^^ (-1 : Int32) = nI 4294955007 from by decide, show nI 2 <<< (((4 : Int32) + ((2 : Int32) * nI 4)) &&& 31) = nI 8192 from by decide, nb_and (by omega) (by decide), nb_or (a := Nat.land z 4294955007) (b := 8192) (Nat.lt_of_le_of_lt (show Nat.land z 4294955007 ≤ z from Nat.and_le_left) (by omega)) (by decide)]
    exact congrArg nI h
  · have h := bf_p12 (z / 128) ha (z % 128) hb 3 (by decide)
    rw [← e] at h
    rw [show ((3 : Int32) <<< (((4 : Int32) + ((2 : Int32) * nI 4)) &&& 31)) ^^^ (-1 : Int32) = nI 4294955007 from by decide, show nI 3 <<< (((4 : Int32) + ((2 : Int32) * nI 4)) &&& 31) = nI 12288 from by decide, nb_and (by omega) (by decide), nb_or (a := Nat.land z 4294955007) (b := 12288) (Nat.lt_of_le_of_lt (show Nat.land z 4294955007 ≤ z from Nat.and_le_left) (by omega)) (by decide)]
    exact congrArg nI h
theorem w8_turned {s t f : Nat} (hs : s < 16384) (ht : t < 4) (hf : f < 2) : (nI (ph s) &&& (((1 : Int32) <<< (nI t &&& 31)) ^^^ (-1 : Int32))) ||| (nI f <<< (nI t &&& 31)) = nI (ph (mk s t f)) := by
  have h2 := ph_mk hs ht hf
  rw [← h2]
  have h1 := ph_lt hs
  generalize ph s = z at h1
  obtain ⟨e, ha, hb⟩ := split128 h1
  rcases lt4 ht with rfl | rfl | rfl | rfl <;> rcases lt2 hf with rfl | rfl
  · have h := bf_b0 (z / 128) ha (z % 128) hb 0 (by decide)
    rw [← e] at h
    rw [show ((1 : Int32) <<< (nI 0 &&& 31)) ^^^ (-1 : Int32) = nI 4294967294 from by decide, show nI 0 <<< (nI 0 &&& 31) = nI 0 from by decide, nb_and (by omega) (by decide), nb_or (a := Nat.land z 4294967294) (b := 0) (Nat.lt_of_le_of_lt (show Nat.land z 4294967294 ≤ z from Nat.and_le_left) (by omega)) (by decide)]
    exact congrArg nI h
  · have h := bf_b0 (z / 128) ha (z % 128) hb 1 (by decide)
    rw [← e] at h
    rw [show ((1 : Int32) <<< (nI 0 &&& 31)) ^^^ (-1 : Int32) = nI 4294967294 from by decide, show nI 1 <<< (nI 0 &&& 31) = nI 1 from by decide, nb_and (by omega) (by decide), nb_or (a := Nat.land z 4294967294) (b := 1) (Nat.lt_of_le_of_lt (show Nat.land z 4294967294 ≤ z from Nat.and_le_left) (by omega)) (by decide)]
    exact congrArg nI h
  · have h := bf_b1 (z / 128) ha (z % 128) hb 0 (by decide)
    rw [← e] at h
    rw [show ((1 : Int32) <<< (nI 1 &&& 31)) ^^^ (-1 : Int32) = nI 4294967293 from by decide, show nI 0 <<< (nI 1 &&& 31) = nI 0 from by decide, nb_and (by omega) (by decide), nb_or (a := Nat.land z 4294967293) (b := 0) (Nat.lt_of_le_of_lt (show Nat.land z 4294967293 ≤ z from Nat.and_le_left) (by omega)) (by decide)]
    exact congrArg nI h
  · have h := bf_b1 (z / 128) ha (z % 128) hb 1 (by decide)
    rw [← e] at h
    rw [show ((1 : Int32) <<< (nI 1 &&& 31)) ^^^ (-1 : Int32) = nI 4294967293 from by decide, show nI 1 <<< (nI 1 &&& 31) = nI 2 from by decide, nb_and (by omega) (by decide), nb_or (a := Nat.land z 4294967293) (b := 2) (Nat.lt_of_le_of_lt (show Nat.land z 4294967293 ≤ z from Nat.and_le_left) (by omega)) (by decide)]
    exact congrArg nI h
  · have h := bf_b2 (z / 128) ha (z % 128) hb 0 (by decide)
    rw [← e] at h
    rw [show ((1 : Int32) <<< (nI 2 &&& 31)) ^^^ (-1 : Int32) = nI 4294967291 from by decide, show nI 0 <<< (nI 2 &&& 31) = nI 0 from by decide, nb_and (by omega) (by decide), nb_or (a := Nat.land z 4294967291) (b := 0) (Nat.lt_of_le_of_lt (show Nat.land z 4294967291 ≤ z from Nat.and_le_left) (by omega)) (by decide)]
    exact congrArg nI h
  · have h := bf_b2 (z / 128) ha (z % 128) hb 1 (by decide)
    rw [← e] at h
    rw [show ((1 : Int32) <<< (nI 2 &&& 31)) ^^^ (-1 : Int32) = nI 4294967291 from by decide, show nI 1 <<< (nI 2 &&& 31) = nI 4 from by decide, nb_and (by omega) (by decide), nb_or (a := Nat.land z 4294967291) (b := 4) (Nat.lt_of_le_of_lt (show Nat.land z 4294967291 ≤ z from Nat.and_le_left) (by omega)) (by decide)]
    exact congrArg nI h
  · have h := bf_b3 (z / 128) ha (z % 128) hb 0 (by decide)
    rw [← e] at h
    rw [show ((1 : Int32) <<< (nI 3 &&& 31)) ^^^ (-1 : Int32) = nI 4294967287 from by decide, show nI 0 <<< (nI 3 &&& 31) = nI 0 from by decide, nb_and (by omega) (by decide), nb_or (a := Nat.land z 4294967287) (b := 0) (Nat.lt_of_le_of_lt (show Nat.land z 4294967287 ≤ z from Nat.and_le_left) (by omega)) (by decide)]
    exact congrArg nI h
  · have h := bf_b3 (z / 128) ha (z % 128) hb 1 (by decide)
    rw [← e] at h
    rw [show ((1 : Int32) <<< (nI 3 &&& 31)) ^^^ (-1 : Int32) = nI 4294967287 from by decide, show nI 1 <<< (nI 3 &&& 31) = nI 8 from by decide, nb_and (by omega) (by decide), nb_or (a := Nat.land z 4294967287) (b := 8) (Nat.lt_of_le_of_lt (show Nat.land z 4294967287 ≤ z from Nat.and_le_left) (by omega)) (by decide)]
    exact congrArg nI h
