theorem bf_p0 : ∀ a, a < 128 → ∀ b, b < 128 → ∀ f, f < 4 → Nat.lor (Nat.land (128 * a + b) (4294967295 - 3)) (f * 1) = (128 * a + b) - (128 * a + b) / 1 % 4 * 1 + f * 1 := by decide +kernel
theorem bf_p2 : ∀ a, a < 128 → ∀ b, b < 128 → ∀ f, f < 4 → Nat.lor (Nat.land (128 * a + b) (4294967295 - 12)) (f * 4) = (128 * a + b) - (128 * a + b) / 4 % 4 * 4 + f * 4 := by decide +kernel
theorem bf_p4 : ∀ a, a < 128 → ∀ b, b < 128 → ∀ f, f < 4 → Nat.lor (Nat.land (128 * a + b) (4294967295 - 48)) (f * 16) = (128 * a + b) - (128 * a + b) / 16 % 4 * 16 + f * 16 := by decide +kernel
theorem bf_p6 : ∀ a, a < 128 → ∀ b, b < 128 → ∀ f, f < 4 → Nat.lor (Nat.land (128 * a + b) (4294967295 - 192)) (f * 64) = (128 * a + b) - (128 * a + b) / 64 % 4 * 64 + f * 64 := by decide +kernel
theorem bf_p8 : ∀ a, a < 128 → ∀ b, b < 128 → ∀ f, f < 4 → Nat.lor (Nat.land (128 * a + b) (4294967295 - 768)) (f * 256) = (128 * a + b) - (128 * a + b) / 256 % 4 * 256 + f * 256 := by decide +kernel
theorem bf_p10 : ∀ a, a < 128 → ∀ b, b < 128 → ∀ f, f < 4 → Nat.lor (Nat.land (128 * a + b) (4294967295 - 3072)) (f * 1024) = (128 * a + b) - (128 * a + b) / 1024 % 4 * 1024 + f * 1024 := by decide +kernel
theorem bf_p12 : ∀ a, a < 128 → ∀ b, b < 128 → ∀ f, f < 4 → Nat.lor (Nat.land (128 * a + b) (4294967295 - 12288)) (f * 4096) = (128 * a + b) - (128 * a + b) / 4096 % 4 * 4096 + f * 4096 := by decide +kernel
theorem bf_b0 : ∀ a, a < 128 → ∀ b, b < 128 → ∀ f, f < 2 → Nat.lor (Nat.land (128 * a + b) (4294967295 - 1)) (f * 1) = (128 * a + b) - (128 * a + b) / 1 % 2 * 1 + f * 1 := by decide +kernel
theorem bf_b1 : ∀ a, a < 128 → ∀ b, b < 128 → ∀ f, f < 2 → Nat.lor (Nat.land (128 * a + b) (4294967295 - 2)) (f * 2) = (128 * a + b) - (128 * a + b) / 2 % 2 * 2 + f * 2 := by decide +kernel
theorem bf_b2 : ∀ a, a < 128 → ∀ b, b < 128 → ∀ f, f < 2 → Nat.lor (Nat.land (128 * a + b) (4294967295 - 4)) (f * 4) = (128 * a + b) - (128 * a + b) / 4 % 2 * 4 + f * 4 := by decide +kernel
theorem bf_b3 : ∀ a, a < 128 → ∀ b, b < 128 → ∀ f, f < 2 → Nat.lor (Nat.land (128 * a + b) (4294967295 - 8)) (f * 8) = (128 * a + b) - (128 * a + b) / 8 % 2 * 8 + f * 8 := by decide +kernel
theorem bf_b10 : ∀ a, a < 128 → ∀ b, b < 128 → ∀ f, f < 2 → Nat.lor (Nat.land (128 * a + b) (4294967295 - 1024)) (f * 1024) = (128 * a + b) - (128 * a + b) / 1024 % 2 * 1024 + f * 1024 := by decide +kernel
theorem bf_b11 : ∀ a, a < 128 → ∀ b, b < 128 → ∀ f, f < 2 → Nat.lor (Nat.land (128 * a + b) (4294967295 - 2048)) (f * 2048) = (128 * a + b) - (128 * a + b) / 2048 % 2 * 2048 + f * 2048 := by decide +kernel
theorem bf_b12 : ∀ a, a < 128 → ∀ b, b < 128 → ∀ f, f < 2 → Nat.lor (Nat.land (128 * a + b) (4294967295 - 4096)) (f * 4096) = (128 * a + b) - (128 * a + b) / 4096 % 2 * 4096 + f * 4096 := by decide +kernel
theorem bf_b13 : ∀ a, a < 128 → ∀ b, b < 128 → ∀ f, f < 2 → Nat.lor (Nat.land (128 * a + b) (4294967295 - 8192)) (f * 8192) = (128 * a + b) - (128 * a + b) / 8192 % 2 * 8192 + f * 8192 := by decide +kernel
theorem bf_m0 : ∀ a, a < 128 → ∀ b, b < 128 → Nat.land (128 * a + b) 3 = (128 * a + b) / 1 % 4 * 1 := by decide +kernel
theorem bf_m2 : ∀ a, a < 128 → ∀ b, b < 128 → Nat.land (128 * a + b) 12 = (128 * a + b) / 4 % 4 * 4 := by decide +kernel
theorem bf_m4 : ∀ a, a < 128 → ∀ b, b < 128 → Nat.land (128 * a + b) 48 = (128 * a + b) / 16 % 4 * 16 := by decide +kernel
theorem bf_m6 : ∀ a, a < 128 → ∀ b, b < 128 → Nat.land (128 * a + b) 192 = (128 * a + b) / 64 % 4 * 64 := by decide +kernel
theorem bf_m8 : ∀ a, a < 128 → ∀ b, b < 128 → Nat.land (128 * a + b) 768 = (128 * a + b) / 256 % 4 * 256 := by decide +kernel
theorem bf_m10 : ∀ a, a < 128 → ∀ b, b < 128 → Nat.land (128 * a + b) 1024 = (128 * a + b) / 1024 % 2 * 1024 := by decide +kernel
theorem bf_m11 : ∀ a, a < 128 → ∀ b, b < 128 → Nat.land (128 * a + b) 2048 = (128 * a + b) / 2048 % 2 * 2048 := by decide +kernel
theorem bf_m12 : ∀ a, a < 128 → ∀ b, b < 128 → Nat.land (128 * a + b) 4096 = (128 * a + b) / 4096 % 2 * 4096 := by decide +kernel
theorem bf_m13 : ∀ a, a < 128 → ∀ b, b < 128 → Nat.land (128 * a + b) 8192 = (128 * a + b) / 8192 % 2 * 8192 := by decide +kernel
