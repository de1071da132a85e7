/-! ===== sets as bits ===== -/
theorem or_lt : ∀ b, b < 128 → ∀ x, x < 7 → b ||| 2 ^ x < 128 := by decide +kernel
theorem or_gt : ∀ b, b < 128 → ∀ x, x < 7 → ¬ bitN b x → b < b ||| 2 ^ x := by decide +kernel
theorem bit_or : ∀ b, b < 128 → ∀ x, x < 7 → ∀ y, y < 7 → (bitN (b ||| 2 ^ x) y ↔ (bitN b y ∨ y = x)) := by decide +kernel
abbrev Sub (b s : Nat) : Prop := ∀ x, x < 7 → bitN b x → bitN s x
theorem sub_and : ∀ b, b < 128 → ∀ s, s < 128 → (nI b &&& (nI s ^^^ (-1)) = nI 0 ↔ Sub b s) := by decide +kernel
theorem bit_ext : ∀ b, b < 128 → ∀ s, s < 128 → (∀ x, x < 7 → (bitN b x ↔ bitN s x)) → b = s := by decide +kernel
theorem bit_0 : ∀ x, x < 7 → ¬ bitN 0 x := by decide
theorem sub_gt : ∀ s, s < 128 → ∀ c, c < 128 → s < c → ¬ Sub c s := by decide +kernel
