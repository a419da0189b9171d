/-! floorMod over all that can be -/
theorem fm_1 : ∀ i, i < 178 → ∀ P, P < 61 → 6 ≤ P → mJ9_floorMod_7cf53 (fun _ _ => 0) (nI i - nI 118) (nI P) = some (nI ((i + 20 * P - 118) % P)) := by decide +kernel
theorem fm_2 : ∀ i, i < 178 → ∀ P, P < 61 → 6 ≤ P → (if 0 ≤ (nI i - nI 118) - (nI i - nI 118) / nI P * nI P then (nI i - nI 118) - (nI i - nI 118) / nI P * nI P else (nI i - nI 118) - (nI i - nI 118) / nI P * nI P + nI P) = nI ((i + 20 * P - 118) % P) := by decide +kernel
