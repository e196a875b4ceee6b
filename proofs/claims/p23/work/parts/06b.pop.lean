/-! own rows: how many bits a number below 65536 has, by Integer.bitCount's steps -/
def jmPopK : Nat → Nat → Nat
  | 0, _ => 0
  | k + 1, a => jmPopK k a + jB (a.testBit k)
def jmPop (a : Nat) : Nat := jmPopK 16 a
def jmSwar (a : Nat) : Nat :=
  let x1 := a - (a / 2 ^ 1 &&& 1431655765)
  let x2 := (x1 &&& 858993459) + (x1 / 2 ^ 2 &&& 858993459)
  let x3 := (x2 + x2 / 2 ^ 4) &&& 252645135
  let x4 := x3 + x3 / 2 ^ 8
  let x5 := x4 + x4 / 2 ^ 16
  x5 &&& 63
theorem jmSwar_c0 : ∀ h, h < 16 → ∀ l, l < 256 → jmSwar (256 * (0 + h) + l) = jmPop (256 * (0 + h) + l) := by decide +kernel
theorem jmSwar_c1 : ∀ h, h < 16 → ∀ l, l < 256 → jmSwar (256 * (16 + h) + l) = jmPop (256 * (16 + h) + l) := by decide +kernel
theorem jmSwar_c2 : ∀ h, h < 16 → ∀ l, l < 256 → jmSwar (256 * (32 + h) + l) = jmPop (256 * (32 + h) + l) := by decide +kernel
theorem jmSwar_c3 : ∀ h, h < 16 → ∀ l, l < 256 → jmSwar (256 * (48 + h) + l) = jmPop (256 * (48 + h) + l) := by decide +kernel
theorem jmSwar_c4 : ∀ h, h < 16 → ∀ l, l < 256 → jmSwar (256 * (64 + h) + l) = jmPop (256 * (64 + h) + l) := by decide +kernel
theorem jmSwar_c5 : ∀ h, h < 16 → ∀ l, l < 256 → jmSwar (256 * (80 + h) + l) = jmPop (256 * (80 + h) + l) := by decide +kernel
theorem jmSwar_c6 : ∀ h, h < 16 → ∀ l, l < 256 → jmSwar (256 * (96 + h) + l) = jmPop (256 * (96 + h) + l) := by decide +kernel
theorem jmSwar_c7 : ∀ h, h < 16 → ∀ l, l < 256 → jmSwar (256 * (112 + h) + l) = jmPop (256 * (112 + h) + l) := by decide +kernel
theorem jmSwar_c8 : ∀ h, h < 16 → ∀ l, l < 256 → jmSwar (256 * (128 + h) + l) = jmPop (256 * (128 + h) + l) := by decide +kernel
theorem jmSwar_c9 : ∀ h, h < 16 → ∀ l, l < 256 → jmSwar (256 * (144 + h) + l) = jmPop (256 * (144 + h) + l) := by decide +kernel
theorem jmSwar_c10 : ∀ h, h < 16 → ∀ l, l < 256 → jmSwar (256 * (160 + h) + l) = jmPop (256 * (160 + h) + l) := by decide +kernel
theorem jmSwar_c11 : ∀ h, h < 16 → ∀ l, l < 256 → jmSwar (256 * (176 + h) + l) = jmPop (256 * (176 + h) + l) := by decide +kernel
theorem jmSwar_c12 : ∀ h, h < 16 → ∀ l, l < 256 → jmSwar (256 * (192 + h) + l) = jmPop (256 * (192 + h) + l) := by decide +kernel
theorem jmSwar_c13 : ∀ h, h < 16 → ∀ l, l < 256 → jmSwar (256 * (208 + h) + l) = jmPop (256 * (208 + h) + l) := by decide +kernel
theorem jmSwar_c14 : ∀ h, h < 16 → ∀ l, l < 256 → jmSwar (256 * (224 + h) + l) = jmPop (256 * (224 + h) + l) := by decide +kernel
theorem jmSwar_c15 : ∀ h, h < 16 → ∀ l, l < 256 → jmSwar (256 * (240 + h) + l) = jmPop (256 * (240 + h) + l) := by decide +kernel
theorem jmSwar_pop {a : Nat} (ha : a < 65536) : jmSwar a = jmPop a := by
  have e : 256 * (a / 256) + a % 256 = a := Nat.div_add_mod a 256
  have hl : a % 256 < 256 := Nat.mod_lt _ (by decide)
  have hh : a / 256 < 256 := by omega
  generalize a / 256 = h at e hh
  generalize a % 256 = l at e hl
  subst e
  by_cases q0 : h < 16
  · have c := jmSwar_c0 (h - 0) (by omega) l hl
    rwa [show 0 + (h - 0) = h by omega] at c
  by_cases q1 : h < 32
  · have c := jmSwar_c1 (h - 16) (by omega) l hl
    rwa [show 16 + (h - 16) = h by omega] at c
  by_cases q2 : h < 48
  · have c := jmSwar_c2 (h - 32) (by omega) l hl
    rwa [show 32 + (h - 32) = h by omega] at c
  by_cases q3 : h < 64
  · have c := jmSwar_c3 (h - 48) (by omega) l hl
    rwa [show 48 + (h - 48) = h by omega] at c
  by_cases q4 : h < 80
  · have c := jmSwar_c4 (h - 64) (by omega) l hl
    rwa [show 64 + (h - 64) = h by omega] at c
  by_cases q5 : h < 96
  · have c := jmSwar_c5 (h - 80) (by omega) l hl
    rwa [show 80 + (h - 80) = h by omega] at c
  by_cases q6 : h < 112
  · have c := jmSwar_c6 (h - 96) (by omega) l hl
    rwa [show 96 + (h - 96) = h by omega] at c
  by_cases q7 : h < 128
  · have c := jmSwar_c7 (h - 112) (by omega) l hl
    rwa [show 112 + (h - 112) = h by omega] at c
  by_cases q8 : h < 144
  · have c := jmSwar_c8 (h - 128) (by omega) l hl
    rwa [show 128 + (h - 128) = h by omega] at c
  by_cases q9 : h < 160
  · have c := jmSwar_c9 (h - 144) (by omega) l hl
    rwa [show 144 + (h - 144) = h by omega] at c
  by_cases q10 : h < 176
  · have c := jmSwar_c10 (h - 160) (by omega) l hl
    rwa [show 160 + (h - 160) = h by omega] at c
  by_cases q11 : h < 192
  · have c := jmSwar_c11 (h - 176) (by omega) l hl
    rwa [show 176 + (h - 176) = h by omega] at c
  by_cases q12 : h < 208
  · have c := jmSwar_c12 (h - 192) (by omega) l hl
    rwa [show 192 + (h - 192) = h by omega] at c
  by_cases q13 : h < 224
  · have c := jmSwar_c13 (h - 208) (by omega) l hl
    rwa [show 208 + (h - 208) = h by omega] at c
  by_cases q14 : h < 240
  · have c := jmSwar_c14 (h - 224) (by omega) l hl
    rwa [show 224 + (h - 224) = h by omega] at c
  by_cases q15 : h < 256
  · have c := jmSwar_c15 (h - 240) (by omega) l hl
    rwa [show 240 + (h - 240) = h by omega] at c
  omega
theorem jmPopK_le : ∀ k a, jmPopK k a ≤ k
  | 0, _ => Nat.le_refl 0
  | k + 1, a => by
    have h1 := jmPopK_le k a
    have h2 := jB_lt (a.testBit k)
    show jmPopK k a + jB (a.testBit k) ≤ k + 1
    omega
theorem jmPop_le (a : Nat) : jmPop a ≤ 16 := jmPopK_le 16 a
theorem s_u : ∀ n, n < 32 → (((nI n).toUInt32 &&& Int32.toUInt32 31).toBitVec % 32).toNat = n := by decide +kernel
