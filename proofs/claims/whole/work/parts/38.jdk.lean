/-- how many of the lowest sixteen bits are set -/
def popc (x : Nat) : Nat := x % 2 + x / 2 % 2 + x / 4 % 2 + x / 8 % 2 + x / 16 % 2 + x / 32 % 2 + x / 64 % 2 + x / 128 % 2 + x / 256 % 2 + x / 512 % 2 + x / 1024 % 2 + x / 2048 % 2 + x / 4096 % 2 + x / 8192 % 2 + x / 16384 % 2 + x / 32768 % 2
def bc1 (x : Nat) : Nat := x - (x / 2 ^ 1 &&& 1431655765)
def bc2 (x : Nat) : Nat := (x &&& 858993459) + (x / 2 ^ 2 &&& 858993459)
def bc3 (x : Nat) : Nat := (x + x / 2 ^ 4) &&& 252645135
def bc4 (x : Nat) : Nat := x + x / 2 ^ 8
def bc5 (x : Nat) : Nat := x + x / 2 ^ 16
def bcc (x : Nat) : Bool := Nat.beq (bc5 (bc4 (bc3 (bc2 (bc1 x)))) &&& 63) (popc x) && Nat.ble (x / 2 ^ 1 &&& 1431655765) x
def all2 (f : Nat → Bool) : Nat → Nat → Bool
  | 0, b => f b
  | d + 1, b => all2 f d (2 * b) && all2 f d (2 * b + 1)
theorem all2_spec (f : Nat → Bool) : ∀ (d b : Nat), all2 f d b = true → ∀ x, 2 ^ d * b ≤ x → x < 2 ^ d * (b + 1) → f x = true
  | 0, b, h, x, h1, h2 => by
    have : x = b := by omega
    subst this
    exact h
  | d + 1, b, h, x, h1, h2 => by
    simp only [all2, Bool.and_eq_true] at h
    have e : 2 ^ (d + 1) = 2 * 2 ^ d := by rw [Nat.pow_succ]; omega
    rw [e] at h1 h2
    by_cases hx : x < 2 ^ d * (2 * b + 1)
    · exact all2_spec f d (2 * b) h.1 x (by rw [Nat.mul_assoc, Nat.mul_left_comm] at h1; exact h1) hx
    · refine all2_spec f d (2 * b + 1) h.2 x (by omega) ?_
      have : 2 ^ d * (2 * b + 1 + 1) = 2 * 2 ^ d * (b + 1) := by rw [Nat.mul_assoc, Nat.mul_left_comm]; congr 1
      omega
theorem bcc_all : all2 bcc 16 0 = true := by decide +kernel
theorem bcc_at {x : Nat} (h : x < 65536) : bc5 (bc4 (bc3 (bc2 (bc1 x)))) &&& 63 = popc x ∧ x / 2 ^ 1 &&& 1431655765 ≤ x := by
  have := all2_spec bcc 16 0 bcc_all x (by omega) (by omega)
  simp only [bcc, Bool.and_eq_true] at this
  exact ⟨Nat.eq_of_beq_eq_true this.1, Nat.le_of_ble_eq_true this.2⟩
theorem popc_le (x : Nat) : popc x ≤ 16 := by unfold popc; omega
