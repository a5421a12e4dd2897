theorem p_indexOf {M : Me} {Q : Int → Me → Prop} {c : Int} (hc : 0 ≤ c ∧ c ≤ 255) (h : Q (fct c) M) : Calls 8 mJ0_indexOf_0f7a4 [.inr 1001, .inl c] M Q := by
  refine e_J0_indexOf_0f7a4 (e_J0_indexOf_7cf53 (e_J1_indexOf_4cfef ⟨fun _ => ?_, fun z => absurd hc z⟩))
  rw [show max (0 : Int) 0 = 0 by decide, show min (11 : Int) 11 = 11 by decide]
  exact ⟨fun _ => p_ixc hc h, fun z => by exfalso; omega⟩
theorem roomD {d e N : Nat} (h : d + 1 ≤ e) (hN : N ≤ 45) : (rmd d).frames + 1 ≤ (rmd e).frames ∧ 8 + (N + 11) + (rmd d).locals ≤ (rmd e).locals := ⟨h, by show 8 + (N + 11) + 64 * d ≤ 64 * e; omega⟩
/-! depths of the reader's methods, by how many more may be begun -/
def dk : Nat → Nat
  | 0 => 0
  | k + 1 => dk k + 2
def zf (k : Nat) : Nat := dk k + 9
def zs (k : Nat) : Nat := dk k + 10
def zt (k : Nat) : Nat := dk k + 11
def zc (k : Nat) : Nat := dk k + 12
def zg (k : Nat) : Nat := dk k + 8
def zh (k : Nat) : Nat := dk k + 9
def zj (k : Nat) : Nat := dk k + 10
theorem zfacts (k : Nat) : 9 ≤ zf k ∧ zg k + 1 ≤ zf k ∧ zf k + 1 ≤ zs k ∧ zs k + 1 ≤ zt k ∧ zh k + 1 ≤ zt k ∧ zj k + 1 ≤ zt k ∧ zt k + 1 ≤ zc k := by
  unfold zf zs zt zc zg zh zj
  omega
theorem zg_s (j : Nat) : zg (j + 1) = zs j := by unfold zg zs; simp only [dk]
theorem zh_s (j : Nat) : zh (j + 1) = zt j := by unfold zh zt; simp only [dk]
theorem zj_s (j : Nat) : zj (j + 1) = zc j := by unfold zj zc; simp only [dk]
