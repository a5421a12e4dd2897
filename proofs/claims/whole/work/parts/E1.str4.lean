theorem p_indexOf {M : Me} {Q : Int → Me → Prop} {c : Int} (hc : 0 ≤ c ∧ c ≤ 255) (h : Q (fct c) M) : Calls 8 mJ0_indexOf_0f7a4 [.inr 1001, .inl c] M Q := by
  refine e_J0_indexOf_0f7a4 (e_J0_indexOf_7cf53 (e_J1_indexOf_4cfef ⟨fun _ => ?_, fun z => absurd hc z⟩))
  rw [show max (0 : Int) 0 = 0 by decide, show min (11 : Int) 11 = 11 by decide]
  exact ⟨fun _ => p_ixc hc h, fun z => by exfalso; omega⟩
theorem roomD {d e N : Nat} (h : d + 1 ≤ e) (hN : N ≤ 45) : (rmd d).frames + 1 ≤ (rmd e).frames ∧ 8 + (N + 11) + (rmd d).locals ≤ (rmd e).locals := ⟨h, by show 8 + (N + 11) + 64 * d ≤ 64 * e; omega⟩
