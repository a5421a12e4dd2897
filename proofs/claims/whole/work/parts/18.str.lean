theorem a_ldcS {K : Kx} {pc : Nat} {ls : List (Option AV)} {st : List AV} {M : Me} (hd : decode K.1.2.1 pc = .ok (.ldc 99, 2)) (ho : K.1.1.cls = "GrownInitials$LawReader") (k : Go K (pc + 2) ls (.inr 1001 :: st) M) : Go K pc ls st M := by
  intro hM hl hs g p l e s m args below meth c H locs la C
  exact va_ldcS C.1.1 C.1.2.1 (by rw [← ho]; exact C.1.2.2.2.1) C.2.2.2.1.2.2.2.1 hd (k hM hl hs.consR g p l e s m args below meth c H locs la C)
