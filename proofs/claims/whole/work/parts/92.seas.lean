/-! ===== seasons, tried, meet, roots, strays: both sides ===== -/
def dOf (M : Me) : Me := fun k => if k = 0 then M 4 else if k = 1 then M 11 else if k = 2 then M 7 else if k = 3 then M 8 else M 9
def SCtx (M L : Me) : Prop := RCuts M ∧ RSt 37 77 (M 3 8) M ∧ LawC M L ∧ LawR M L ∧ LawW L ∧ 0 ≤ M 76 44 ∧ M 76 44 ≤ 1000000000
theorem SCtx.dk {M L : Me} (h : SCtx M L) : Dk (M 3 8) (dOf M) := by
  obtain ⟨⟨h0, h1, -, h3⟩, -⟩ := h
  refine ⟨h1, h0, fun d d0 d1 => ?_⟩
  obtain ⟨⟨g1, -, -, g4, g5, g6, -, g8⟩, -⟩ := h3 d d0 d1
  exact ⟨g1, g8, g4, g5, g6⟩
theorem SCtx.sc {M L : Me} (h : SCtx M L) : StC (M 3 8) (dOf M) L M := ⟨rfl, fun d _ _ => ⟨rfl, rfl, rfl, rfl, rfl⟩, h.2.2.1⟩
theorem SCtx.sr {M L : Me} (h : SCtx M L) : StR (M 3 8) (dOf M) L M := by
  obtain ⟨⟨h0, h1, h2, h3⟩, -, -, hR, -⟩ := h
  refine ⟨h2, fun d d0 d1 => ?_, hR⟩
  obtain ⟨-, e0, e1, e2, e3, e4, e5, e6, e7⟩ := h3 d d0 d1
  exact ⟨e0, e7, e3, e4, e5⟩
theorem SCtx.hold {M L : Me} (h : SCtx M L) : Hold (M 3 8) 37 M (M 77) := by
  obtain ⟨-, ⟨s1, s2, s3, s4, s5⟩, -⟩ := h
  refine ⟨fun d d0 d1 => ?_, s4.symm, s5.symm⟩
  obtain ⟨-, e0, e1, e2, e3, e4⟩ := s1 d d0 d1
  exact ⟨e0.symm, e1.symm, e2.symm, e3.symm, e4.symm⟩
theorem SCtx.rg {M L : Me} (h : SCtx M L) : Rg (M 3 8) (M 77) := by
  obtain ⟨-, ⟨s1, s2, s3, s4, s5⟩, -⟩ := h
  refine ⟨fun d d0 d1 => ?_, by omega, by omega⟩
  obtain ⟨⟨g1, g2, g3, g4, g5⟩, e0, e1, e2, e3, e4⟩ := s1 d d0 d1
  rw [e0, e1, e2, e3, e4]
  exact ⟨g1, g2, g3, g4, g5⟩
theorem RSt_of {M : Me} {n : Int} {S : Int → Int} (hH : Hold n 37 M S) (hR : Rg n S) (e : ∀ i, 0 ≤ i → i < 82 → M 77 i = S i) (h16 : n ≤ 16) : RSt 37 77 n M := by
  refine ⟨fun d d0 d1 => ?_, ?_, ?_, ?_, ?_⟩
  · obtain ⟨g1, g2, g3, g4, g5⟩ := hH.1 d d0 d1
    rw [g1, g2, g3, g4, g5, e d (by omega) (by omega), e (16 + d) (by omega) (by omega), e (32 + d) (by omega) (by omega), e (48 + d) (by omega) (by omega), e (64 + d) (by omega) (by omega)]
    exact ⟨hR.1 d d0 d1, rfl, rfl, rfl, rfl, rfl⟩
  · rw [hH.2.1]; exact hR.2.1
  · rw [hH.2.2]; exact hR.2.2
  · rw [hH.2.1]; exact e 80 (by first | omega | decide) (by first | omega | decide)
  · rw [hH.2.2]; exact e 81 (by first | omega | decide) (by first | omega | decide)
theorem StR.mvC {n : Int} {D L M M' : Me} {o : Nat} (ho : isX8 o) (h : StR n D L M) (f : WFr o M M') : StR n D L M' ∧ M' 77 = M 77 ∧ M' 76 44 = M 76 44 := by
  have hb := isX8_le ho
  have g : ∀ k i, 57 ≤ k → M' k i = M k i := fun k i a => f k i (by omega) (by omega) (by omega) (by omega)
  obtain ⟨h1, h2, h3, h4⟩ := h
  refine ⟨⟨by rw [g 76 11 (by first | omega | decide)]; exact h1, fun d d0 d1 => ?_, by rw [g 76 22 (by first | omega | decide)]; exact h3, fun r r0 r1 => ?_⟩, funext (fun i => g 77 i (by first | omega | decide)), g 76 44 (by first | omega | decide)⟩
  · rw [g 80 d (by first | omega | decide), g 87 d (by first | omega | decide), g 83 d (by first | omega | decide), g 84 d (by first | omega | decide), g 85 d (by first | omega | decide)]
    exact h2 d d0 d1
  · rw [g 96 r (by first | omega | decide), g 97 r (by first | omega | decide), g 98 r (by first | omega | decide), g 99 r (by first | omega | decide)]
    obtain ⟨c1, c2, c3, c4, c5⟩ := h4 r r0 r1
    exact ⟨c1, c2, c3, c4, fun i a b => by rw [g 95 i (by first | omega | decide)]; exact c5 i a b⟩
def FrS (o : Nat) (M M' : Me) : Prop := ∀ k i, (k < o ∨ o + 5 < k) → k ≠ 56 → k ≠ 28 → (k = 22 → i ≠ 8) → k ≠ 77 → k ≠ 78 → k ≠ 100 → k ≠ 101 → (k = 76 → i ≠ 44) → M' k i = M k i
theorem o_seasons {M L : Me} (h : SCtx M L) (a : Int) (P : Me → Prop) (hP : ∀ M', FrS 37 M M' → RSt 37 77 (M 3 8) M' → 0 ≤ M' 76 44 → M' 76 44 ≤ M 76 44 + 17600 → P M') : Calls 7 mX11_seasons [.inr 0, .inl a] M (fun r M1 => Calls 6 mX12_seasons [.inr 76, .inl a] M1 (fun r' M2 => r = r' ∧ P M2)) := by
  have h16 := h.dk.1
  have h44 := h.2.2.2.2.2
  by_cases ha : 1 ≤ a ∧ a ≤ 100
  · refine e_X11_seasons ⟨fun _ => ?_, fun q => absurd ha q⟩
    have g := goes_Rg (L := L) h.dk a.toNat (M 77) 0 h.rg
    refine p_go (Or.inl rfl) h.2.2.2.2.1 h.dk h.sc h.hold h.rg (by omega) ha.2 (fun M1 f1 hH1 => ?_)
    obtain ⟨s1, e1, m1⟩ := h.sr.mvC (Or.inl rfl) f1
    refine e_X12_seasons ⟨fun _ => ?_, fun q => absurd ha q⟩
    refine p_seasonsGo h.2.2.2.2.1 h.dk s1 (by rw [e1]; exact h.rg) (by omega) ha.2 (fun M2 f2 e2 m2 => ?_)
    rw [e1] at e2 m2
    refine ⟨m2.symm, hP M2 (fun k i a b c d e f g1 g2 g3 => (f2 k i e g1 g2 g3).trans (f1 k i a b c d)) ?_ (by omega) (by omega)⟩
    have hH2 : Hold (M 3 8) 37 M2 (goesP L (dOf M) (M 3 8) a.toNat (M 77) 0).1 := hH1.mv (fun k i a b => f2 k i (by omega) (by omega) (by omega) (by omega))
    exact RSt_of hH2 g.1 (fun i _ _ => by rw [e2]) h16
  · refine e_X11_seasons ⟨fun q => absurd q ha, fun _ => e_X12_seasons ⟨fun q => absurd q ha, fun _ => ⟨rfl, hP M (fun _ _ _ _ _ _ _ _ _ _ _ => rfl) h.2.1 h44.1 (by omega)⟩⟩⟩
/-! tried on a copy -/
theorem cp_hold {M : Me} {n : Int} {S : Int → Int} (hH : Hold n 37 M S) : Hold n 49 (cpM M 37 49 n) S ∧ WFr 49 M (cpM M 37 49 n) := by
  refine ⟨⟨fun d d0 d1 => ?_, ?_, ?_⟩, fun k i a _ _ _ => ?_⟩
  · obtain ⟨g1, g2, g3, g4, g5⟩ := hH.1 d d0 d1
    have hc : ∀ j : Nat, 1 ≤ j → j ≤ 5 → cpM M 37 49 n (49 + j) d = M (37 + j) d := fun j j1 j2 => by
      unfold cpM
      rw [if_neg (by omega), if_pos (by omega), show 37 + (49 + j - 49) = 37 + j by omega]
    rw [hc 1 (by first | omega | decide) (by first | omega | decide), hc 2 (by first | omega | decide) (by first | omega | decide), hc 3 (by first | omega | decide) (by first | omega | decide), hc 4 (by first | omega | decide) (by first | omega | decide), hc 5 (by first | omega | decide) (by first | omega | decide)]
    exact ⟨g1, g2, g3, g4, g5⟩
  · unfold cpM
    rw [if_pos ⟨rfl, Or.inl rfl⟩]
    exact hH.2.1
  · unfold cpM
    rw [if_pos ⟨rfl, Or.inr rfl⟩]
    exact hH.2.2
  · unfold cpM
    rw [if_neg (by omega), if_neg (by omega)]
theorem copyTo {M L : Me} (h : SCtx M L) {Q : Me → Prop} (hQ : ∀ M', WFr 49 M M' → Hold (M 3 8) 49 M' (M 77) → Q M') : Calls 1 mX8_copyOf [.inr 49, .inr 37, .inl (M 3 8)] M (fun _ M' => Q M') := by
  obtain ⟨c1, c2⟩ := cp_hold h.hold
  exact p_X8_copyOf (Or.inr (Or.inr rfl)) (Or.inl rfl) (by first | omega | decide) ⟨h.dk.2.1, h.dk.1⟩ (hQ _ c2 c1)
theorem copyGo {M L : Me} (h : SCtx M L) {a : Int} (a0 : 0 ≤ a) (a100 : a ≤ 100) {Q : Int → Me → Prop} (hQ : ∀ M', WFr 49 M M' → Hold (M 3 8) 49 M' (goesP L (dOf M) (M 3 8) a.toNat (M 77) 0).1 → Q (goesP L (dOf M) (M 3 8) a.toNat (M 77) 0).2 M') : Calls 1 mX8_copyOf [.inr 49, .inr 37, .inl (M 3 8)] M (fun _ M88 => Calls 6 mX10_go [.inr 55, .inr 49, .inl a] M88 (fun r100 M100 => Q r100 M100)) := by
  refine copyTo h (fun M1 f1 hH1 => ?_)
  exact p_go (Or.inr (Or.inr rfl)) h.2.2.2.2.1 h.dk (h.sc.mv (Or.inr (Or.inr rfl)) f1) hH1 h.rg a0 a100 (fun M2 f2 hH2 => hQ M2 (f1.tr f2) hH2)
/-- the reference's copy and back -/
theorem copyR {M : Me} {Q : Me → Prop} (hQ : ∀ M', (∀ k i, k ≠ 78 → M' k i = M k i) → (∀ i, 0 ≤ i → i < 82 → M' 78 i = M 77 i) → Q M') : Calls 0 mX12_copies [.inr 77, .inr 78] M (fun _ M' => Q M') := by
  refine p_X12_copies rfl rfl (by first | omega | decide) (hQ _ (fun k i q => mcopy_ne _ _ _ q) (fun i i0 i1 => ?_))
  unfold mcopy
  rw [if_pos ⟨rfl, i0, i1⟩]
theorem backR {M : Me} {Q : Me → Prop} (hQ : ∀ M', (∀ k i, k ≠ 77 → M' k i = M k i) → (∀ i, 0 ≤ i → i < 82 → M' 77 i = M 78 i) → Q M') : Calls 0 mX12_copies [.inr 78, .inr 77] M (fun _ M' => Q M') := by
  refine p_X12_copies rfl rfl (by first | omega | decide) (hQ _ (fun k i q => mcopy_ne _ _ _ q) (fun i i0 i1 => ?_))
  unfold mcopy
  rw [if_pos ⟨rfl, i0, i1⟩]
def Fin (M M' : Me) : Prop := FrS 49 M M' ∧ (∀ i, 0 ≤ i → i < 82 → M' 77 i = M 77 i) ∧ 0 ≤ M' 76 44 ∧ M' 76 44 ≤ M 76 44 + 17600
theorem Fin.rf {M : Me} (h : 0 ≤ M 76 44) : Fin M M := ⟨fun _ _ _ _ _ _ _ _ _ _ _ => rfl, fun _ _ _ => rfl, h, by omega⟩
/-- what stands between the copy and the way back -/
def Mid (M0 M : Me) : Prop := (∀ k i, (k < 49 ∨ 49 + 5 < k) → k ≠ 56 → k ≠ 28 → (k = 22 → i ≠ 8) → k ≠ 77 → k ≠ 78 → k ≠ 100 → k ≠ 101 → (k = 76 → i ≠ 44) → M k i = M0 k i) ∧ (∀ i, 0 ≤ i → i < 82 → M 78 i = M0 77 i) ∧ 0 ≤ M 76 44 ∧ M 76 44 ≤ M0 76 44 + 17600
theorem mid_of {M M1 M2 M3 : Me} (f1 : WFr 49 M M1) (f2 : ∀ k i, k ≠ 78 → M2 k i = M1 k i) (e2 : ∀ i, 0 ≤ i → i < 82 → M2 78 i = M1 77 i) (f3 : RFr M2 M3) (b0 : 0 ≤ M3 76 44) (b1 : M3 76 44 ≤ M 76 44 + 17600) : Mid M M3 := by
  refine ⟨fun k i a b c d e f g1 g2 g3 => (f3 k i e g1 g2 g3).trans ((f2 k i f).trans (f1 k i a b c d)), fun i i0 i1 => ?_, b0, b1⟩
  rw [f3 78 i (by first | omega | decide) (by first | omega | decide) (by first | omega | decide) (by first | omega | decide), e2 i i0 i1, f1 77 i (by first | omega | decide) (by first | omega | decide) (by first | omega | decide) (by first | omega | decide)]
theorem back {M0 M : Me} (h : Mid M0 M) {Q : Me → Prop} (hQ : ∀ M', Fin M0 M' → Q M') : Calls 0 mX12_copies [.inr 78, .inr 77] M (fun _ M' => Q M') := by
  refine backR (fun M' f e => hQ M' ⟨fun k i a b c d e1 f1 g1 g2 g3 => (f k i e1).trans (h.1 k i a b c d e1 f1 g1 g2 g3), fun i i0 i1 => (e i i0 i1).trans (h.2.1 i i0 i1), ?_, ?_⟩)
  · rw [f 76 44 (by first | omega | decide)]; exact h.2.2.1
  · rw [f 76 44 (by first | omega | decide)]; exact h.2.2.2
theorem wr_sub {b k : Int} (hb : cn b) (k0 : 0 ≤ k) (k1 : k ≤ 60) : wr (b - k) = b - k ∨ (b - k < -2147483648 ∧ wr (b - k) = b - k + 4294967296) := by
  by_cases q : cn (b - k)
  · exact Or.inl (wr_id q)
  · unfold cn at q hb
    refine Or.inr ⟨by omega, ?_⟩
    have e : Int32.size = 4294967296 := rfl
    unfold wr
    rw [Int32.toInt_ofInt, e]
    unfold Int.bmod
    have : (b - k) % ((4294967296 : Nat) : Int) = b - k + 4294967296 := by omega
    rw [this]
    rw [if_pos (by omega)]
def triedV (S : Int → Int) (n R b : Int) : Int := if b = 0 then R else if b = 1 then iter (bitS (fun c => S c = 3)) n.toNat 0 0 else if b = 2 then iter (bitS (fun c => S c = 4)) n.toNat 0 0 else if b < 40 then S (16 + (b - 20)) else if b < 60 then S (32 + (b - 40)) else S (b - 60)
theorem m_tried {M M1 L : Me} (h : SCtx M L) (f1 : WFr 49 M M1) {a b : Int} (ha : 1 ≤ a ∧ a ≤ 100) (hb : (0 ≤ b ∧ b ≤ 2) ∨ (0 ≤ b - 20 ∧ b - 20 < M 3 8) ∨ (0 ≤ b - 40 ∧ b - 40 < M 3 8) ∨ (0 ≤ b - 60 ∧ b - 60 < M 3 8)) {Q : Int → Me → Prop}
    (hQ : ∀ M', Fin M M' → Q (triedV (goesP L (dOf M) (M 3 8) a.toNat (M 77) 0).1 (M 3 8) (goesP L (dOf M) (M 3 8) a.toNat (M 77) 0).2 b) M') : Calls 6 mX12_tried [.inr 76, .inl a, .inl b] M1 Q := by
  have h16 := h.dk.1
  have hn0 := h.dk.2.1
  have g := goes_Rg (L := L) h.dk a.toNat (M 77) 0 h.rg
  obtain ⟨s1, e1, m1⟩ := h.sr.mvC (Or.inr (Or.inr rfl)) f1
  have h44 := h.2.2.2.2.2
  have w20 : wr (b - 20) = b - 20 := wr_id (by unfold cn; omega)
  have w40 : wr (b - 40) = b - 40 := wr_id (by unfold cn; omega)
  have w60 : wr (b - 60) = b - 60 := wr_id (by unfold cn; omega)
  have w0 : wr (0 + b) = b := by rw [wr_id (by unfold cn; omega)]; omega
  have w32 : wr (32 + b) = 32 + b := wr_id (by unfold cn; omega)
  have w16 : wr (16 + b) = 16 + b := wr_id (by unfold cn; omega)
  have w3240 : wr (32 + b - 40) = 32 + b - 40 := wr_id (by unfold cn; omega)
  have w1620 : wr (16 + b - 20) = 16 + b - 20 := wr_id (by unfold cn; omega)
  have key : ∀ {Q2 : Me → Prop}, (∀ M3, Mid M M3 → StR (M 3 8) (dOf M) L M3 → M3 77 = (goesP L (dOf M) (M 3 8) a.toNat (M 77) 0).1 → M3 76 44 = (goesP L (dOf M) (M 3 8) a.toNat (M 77) 0).2 → Q2 M3) → Calls 0 mX12_copies [.inr 77, .inr 78] M1 (fun _ M62 => Calls 5 mX12_seasonsGo [.inr 76, .inl a] M62 (fun _ M67 => Q2 M67)) := fun {Q2} hk => by
    refine copyR (fun M2 f2 e2 => ?_)
    have f2' : RFr M1 M2 ∨ True := Or.inr trivial
    have s2 : StR (M 3 8) (dOf M) L M2 := by
      obtain ⟨h1, h2, h3, h4⟩ := s1
      refine ⟨by rw [f2 76 11 (by first | omega | decide)]; exact h1, fun d d0 d1 => ?_, by rw [f2 76 22 (by first | omega | decide)]; exact h3, fun r r0 r1 => ?_⟩
      · rw [f2 80 d (by first | omega | decide), f2 87 d (by first | omega | decide), f2 83 d (by first | omega | decide), f2 84 d (by first | omega | decide), f2 85 d (by first | omega | decide)]
        exact h2 d d0 d1
      · rw [f2 96 r (by first | omega | decide), f2 97 r (by first | omega | decide), f2 98 r (by first | omega | decide), f2 99 r (by first | omega | decide)]
        obtain ⟨c1, c2, c3, c4, c5⟩ := h4 r r0 r1
        exact ⟨c1, c2, c3, c4, fun i a b => by rw [f2 95 i (by first | omega | decide)]; exact c5 i a b⟩
    have e77 : M2 77 = M 77 := by rw [show M2 77 = M1 77 from funext (fun i => f2 77 i (by first | omega | decide))]; exact e1
    refine p_seasonsGo h.2.2.2.2.1 h.dk s2 (by rw [e77]; exact h.rg) (by omega) ha.2 (fun M3 f3 e3 m3 => ?_)
    rw [e77] at e3 m3
    exact hk M3 (mid_of f1 f2 e2 f3 (by omega) (by omega)) (s2.mv f3) e3 m3
  unfold triedV at hQ
  generalize hT : goesP L (dOf M) (M 3 8) a.toNat (M 77) 0 = T at hQ key g
  have tail : ∀ M3, Mid M M3 → StR (M 3 8) (dOf M) L M3 → M3 77 = T.1 → M3 76 44 = T.2 →
      ((b < 0 ∨ 2 < b → ((40 ≤ b → ((60 ≤ b → (0 ≤ b - 60 ∧ b - 60 < 82) ∧ Calls 0 mX12_copies [.inr 78, .inr 77] M3 (fun r184 M184 => Q (M3 77 (b - 60)) M184)) ∧ (b < 60 → (0 ≤ 32 + b - 40 ∧ 32 + b - 40 < 82) ∧ Calls 0 mX12_copies [.inr 78, .inr 77] M3 (fun r184 M184 => Q (M3 77 (32 + b - 40)) M184)))) ∧ (b < 40 → (0 ≤ 16 + b - 20 ∧ 16 + b - 20 < 82) ∧ Calls 0 mX12_copies [.inr 78, .inr 77] M3 (fun r184 M184 => Q (M3 77 (16 + b - 20)) M184)))) ∧
      ((b = 0 → Calls 0 mX12_copies [.inr 78, .inr 77] M3 (fun r184 M184 => Q (M3 76 44) M184)) ∧
      ((b = 1 → Calls 0 mX12_setOf [.inr 76, .inl 3] M3 (fun r106 M106 => Calls 0 mX12_copies [.inr 78, .inr 77] M106 (fun r184 M184 => Q r106 M184))) ∧
      (b = 2 → Calls 0 mX12_setOf [.inr 76, .inl 4] M3 (fun r115 M115 => Calls 0 mX12_copies [.inr 78, .inr 77] M115 (fun r184 M184 => Q r115 M184)))))) := fun M3 md s3 e3 m3 => by
    refine ⟨fun q => ⟨fun q1 => ⟨fun q2 => ⟨by omega, back md (fun M' fn => ?_)⟩, fun q2 => ⟨by omega, back md (fun M' fn => ?_)⟩⟩, fun q1 => ⟨by omega, back md (fun M' fn => ?_)⟩⟩, fun q => back md (fun M' fn => ?_), fun q => ?_, fun q => ?_⟩
    · have := hQ M' fn
      rw [if_neg (by omega), if_neg (by omega), if_neg (by omega), if_neg (by omega), if_neg (by omega)] at this
      rw [e3]; exact this
    · have := hQ M' fn
      rw [if_neg (by omega), if_neg (by omega), if_neg (by omega), if_neg (by omega), if_pos (by omega)] at this
      rw [e3, show 32 + b - 40 = 32 + (b - 40) by omega]; exact this
    · have := hQ M' fn
      rw [if_neg (by omega), if_neg (by omega), if_neg (by omega), if_pos (by omega)] at this
      rw [e3, show 16 + b - 20 = 16 + (b - 20) by omega]; exact this
    · have := hQ M' fn
      rw [if_pos q] at this
      rw [m3]; exact this
    · refine p_X12_setOf (by rw [s3.1]; exact ⟨hn0, h16⟩) (back md (fun M' fn => ?_))
      have := hQ M' fn
      rw [if_neg (by omega), if_pos q] at this
      rw [s3.1, e3]; exact this
    · refine p_X12_setOf (by rw [s3.1]; exact ⟨hn0, h16⟩) (back md (fun M' fn => ?_))
      have := hQ M' fn
      rw [if_neg (by omega), if_neg (by omega), if_pos q] at this
      rw [s3.1, e3]; exact this
  have g54 : Go (km 6 mX12_tried Q) 54 [some (.inr 76), some (.inl a), some (.inl b), none] [] M1 := by
    refine s_X12_tried_54 _ _ M1 ?_
    rw [w0, w32, w16, w3240, w1620, w60]
    exact key tail
  refine e_X12_tried ?_
  rw [w20, w40, w60, s1.1]
  exact ⟨fun v1 => ⟨fun v2 => (by exact g54), fun v2 => ⟨by first | omega | (unfold cn; omega), ⟨fun v3 => (by exact g54), fun v3 => ⟨by first | omega | (unfold cn; omega), ⟨fun v4 => (by exact g54), fun v4 => ⟨by first | omega | (unfold cn; omega), ⟨fun v5 => (by exact g54), fun v5 => (by exfalso; omega)⟩⟩⟩⟩⟩⟩⟩, fun v1 => (by exfalso; omega)⟩
theorem o_tried {M L : Me} (h : SCtx M L) (a b : Int) (P : Me → Prop) (hP : ∀ M', Fin M M' → P M') : Calls 7 mX11_tried [.inr 0, .inl a, .inl b] M (fun r M1 => Calls 6 mX12_tried [.inr 76, .inl a, .inl b] M1 (fun r' M2 => r = r' ∧ P M2)) := by
  refine Calls.known (fun _ hA => ?_)
  have hcb : cn b := hA b (by simp)
  have h16 := h.dk.1
  have hn0 := h.dk.2.1
  have h44 := h.2.2.2.2.2
  by_cases hv : (1 ≤ a ∧ a ≤ 100) ∧ ((0 ≤ b ∧ b ≤ 2) ∨ (0 ≤ b - 20 ∧ b - 20 < M 3 8) ∨ (0 ≤ b - 40 ∧ b - 40 < M 3 8) ∨ (0 ≤ b - 60 ∧ b - 60 < M 3 8))
  · obtain ⟨ha, hb⟩ := hv
    have w20 : wr (b - 20) = b - 20 := wr_id (by unfold cn; omega)
    have w40 : wr (b - 40) = b - 40 := wr_id (by unfold cn; omega)
    have w60 : wr (b - 60) = b - 60 := wr_id (by unfold cn; omega)
    have ref : ∀ M1, WFr 49 M M1 → ∀ v, v = triedV (goesP L (dOf M) (M 3 8) a.toNat (M 77) 0).1 (M 3 8) (goesP L (dOf M) (M 3 8) a.toNat (M 77) 0).2 b → Calls 6 mX12_tried [.inr 76, .inl a, .inl b] M1 (fun r' M2 => v = r' ∧ P M2) := fun M1 f1 v hv => m_tried h f1 ha hb (fun M' fn => ⟨hv, hP M' fn⟩)
    unfold triedV at ref
    have bits : ∀ M1 w, WFr 49 M M1 → Hold (M 3 8) 49 M1 (goesP L (dOf M) (M 3 8) a.toNat (M 77) 0).1 → ∀ {Q2 : Int → Me → Prop}, Q2 (iter (bitS (fun c => (goesP L (dOf M) (M 3 8) a.toNat (M 77) 0).1 c = w)) (M 3 8).toNat 0 0) M1 → Calls 0 mX8_bitsOf [.inr 49, .inl w, .inl (M1 3 8)] M1 (fun r M' => Q2 r M') := fun M1 w f1 hH1 {Q2} hq => by
      have e38 : M1 3 8 = M 3 8 := f1 3 8 (by first | omega | decide) (by first | omega | decide) (by first | omega | decide) (by first | omega | decide)
      rw [e38]
      refine p_X8_bitsOf (Or.inr (Or.inr rfl)) ⟨hn0, h16⟩ ?_
      have : iter (bitS (fun c => M1 (49 + 1) c = w)) (M 3 8).toNat 0 0 = iter (bitS (fun c => (goesP L (dOf M) (M 3 8) a.toNat (M 77) 0).1 c = w)) (M 3 8).toNat 0 0 := iter_fun _ _ rfl 0 (fun i i0 i1 x => by
        have := (hH1.1 i i0 i1).1
        simp only [bitS, this])
      rw [this]
      exact hq
    have g73 : ∀ x4, ((0 ≤ b ∧ b ≤ 2) → x4 = 1) → (¬ (0 ≤ b ∧ b ≤ 2) → x4 = 0) → Go (km 7 mX11_tried (fun r M1 => Calls 6 mX12_tried [.inr 76, .inl a, .inl b] M1 (fun r' M2 => r = r' ∧ P M2))) 73 [some (.inr 0), some (.inl a), some (.inl b), none, some (.inl x4), none] [] M := fun x4 h1 h0 => by
      refine s_X11_tried_73 _ _ _ M ?_
      rw [w20, w40, w60]
      refine copyGo h (by omega) ha.2 (fun M1 f1 hH1 => ?_)
      have e38 : M1 3 8 = M 3 8 := f1 3 8 (by decide) (by decide) (by decide) (by decide)
      refine ⟨fun z1 => ⟨fun zx => ?_, fun zx => ⟨fun z2 => bits M1 4 f1 hH1 (ref M1 f1 _ (by rw [if_neg (by omega), if_neg (by omega), if_pos (by omega)])), fun z2 => bits M1 3 f1 hH1 (ref M1 f1 _ (by rw [if_neg (by omega), if_pos (by omega)]))⟩⟩, fun z1 => ref M1 f1 _ (by rw [if_pos z1])⟩
      have hb2 : ¬ (0 ≤ b ∧ b ≤ 2) := fun q => by have := h1 q; omega
      rw [e38]
      exact ⟨fun z2 => ⟨by omega, ref M1 f1 _ (by rw [if_neg (by omega), if_neg (by omega), if_neg (by omega), if_pos (by omega)]; exact (hH1.1 _ z2.1 z2.2).2.1)⟩, fun z2 => ⟨fun z3 => ⟨by omega, ref M1 f1 _ (by rw [if_neg (by omega), if_neg (by omega), if_neg (by omega), if_neg (by omega), if_pos (by omega)]; exact (hH1.1 _ z3.1 z3.2).2.2.1)⟩, fun z3 => ⟨by omega, ref M1 f1 _ (by rw [if_neg (by omega), if_neg (by omega), if_neg (by omega), if_neg (by omega), if_neg (by omega)]; exact (hH1.1 (b - 60) (by omega) (by omega)).1)⟩⟩⟩
    have g39 : ∀ x3, (x3 = 0 → (0 ≤ b ∧ b ≤ 2)) → Go (km 7 mX11_tried (fun r M1 => Calls 6 mX12_tried [.inr 76, .inl a, .inl b] M1 (fun r' M2 => r = r' ∧ P M2))) 39 [some (.inr 0), some (.inl a), some (.inl b), some (.inl x3), none, none] [] M := fun x3 hx => by
      have g55 : ∀ x4, ((0 ≤ b ∧ b ≤ 2) → x4 = 1) → (¬ (0 ≤ b ∧ b ≤ 2) → x4 = 0) → Go (km 7 mX11_tried (fun r M1 => Calls 6 mX12_tried [.inr 76, .inl a, .inl b] M1 (fun r' M2 => r = r' ∧ P M2))) 55 [some (.inr 0), some (.inl a), some (.inl b), some (.inl x3), some (.inl x4), none] [] M := fun x4 h1 h0 =>
        s_X11_tried_55 _ _ _ _ M ⟨fun _ => ⟨fun _ => g73 x4 h1 h0, fun z => ⟨fun _ => g73 x4 h1 h0, fun y => by have := h1 (hx z); exfalso; omega⟩⟩, fun q => absurd ha q⟩
      exact s_X11_tried_39 _ _ _ M ⟨fun z => g55 0 (fun q => by omega) (fun _ => rfl), fun z => ⟨fun y => g55 0 (fun q => by omega) (fun _ => rfl), fun y => g55 1 (fun _ => rfl) (fun q => by omega)⟩⟩
    refine e_X11_tried ?_
    rw [w20, w40, w60]
    exact ⟨fun _ => g39 1 (fun q => by omega), fun z1 => ⟨fun _ => g39 1 (fun q => by omega), fun z2 => ⟨fun _ => g39 1 (fun q => by omega), fun z3 => g39 0 (fun _ => by omega)⟩⟩⟩
  · have w20 := wr_sub hcb (k := 20) (by omega) (by omega)
    have w40 := wr_sub hcb (k := 40) (by omega) (by omega)
    have w60 := wr_sub hcb (k := 60) (by omega) (by omega)
    unfold cn at hcb
    have hC := h.1.2.2.1
    have go : Calls 6 mX12_tried [.inr 76, .inl a, .inl b] M (fun r' M2 => (-1 : Int) = r' ∧ P M2) := by
      refine e_X12_tried ⟨fun v1 => ⟨fun v2 => (by exfalso; omega), fun v2 => ⟨by first | omega | (unfold cn; omega), ⟨fun v3 => (by exfalso; omega), fun v3 => ⟨by first | omega | (unfold cn; omega), ⟨fun v4 => (by exfalso; omega), fun v4 => ⟨by first | omega | (unfold cn; omega), ⟨fun v5 => (by exfalso; omega), fun v5 => (by exact ⟨rfl, hP M (Fin.rf h44.1)⟩)⟩⟩⟩⟩⟩⟩⟩, fun v1 => (by exact ⟨rfl, hP M (Fin.rf h44.1)⟩)⟩
    have g39 : ∀ x3, (x3 = 0 ∨ x3 = 1) → (x3 = 1 → ¬ (1 ≤ a ∧ a ≤ 100)) → Go (km 7 mX11_tried (fun r M1 => Calls 6 mX12_tried [.inr 76, .inl a, .inl b] M1 (fun r' M2 => r = r' ∧ P M2))) 39 [some (.inr 0), some (.inl a), some (.inl b), some (.inl x3), none, none] [] M := fun x3 hx h1 => by
      have g55 : ∀ x4, (x4 = 0 ∨ (x4 = 1 ∧ ¬ (1 ≤ a ∧ a ≤ 100))) → Go (km 7 mX11_tried (fun r M1 => Calls 6 mX12_tried [.inr 76, .inl a, .inl b] M1 (fun r' M2 => r = r' ∧ P M2))) 55 [some (.inr 0), some (.inl a), some (.inl b), some (.inl x3), some (.inl x4), none] [] M := fun x4 h4 =>
        s_X11_tried_55 _ _ _ _ M ⟨fun z => ⟨fun y => absurd z (h1 (by omega)), fun y => ⟨fun w => by exfalso; omega, fun _ => go⟩⟩, fun _ => go⟩
      exact s_X11_tried_39 _ _ _ M ⟨fun z => g55 0 (Or.inl rfl), fun z => ⟨fun y => g55 0 (Or.inl rfl), fun y => g55 1 (Or.inr ⟨rfl, fun w => by omega⟩)⟩⟩
    exact e_X11_tried ⟨fun z => g39 1 (Or.inr rfl) (fun _ w => by omega), fun z1 => ⟨fun z => g39 1 (Or.inr rfl) (fun _ w => by omega), fun z2 => ⟨fun z => g39 1 (Or.inr rfl) (fun _ w => by omega), fun z3 => g39 0 (Or.inl rfl) (fun w => by omega)⟩⟩⟩
/-! meet and roots: the first season behind which something holds -/
def fnd (L D : Me) (n : Int) (q : (Int → Int) → Bool) : Nat → Int → (Int → Int) → Int
  | 0, _, _ => -2
  | k + 1, g, S => if q S = true then g else fnd L D n q k (g + 1) (seasP L D n S).1
theorem fnd_end {L D : Me} {n : Int} {q : (Int → Int) → Bool} {S : Int → Int} (h : 9999 ≤ S 80) (hq : q S = false) : ∀ (k : Nat) (g : Int), fnd L D n q k g S = -2
  | 0, _ => rfl
  | k + 1, g => by
    have e : seasP L D n S = (S, 0) := by unfold seasP; rw [if_pos h]
    simp only [fnd]
    rw [hq, e]
    simp only [Bool.false_eq_true, if_false]
    exact fnd_end h hq k (g + 1)
def metB (a b : Int) (S : Int → Int) : Bool := decide (S a = 2 ∧ S b = 2 ∧ S (16 + a) = S (16 + b))
theorem p_areTogether {Q : Int → Me → Prop} {M : Me} {n a b : Int} {S : Int → Int} (h16 : n ≤ 16) (hH : Hold n 49 M S) (a0 : 0 ≤ a) (a1 : a < n) (b0 : 0 ≤ b) (b1 : b < n) (h1 : metB a b S = true → Q 1 M) (h0 : metB a b S = false → Q 0 M) : Calls 0 mX8_areTogether [.inr 49, .inl a, .inl b] M Q := by
  obtain ⟨g1, g2, -⟩ := hH.1 a a0 a1
  obtain ⟨k1, k2, -⟩ := hH.1 b b0 b1
  unfold metB at h1 h0
  refine e_X8_areTogether (Or.inr (Or.inr rfl)) ?_
  rw [g1, g2, k1, k2]
  exact ⟨by omega, fun q => h0 (decide_eq_false (fun z => q z.1)), fun q => ⟨by omega, fun q2 => h0 (decide_eq_false (fun z => q2 z.2.1)), fun q2 => ⟨by omega, by omega, fun q3 => h0 (decide_eq_false (fun z => q3 z.2.2)), fun q3 => h1 (decide_eq_true ⟨q, q2, q3⟩)⟩⟩⟩
theorem p_areMet {Q : Int → Me → Prop} {M : Me} {n a b : Int} (h16 : n ≤ 16) (a0 : 0 ≤ a) (a1 : a < n) (b0 : 0 ≤ b) (b1 : b < n) (h1 : metB a b (M 77) = true → Q 1 M) (h0 : metB a b (M 77) = false → Q 0 M) : Calls 0 mX12_areMet [.inr 76, .inl a, .inl b] M Q := by
  unfold metB at h1 h0
  refine e_X12_areMet ?_
  rw [show 0 + a = a by omega, show 0 + b = b by omega]
  exact ⟨by unfold cn; omega, by omega, fun q => h0 (decide_eq_false (fun z => q z.1)), fun q => ⟨by unfold cn; omega, by omega, fun q2 => h0 (decide_eq_false (fun z => q2 z.2.1)), fun q2 => ⟨by unfold cn; omega, by omega, by unfold cn; omega, by omega, fun q3 => h0 (decide_eq_false (fun z => q3 z.2.2)), fun q3 => h1 (decide_eq_true ⟨q, q2, q3⟩)⟩⟩⟩
theorem l_X11_meet {Q : Int → Me → Prop} {M0 : Me} {n : Int} {D L : Me} (hW : LawW L) (hD : Dk n D) (hs0 : StC n D L M0) {a b c : Int} (a0 : 0 ≤ a) (a1 : a < n) (b0 : 0 ≤ b) (b1 : b < n) (c100 : c ≤ 100) {R : Int} (hQ : ∀ M', WFr 49 M0 M' → Q R M') :
    ∀ (k : Nat) (g : Int) (S : Int → Int) (M : Me), 0 ≤ g → g + k = c + 1 → WFr 49 M0 M → Hold n 49 M S → Rg n S → fnd L D n (metB a b) k g S = R → Go (km 6 mX11_meet Q) 51 [some (.inr 0), some (.inl a), some (.inl b), some (.inl c), some (.inl g)] [] M := by
  intro k
  induction k with
  | zero =>
    intro g S M g0 hg f hH hR he
    simp only [fnd] at he
    refine s_X11_meet_51 _ _ _ _ M ⟨fun _ => ?_, fun q => by exfalso; omega⟩
    rw [he]; exact hQ M f
  | succ k ih =>
    intro g S M g0 hg f hH hR he
    simp only [fnd] at he
    refine s_X11_meet_51 _ _ _ _ M ⟨fun q => by exfalso; omega, fun _ => ?_⟩
    refine p_areTogether hD.1 hH a0 a1 b0 b1 (fun q => ⟨fun z => absurd z (by first | omega | decide), fun _ => ?_⟩) (fun q => ⟨fun _ => ?_, fun z => absurd rfl z⟩)
    · rw [if_pos q] at he
      rw [he]; exact hQ M f
    · rw [q, if_neg (by first | omega | decide)] at he
      refine p_season (Or.inr (Or.inr rfl)) hW hD (hs0.mv (Or.inr (Or.inr rfl)) f) hH hR (fun M' f' hH' => ⟨by unfold cn; omega, ?_⟩)
      exact ih (g + 1) _ M' (by omega) (by omega) (f.tr f') hH' (seas_Rg hD hR).1 he
theorem Mid.step {M0 M M' : Me} (h : Mid M0 M) (f : RFr M M') (b0 : 0 ≤ M' 76 44) (b1 : M' 76 44 ≤ M0 76 44 + 17600) : Mid M0 M' :=
  ⟨fun k i a b c d e f1 g1 g2 g3 => (f k i e g1 g2 g3).trans (h.1 k i a b c d e f1 g1 g2 g3), fun i i0 i1 => (f 78 i (by first | omega | decide) (by first | omega | decide) (by first | omega | decide) (by first | omega | decide)).trans (h.2.1 i i0 i1), b0, b1⟩
theorem l_X12_meet {Q : Int → Me → Prop} {M0 : Me} {n : Int} {D L : Me} (hW : LawW L) (hD : Dk n D) (h44 : 0 ≤ M0 76 44 ∧ M0 76 44 ≤ 1000000000) {a b c : Int} (a0 : 0 ≤ a) (a1 : a < n) (b0 : 0 ≤ b) (b1 : b < n) (c100 : c ≤ 100) {R : Int} (hQ : ∀ M', Fin M0 M' → Q R M') :
    ∀ (k : Nat) (g : Int) (M : Me), 0 ≤ g → g + k = c → Mid M0 M → StR n D L M → M 76 44 ≤ M0 76 44 + 176 * g → Rg n (M 77) → fnd L D n (metB a b) (k + 1) g (M 77) = R → Go (km 5 mX12_meet Q) 47 [some (.inr 76), some (.inl a), some (.inl b), some (.inl c), some (.inl g), none] [] M := by
  have fin0 : ∀ (g : Int) (M : Me), Mid M0 M → metB a b (M 77) = false → R = -2 → Calls 0 mX12_areMet [.inr 76, .inl a, .inl b] M (fun r91 M91 => Calls 0 mX12_copies [.inr 78, .inr 77] M91 (fun r104 M104 => ((r91 = 0 → Q (-2) M104) ∧ (r91 ≠ 0 → Q g M104)))) := fun g M md q hr =>
    p_areMet hD.1 a0 a1 b0 b1 (fun z => by rw [q] at z; cases z) (fun _ => back md (fun M' fn => ⟨fun _ => hr ▸ hQ M' fn, fun z => absurd rfl z⟩))
  have fin1 : ∀ (g : Int) (M : Me), Mid M0 M → metB a b (M 77) = true → R = g → Calls 0 mX12_areMet [.inr 76, .inl a, .inl b] M (fun r91 M91 => Calls 0 mX12_copies [.inr 78, .inr 77] M91 (fun r104 M104 => ((r91 = 0 → Q (-2) M104) ∧ (r91 ≠ 0 → Q g M104)))) := fun g M md q hr =>
    p_areMet hD.1 a0 a1 b0 b1 (fun _ => back md (fun M' fn => ⟨fun z => absurd z (by first | omega | decide), fun _ => hr ▸ hQ M' fn⟩)) (fun z => by rw [q] at z; cases z)
  intro k
  induction k with
  | zero =>
    intro g M g0 hg md s hb hR he
    simp only [fnd] at he
    refine s_X12_meet_47 _ _ _ _ M (p_areMet hD.1 a0 a1 b0 b1 (fun q => ⟨fun _ => fin1 g M md q ?_, fun z => absurd z (by first | omega | decide)⟩) (fun q => ⟨fun z => absurd rfl z, fun _ => ⟨fun _ => fin0 g M md q ?_, fun z => by exfalso; omega⟩⟩))
    · rw [if_pos q] at he; exact he.symm
    · rw [q, if_neg (by first | omega | decide)] at he; exact he.symm
  | succ k ih =>
    intro g M g0 hg md s hb hR he
    refine s_X12_meet_47 _ _ _ _ M (p_areMet hD.1 a0 a1 b0 b1 (fun q => ⟨fun _ => fin1 g M md q ?_, fun z => absurd z (by first | omega | decide)⟩) (fun q => ⟨fun z => absurd rfl z, fun _ => ⟨fun z => by exfalso; omega, fun _ => ⟨fun z => fin0 g M md q ?_, fun z => ?_⟩⟩⟩))
    · rw [fnd, if_pos q] at he; exact he.symm
    · rw [fnd_end z q] at he; exact he.symm
    · rw [fnd, q, if_neg (by first | omega | decide)] at he
      have g' := seas_Rg (L := L) hD hR
      have b0' := md.2.2.1
      refine p_seasonGoes hW hD s hR z b0' (by omega) (fun M' f' e' m' => ⟨by unfold cn; omega, ?_⟩)
      exact ih (g + 1) M' (by omega) (by omega) (md.step f' (by omega) (by omega)) (s.mv f') (by omega) (by rw [e']; exact g'.1) (by rw [e']; exact he)
theorem midStart {M M1 L : Me} (h : SCtx M L) (f1 : WFr 49 M M1) {Q : Me → Prop} (hQ : ∀ M2, Mid M M2 → StR (M 3 8) (dOf M) L M2 → M2 77 = M 77 → M2 76 44 = M 76 44 → Q M2) : Calls 0 mX12_copies [.inr 77, .inr 78] M1 (fun _ M' => Q M') := by
  obtain ⟨s1, e1, m1⟩ := h.sr.mvC (Or.inr (Or.inr rfl)) f1
  have h44 := h.2.2.2.2.2
  refine copyR (fun M2 f2 e2 => ?_)
  have s2 : StR (M 3 8) (dOf M) L M2 := by
    obtain ⟨h1, h2, h3, h4⟩ := s1
    refine ⟨by rw [f2 76 11 (by first | omega | decide)]; exact h1, fun d d0 d1 => ?_, by rw [f2 76 22 (by first | omega | decide)]; exact h3, fun r r0 r1 => ?_⟩
    · rw [f2 80 d (by first | omega | decide), f2 87 d (by first | omega | decide), f2 83 d (by first | omega | decide), f2 84 d (by first | omega | decide), f2 85 d (by first | omega | decide)]
      exact h2 d d0 d1
    · rw [f2 96 r (by first | omega | decide), f2 97 r (by first | omega | decide), f2 98 r (by first | omega | decide), f2 99 r (by first | omega | decide)]
      obtain ⟨c1, c2, c3, c4, c5⟩ := h4 r r0 r1
      exact ⟨c1, c2, c3, c4, fun i a b => by rw [f2 95 i (by first | omega | decide)]; exact c5 i a b⟩
  have e77 : M2 77 = M 77 := by rw [show M2 77 = M1 77 from funext (fun i => f2 77 i (by first | omega | decide))]; exact e1
  have e44 : M2 76 44 = M 76 44 := by rw [f2 76 44 (by first | omega | decide)]; exact m1
  exact hQ M2 (mid_of f1 f2 e2 (RFr.rf M2) (by omega) (by omega)) s2 e77 e44
theorem o_meet {M L : Me} (h : SCtx M L) (a b c : Int) (P : Me → Prop) (hP : ∀ M', Fin M M' → P M') : Calls 6 mX11_meet [.inr 0, .inl a, .inl b, .inl c] M (fun r M1 => Calls 5 mX12_meet [.inr 76, .inl a, .inl b, .inl c] M1 (fun r' M2 => r = r' ∧ P M2)) := by
  have h16 := h.dk.1
  have hn0 := h.dk.2.1
  have h44 := h.2.2.2.2.2
  have hC := h.1.2.2.1
  by_cases hv : (0 ≤ a ∧ a < M 3 8) ∧ (0 ≤ b ∧ b < M 3 8) ∧ a ≠ b ∧ (1 ≤ c ∧ c ≤ 100)
  · obtain ⟨ha, hb, hab, hc⟩ := hv
    refine e_X11_meet ⟨fun _ => ⟨fun _ => ⟨fun q => absurd q hab, fun _ => ⟨fun _ => ?_, fun q => absurd hc q⟩⟩, fun q => absurd hb q⟩, fun q => absurd ha q⟩
    refine copyTo h (fun M1 f1 hH1 => ?_)
    refine l_X11_meet (M0 := M1) h.2.2.2.2.1 h.dk (h.sc.mv (Or.inr (Or.inr rfl)) f1) ha.1 ha.2 hb.1 hb.2 hc.2 (fun M2 f2 => ?_) (c + 1).toNat 0 (M 77) M1 (by omega) (by omega) (WFr.rf _ _) hH1 h.rg rfl
    have f12 := f1.tr f2
    obtain ⟨s2, -⟩ := h.sr.mvC (Or.inr (Or.inr rfl)) f12
    have e11 : M2 76 11 = M 3 8 := s2.1
    refine e_X12_meet ?_
    rw [e11]
    refine ⟨hn0, fun _ => ⟨hn0, fun _ => ⟨fun q => absurd q hab, fun _ => ⟨fun _ => ?_, fun q => absurd hc q⟩⟩, fun q => absurd hb q⟩, fun q => absurd ha q⟩
    refine midStart h f12 (fun M3 md s3 e3 m3 => ?_)
    refine l_X12_meet (M0 := M) h.2.2.2.2.1 h.dk h44 ha.1 ha.2 hb.1 hb.2 hc.2 (fun M' fn => ⟨?_, hP M' fn⟩) c.toNat 0 M3 (by omega) (by omega) md s3 (by omega) (by rw [e3]; exact h.rg) rfl
    rw [e3, show (c + 1).toNat = c.toNat + 1 by omega]
  · have go : Calls 5 mX12_meet [.inr 76, .inl a, .inl b, .inl c] M (fun r' M2 => (-1 : Int) = r' ∧ P M2) := by
      refine e_X12_meet ⟨by first | omega | (unfold cn; omega), ⟨fun v1 => ⟨by first | omega | (unfold cn; omega), ⟨fun v2 => ⟨fun v3 => (by exact ⟨rfl, hP M (Fin.rf h44.1)⟩), fun v3 => ⟨fun v4 => (by exfalso; omega), fun v4 => (by exact ⟨rfl, hP M (Fin.rf h44.1)⟩)⟩⟩, fun v2 => (by exact ⟨rfl, hP M (Fin.rf h44.1)⟩)⟩⟩, fun v1 => (by exact ⟨rfl, hP M (Fin.rf h44.1)⟩)⟩⟩
    refine e_X11_meet ⟨fun v1 => ⟨fun v2 => ⟨fun v3 => (by exact go), fun v3 => ⟨fun v4 => (by exfalso; omega), fun v4 => (by exact go)⟩⟩, fun v2 => (by exact go)⟩, fun v1 => (by exact go)⟩
def rootB (a : Int) (S : Int → Int) : Bool := decide (S a = 3)
theorem l_X11_roots {Q : Int → Me → Prop} {M0 : Me} {n : Int} {D L : Me} (hW : LawW L) (hD : Dk n D) (hs0 : StC n D L M0) {a c : Int} (a0 : 0 ≤ a) (a1 : a < n) (c100 : c ≤ 100) {R : Int} (hQ : ∀ M', WFr 49 M0 M' → Q R M') :
    ∀ (k : Nat) (g : Int) (S : Int → Int) (M : Me), 0 ≤ g → g + k = c + 1 → WFr 49 M0 M → Hold n 49 M S → Rg n S → fnd L D n (rootB a) k g S = R → Go (km 6 mX11_roots Q) 37 [some (.inr 0), some (.inl a), some (.inl c), some (.inl g)] [] M := by
  have h16 := hD.1
  intro k
  induction k with
  | zero =>
    intro g S M g0 hg f hH hR he
    simp only [fnd] at he
    refine s_X11_roots_37 _ _ _ M ⟨fun _ => ?_, fun q => by exfalso; omega⟩
    rw [he]; exact hQ M f
  | succ k ih =>
    intro g S M g0 hg f hH hR he
    simp only [fnd] at he
    have g1 : M 50 a = S a := (hH.1 a a0 a1).1
    refine s_X11_roots_37 _ _ _ M ⟨fun q => by exfalso; omega, fun _ => ?_⟩
    rw [g1]
    refine ⟨by omega, fun q => ?_, fun q => ?_⟩
    · have hq : rootB a S = false := decide_eq_false q
      rw [hq, if_neg (by first | omega | decide)] at he
      refine p_season (Or.inr (Or.inr rfl)) hW hD (hs0.mv (Or.inr (Or.inr rfl)) f) hH hR (fun M' f' hH' => ⟨by unfold cn; omega, ?_⟩)
      exact ih (g + 1) _ M' (by omega) (by omega) (f.tr f') hH' (seas_Rg hD hR).1 he
    · have hq : rootB a S = true := decide_eq_true q
      rw [if_pos hq] at he
      rw [he]; exact hQ M f
theorem l_X12_roots {Q : Int → Me → Prop} {M0 : Me} {n : Int} {D L : Me} (hW : LawW L) (hD : Dk n D) (h44 : 0 ≤ M0 76 44 ∧ M0 76 44 ≤ 1000000000) {a c : Int} (a0 : 0 ≤ a) (a1 : a < n) (c100 : c ≤ 100) {R : Int} (hQ : ∀ M', Fin M0 M' → Q R M') :
    ∀ (k : Nat) (g : Int) (M : Me), 0 ≤ g → g + k = c → Mid M0 M → StR n D L M → M 76 44 ≤ M0 76 44 + 176 * g → Rg n (M 77) → fnd L D n (rootB a) (k + 1) g (M 77) = R → Go (km 5 mX12_roots Q) 33 [some (.inr 76), some (.inl a), some (.inl c), some (.inl g), none] [] M := by
  have h16 := hD.1
  have fin : ∀ (g : Int) (M : Me), Mid M0 M → R = (if M 77 a = 3 then g else -2) → cn (0 + a) ∧ (0 ≤ 0 + a ∧ 0 + a < 82) ∧ ((M 77 (0 + a) ≠ 3 → Calls 0 mX12_copies [.inr 78, .inr 77] M (fun r101 M101 => Q (-2) M101)) ∧ (M 77 (0 + a) = 3 → Calls 0 mX12_copies [.inr 78, .inr 77] M (fun r101 M101 => Q g M101))) := fun g M md hr => by
    rw [show 0 + a = a by omega]
    refine ⟨by unfold cn; omega, by omega, fun q => back md (fun M' fn => ?_), fun q => back md (fun M' fn => ?_)⟩
    · rw [if_neg q] at hr; rw [← hr]; exact hQ M' fn
    · rw [if_pos q] at hr; rw [← hr]; exact hQ M' fn
  intro k
  induction k with
  | zero =>
    intro g M g0 hg md s hb hR he
    simp only [fnd, rootB, decide_eq_true_eq] at he
    have ff := fin g M md he.symm
    refine s_X12_roots_33 _ _ _ M ⟨by unfold cn; omega, by omega, fun _ => ff, fun q => ⟨fun _ => ff, fun z => by exfalso; omega⟩⟩
  | succ k ih =>
    intro g M g0 hg md s hb hR he
    refine s_X12_roots_33 _ _ _ M ⟨by unfold cn; omega, by omega, fun q => fin g M md ?_, fun q => ⟨fun z => by exfalso; omega, fun _ => ⟨fun z => fin g M md ?_, fun z => ?_⟩⟩⟩
    · rw [show 0 + a = a by omega] at q
      have hq : rootB a (M 77) = true := decide_eq_true q
      rw [fnd, if_pos hq] at he
      rw [if_pos q]; exact he.symm
    · rw [show 0 + a = a by omega] at q
      have hq : rootB a (M 77) = false := decide_eq_false q
      rw [fnd_end z hq] at he
      rw [if_neg q]; exact he.symm
    · rw [show 0 + a = a by omega] at q
      have hq : rootB a (M 77) = false := decide_eq_false q
      rw [fnd, hq, if_neg (by first | omega | decide)] at he
      have g' := seas_Rg (L := L) hD hR
      have b0' := md.2.2.1
      refine p_seasonGoes hW hD s hR z b0' (by omega) (fun M' f' e' m' => ⟨by unfold cn; omega, ?_⟩)
      exact ih (g + 1) M' (by omega) (by omega) (md.step f' (by omega) (by omega)) (s.mv f') (by omega) (by rw [e']; exact g'.1) (by rw [e']; exact he)
theorem o_roots {M L : Me} (h : SCtx M L) (a c : Int) (P : Me → Prop) (hP : ∀ M', Fin M M' → P M') : Calls 6 mX11_roots [.inr 0, .inl a, .inl c] M (fun r M1 => Calls 5 mX12_roots [.inr 76, .inl a, .inl c] M1 (fun r' M2 => r = r' ∧ P M2)) := by
  have h16 := h.dk.1
  have hn0 := h.dk.2.1
  have h44 := h.2.2.2.2.2
  have hC := h.1.2.2.1
  by_cases hv : (0 ≤ a ∧ a < M 3 8) ∧ (1 ≤ c ∧ c ≤ 100)
  · obtain ⟨ha, hc⟩ := hv
    refine e_X11_roots ⟨fun _ => ⟨fun _ => ?_, fun q => absurd hc q⟩, fun q => absurd ha q⟩
    refine copyTo h (fun M1 f1 hH1 => ?_)
    refine l_X11_roots (M0 := M1) h.2.2.2.2.1 h.dk (h.sc.mv (Or.inr (Or.inr rfl)) f1) ha.1 ha.2 hc.2 (fun M2 f2 => ?_) (c + 1).toNat 0 (M 77) M1 (by omega) (by omega) (WFr.rf _ _) hH1 h.rg rfl
    have f12 := f1.tr f2
    obtain ⟨s2, -⟩ := h.sr.mvC (Or.inr (Or.inr rfl)) f12
    have e11 : M2 76 11 = M 3 8 := s2.1
    refine e_X12_roots ?_
    rw [e11]
    refine ⟨hn0, fun _ => ⟨fun _ => ?_, fun q => absurd hc q⟩, fun q => absurd ha q⟩
    refine midStart h f12 (fun M3 md s3 e3 m3 => ?_)
    refine l_X12_roots (M0 := M) h.2.2.2.2.1 h.dk h44 ha.1 ha.2 hc.2 (fun M' fn => ⟨?_, hP M' fn⟩) c.toNat 0 M3 (by omega) (by omega) md s3 (by omega) (by rw [e3]; exact h.rg) rfl
    rw [e3, show (c + 1).toNat = c.toNat + 1 by omega]
  · have go : Calls 5 mX12_roots [.inr 76, .inl a, .inl c] M (fun r' M2 => (-1 : Int) = r' ∧ P M2) := by
      refine e_X12_roots ⟨by first | omega | (unfold cn; omega), ⟨fun v1 => ⟨fun v2 => (by exfalso; omega), fun v2 => (by exact ⟨rfl, hP M (Fin.rf h44.1)⟩)⟩, fun v1 => (by exact ⟨rfl, hP M (Fin.rf h44.1)⟩)⟩⟩
    refine e_X11_roots ⟨fun v1 => ⟨fun v2 => (by exfalso; omega), fun v2 => (by exact go)⟩, fun v1 => (by exact go)⟩
def strF (L D : Me) (n a : Int) : Nat → (Int → Int) → Int → Int
  | 0, _, m => m
  | k + 1, S, m => if 9999 ≤ S 80 then m else strF L D n a k (seasP L D n S).1 (max m (dst (D 0 a) ((seasP L D n S).1 (16 + a))))
theorem l_X11_strays {Q : Int → Me → Prop} {M0 : Me} {n : Int} {D L : Me} (hW : LawW L) (hD : Dk n D) (hs0 : StC n D L M0) {a c : Int} (a0 : 0 ≤ a) (a1 : a < n) (c100 : c ≤ 100) {R : Int} (hQ : ∀ M', WFr 49 M0 M' → Q R M') :
    ∀ (k : Nat) (g m : Int) (S : Int → Int) (M : Me), 0 ≤ g → g + k = c → WFr 49 M0 M → Hold n 49 M S → Rg n S → strF L D n a k S m = R → Go (km 6 mX11_strays Q) 40 [some (.inr 0), some (.inl a), some (.inl c), some (.inl m), some (.inl g)] [] M := by
  have h16 := hD.1
  intro k
  induction k with
  | zero =>
    intro g m S M g0 hg f hH hR he
    simp only [strF] at he
    refine s_X11_strays_40 _ _ _ _ M ⟨fun _ => ?_, fun q => by exfalso; omega⟩
    rw [he]; exact hQ M f
  | succ k ih =>
    intro g m S M g0 hg f hH hR he
    simp only [strF] at he
    refine s_X11_strays_40 _ _ _ _ M ⟨fun q => by exfalso; omega, fun _ => ?_⟩
    rw [hH.2.1]
    refine ⟨fun q => ?_, fun q => ?_⟩
    · rw [if_pos q] at he
      rw [he]; exact hQ M f
    · rw [if_neg (by omega)] at he
      have gR := (seas_Rg (L := L) hD hR).1
      refine p_season (Or.inr (Or.inr rfl)) hW hD (hs0.mv (Or.inr (Or.inr rfl)) f) hH hR (fun M' f' hH' => ?_)
      have e4 : M' 4 a = D 0 a := ((hs0.mv (Or.inr (Or.inr rfl)) (f.tr f')).2.1 a a0 a1).1
      have e51 : M' 51 a = (seasP L D n S).1 (16 + a) := (hH'.1 a a0 a1).2.1
      rw [e4, e51]
      refine ⟨by omega, by omega, (hD.2.2 a a0 a1).1.1, (gR.1 a a0 a1).2.1.1, by unfold cn; omega, ?_⟩
      exact ih (g + 1) _ _ M' (by omega) (by omega) (f.tr f') hH' gR he
theorem l_X12_strays {Q : Int → Me → Prop} {M0 : Me} {n : Int} {D L : Me} (hW : LawW L) (hD : Dk n D) (h44 : 0 ≤ M0 76 44 ∧ M0 76 44 ≤ 1000000000) {a c : Int} (a0 : 0 ≤ a) (a1 : a < n) (c100 : c ≤ 100) {R : Int} (hQ : ∀ M', Fin M0 M' → Q R M') :
    ∀ (k : Nat) (g m : Int) (M : Me), 0 ≤ g → g + k = c → Mid M0 M → StR n D L M → M 76 44 ≤ M0 76 44 + 176 * g → Rg n (M 77) → strF L D n a k (M 77) m = R → Go (km 5 mX12_strays Q) 36 [some (.inr 76), some (.inl a), some (.inl c), some (.inl m), some (.inl g)] [] M := by
  have h16 := hD.1
  intro k
  induction k with
  | zero =>
    intro g m M g0 hg md s hb hR he
    simp only [strF] at he
    refine s_X12_strays_36 _ _ _ _ M ⟨fun _ => back md (fun M' fn => ?_), fun q => by exfalso; omega⟩
    rw [he]; exact hQ M' fn
  | succ k ih =>
    intro g m M g0 hg md s hb hR he
    simp only [strF] at he
    refine s_X12_strays_36 _ _ _ _ M ⟨fun q => by exfalso; omega, fun _ => ⟨fun q => ?_, fun q => ?_⟩⟩
    · rw [if_pos q] at he
      refine back md (fun M' fn => ?_)
      rw [he]; exact hQ M' fn
    · rw [if_neg (by omega)] at he
      have g' := seas_Rg (L := L) hD hR
      have b0' := md.2.2.1
      refine p_seasonGoes hW hD s hR q b0' (by omega) (fun M' f' e' m' => ?_)
      have e80 : M' 80 a = D 0 a := ((s.mv f').2.1 a a0 a1).1
      rw [e80, e']
      refine ⟨by unfold cn; omega, by omega, by omega, (g'.1.1 a a0 a1).2.1.1, (hD.2.2 a a0 a1).1.1, by unfold cn; omega, ?_⟩
      rw [dst_sym]
      exact ih (g + 1) _ M' (by omega) (by omega) (md.step f' (by omega) (by omega)) (s.mv f') (by omega) (by rw [e']; exact g'.1) (by rw [e']; exact he)
theorem o_strays {M L : Me} (h : SCtx M L) (a c : Int) (P : Me → Prop) (hP : ∀ M', Fin M M' → P M') : Calls 6 mX11_strays [.inr 0, .inl a, .inl c] M (fun r M1 => Calls 5 mX12_strays [.inr 76, .inl a, .inl c] M1 (fun r' M2 => r = r' ∧ P M2)) := by
  have h16 := h.dk.1
  have hn0 := h.dk.2.1
  have h44 := h.2.2.2.2.2
  have hC := h.1.2.2.1
  by_cases hv : (0 ≤ a ∧ a < M 3 8) ∧ (1 ≤ c ∧ c ≤ 100)
  · obtain ⟨ha, hc⟩ := hv
    refine e_X11_strays ⟨fun _ => ⟨fun _ => ?_, fun q => absurd hc q⟩, fun q => absurd ha q⟩
    refine copyTo h (fun M1 f1 hH1 => ?_)
    refine l_X11_strays (M0 := M1) h.2.2.2.2.1 h.dk (h.sc.mv (Or.inr (Or.inr rfl)) f1) ha.1 ha.2 hc.2 (fun M2 f2 => ?_) c.toNat 0 0 (M 77) M1 (by omega) (by omega) (WFr.rf _ _) hH1 h.rg rfl
    have f12 := f1.tr f2
    obtain ⟨s2, -⟩ := h.sr.mvC (Or.inr (Or.inr rfl)) f12
    have e11 : M2 76 11 = M 3 8 := s2.1
    refine e_X12_strays ?_
    rw [e11]
    refine ⟨hn0, fun _ => ⟨fun _ => ?_, fun q => absurd hc q⟩, fun q => absurd ha q⟩
    refine midStart h f12 (fun M3 md s3 e3 m3 => ?_)
    refine l_X12_strays (M0 := M) h.2.2.2.2.1 h.dk h44 ha.1 ha.2 hc.2 (fun M' fn => ⟨?_, hP M' fn⟩) c.toNat 0 0 M3 (by omega) (by omega) md s3 (by omega) (by rw [e3]; exact h.rg) rfl
    rw [e3]
  · have go : Calls 5 mX12_strays [.inr 76, .inl a, .inl c] M (fun r' M2 => (-1 : Int) = r' ∧ P M2) := by
      refine e_X12_strays ⟨by first | omega | (unfold cn; omega), ⟨fun v1 => ⟨fun v2 => (by exfalso; omega), fun v2 => (by exact ⟨rfl, hP M (Fin.rf h44.1)⟩)⟩, fun v1 => (by exact ⟨rfl, hP M (Fin.rf h44.1)⟩)⟩⟩
    refine e_X11_strays ⟨fun v1 => ⟨fun v2 => (by exfalso; omega), fun v2 => (by exact go)⟩, fun v1 => (by exact go)⟩
