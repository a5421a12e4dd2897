/-! ===== a season, purely: the state is a row as the reference has it ===== -/
def upS (S : Int → Int) (i v : Int) : Int → Int := fun j => if j = i then v else S j
def aimF (D : Me) (S : Int → Int) (c : Int) : Int := if S (64 + c) = 1 then D 0 c else D 1 c
def turnS (D : Me) (S : Int → Int) (c : Int) : Int → Int := if S (16 + c) = aimF D S c then (if S (64 + c) = 0 then upS (upS (upS S (48 + c) (min (S (48 + c) + 1) 9999)) (32 + c) 99) (64 + c) 1 else upS S (64 + c) 0) else S
def turnN (D : Me) (S : Int → Int) (c : Int) : Int := if S (16 + c) = aimF D S c ∧ S (64 + c) = 0 then 1 else 0
def stepV (a b : Int) : Int := if a % 24 < b % 24 then a + 1 else if b % 24 < a % 24 then a - 1 else if a / 24 < b / 24 then a + 24 else if b / 24 < a / 24 then a - 24 else a
def moveS (D : Me) (S : Int → Int) (c : Int) : Int → Int := upS S (16 + c) (stepV (S (16 + c)) (aimF D S c))
def goP (D : Me) (c : Int) : Nat → (Int → Int) → Int → (Int → Int) × Int
  | 0, S, n => (S, n)
  | k + 1, S, n => goP D c k (turnS D (moveS D S c) c) (n + turnN D (moveS D S c) c)
def manyF (D : Me) (c told : Int) : Int := (if D 3 c = 1 then told / 2 else told) + D 4 c
def aboutP (D : Me) (S : Int → Int) (c told : Int) : (Int → Int) × Int := goP D c (manyF D c told).toNat (turnS D S c) (turnN D S c)
def lessF (D : Me) (S : Int → Int) (c told : Int) : Int := max 0 (S (32 + c) - (if D 2 c = 1 then told / 2 else told))
def forgS (D : Me) (S : Int → Int) (c told : Int) : Int → Int := if lessF D S c told = 0 then upS (upS S (32 + c) 0) c 3 else upS S (32 + c) (lessF D S c told)
def othS (S : Int → Int) (c e acc : Int) : Int := if e ≠ c ∧ S e = 2 ∧ S (16 + e) = S (16 + c) then acc + 1 else acc
def drw (S : Int → Int) : Int := (25173 * S 81 + 13849) % 65536
def factF (D : Me) (n : Int) (S : Int → Int) (c j : Int) : Int := if j = 0 then c else if j = 1 then S c else if j = 2 then S (32 + c) else if j = 3 then D 2 c else if j = 4 then D 3 c else if j = 5 then D 4 c else if j = 6 then S (48 + c) else if j = 7 then dst (S (16 + c)) (aimF D S c) else if j = 8 then iter (othS S c) n.toNat 0 0 else if j = 9 then S 80 % 100 else drw S % 10
def growP (L D : Me) (n : Int) (S : Int → Int) (c : Int) : (Int → Int) × Int :=
  if fellL L (factF D n S c) (L 0 0).toNat 0 ≠ 0 then (upS (upS S 81 (drw S)) c 4, 0)
  else if S c = 2 then (forgS D (aboutP D (upS S 81 (drw S)) c (wrtL L (factF D n S c) 118 1 9 (L 0 0).toNat 0)).1 c (wrtL L (factF D n S c) 102 0 99 (L 0 0).toNat 0), (aboutP D (upS S 81 (drw S)) c (wrtL L (factF D n S c) 118 1 9 (L 0 0).toNat 0)).2)
  else (forgS D (upS (upS S 81 (drw S)) c (S c + 1)) c (wrtL L (factF D n S c) 102 0 99 (L 0 0).toNat 0), 0)
def seasG (L D : Me) (n : Int) : Nat → Int → (Int → Int) → Int → (Int → Int) × Int
  | 0, _, S, m => (S, m)
  | k + 1, c, S, m => if S c < 3 then seasG L D n k (c + 1) (growP L D n S c).1 (m + (growP L D n S c).2) else seasG L D n k (c + 1) S m
def seasP (L D : Me) (n : Int) (S : Int → Int) : (Int → Int) × Int := if 9999 ≤ S 80 then (S, 0) else (upS (seasG L D n n.toNat 0 S 0).1 80 ((seasG L D n n.toNat 0 S 0).1 80 + 1), (seasG L D n n.toNat 0 S 0).2)
def goesP (L D : Me) (n : Int) : Nat → (Int → Int) → Int → (Int → Int) × Int
  | 0, S, m => (S, m)
  | k + 1, S, m => goesP L D n k (seasP L D n S).1 (m + (seasP L D n S).2)
/-! bounds -/
def Rg (n : Int) (S : Int → Int) : Prop := (∀ d, 0 ≤ d → d < n → (0 ≤ S d ∧ S d ≤ 4) ∧ pl (S (16 + d)) ∧ (0 ≤ S (32 + d) ∧ S (32 + d) ≤ 99) ∧ (0 ≤ S (48 + d) ∧ S (48 + d) ≤ 9999) ∧ (S (64 + d) = 0 ∨ S (64 + d) = 1)) ∧ (0 ≤ S 80 ∧ S 80 ≤ 9999) ∧ (0 ≤ S 81 ∧ S 81 ≤ 65535)
def Dk (n : Int) (D : Me) : Prop := n ≤ 16 ∧ 0 ≤ n ∧ ∀ d, 0 ≤ d → d < n → pl (D 0 d) ∧ pl (D 1 d) ∧ (D 2 d = 0 ∨ D 2 d = 1) ∧ (D 3 d = 0 ∨ D 3 d = 1) ∧ (D 4 d = 0 ∨ D 4 d = 1)
theorem Rg.p0 {n : Int} {S : Int → Int} (h16 : n ≤ 16) (h : Rg n S) {c v : Int} (c0 : 0 ≤ c) (c1 : c < n) (hv : 0 ≤ v ∧ v ≤ 4) : Rg n (upS S c v) := by
  refine ⟨fun d d0 d1 => ?_, ?_, ?_⟩
  · obtain ⟨g1, g2, g3, g4, g5⟩ := h.1 d d0 d1
    unfold pl at *
    simp only [upS]
    refine ⟨?_, ?_, ?_, ?_, ?_⟩ <;> split <;> omega
  · have := h.2.1; simp only [upS]; split <;> omega
  · have := h.2.2; simp only [upS]; split <;> omega
theorem Rg.p1 {n : Int} {S : Int → Int} (h16 : n ≤ 16) (h : Rg n S) {c v : Int} (c0 : 0 ≤ c) (c1 : c < n) (hv : pl v) : Rg n (upS S (16 + c) v) := by
  refine ⟨fun d d0 d1 => ?_, ?_, ?_⟩
  · obtain ⟨g1, g2, g3, g4, g5⟩ := h.1 d d0 d1
    unfold pl at *
    simp only [upS]
    refine ⟨?_, ?_, ?_, ?_, ?_⟩ <;> split <;> omega
  · have := h.2.1; simp only [upS]; split <;> omega
  · have := h.2.2; simp only [upS]; split <;> omega
theorem Rg.p2 {n : Int} {S : Int → Int} (h16 : n ≤ 16) (h : Rg n S) {c v : Int} (c0 : 0 ≤ c) (c1 : c < n) (hv : 0 ≤ v ∧ v ≤ 99) : Rg n (upS S (32 + c) v) := by
  refine ⟨fun d d0 d1 => ?_, ?_, ?_⟩
  · obtain ⟨g1, g2, g3, g4, g5⟩ := h.1 d d0 d1
    unfold pl at *
    simp only [upS]
    refine ⟨?_, ?_, ?_, ?_, ?_⟩ <;> split <;> omega
  · have := h.2.1; simp only [upS]; split <;> omega
  · have := h.2.2; simp only [upS]; split <;> omega
theorem Rg.p3 {n : Int} {S : Int → Int} (h16 : n ≤ 16) (h : Rg n S) {c v : Int} (c0 : 0 ≤ c) (c1 : c < n) (hv : 0 ≤ v ∧ v ≤ 9999) : Rg n (upS S (48 + c) v) := by
  refine ⟨fun d d0 d1 => ?_, ?_, ?_⟩
  · obtain ⟨g1, g2, g3, g4, g5⟩ := h.1 d d0 d1
    unfold pl at *
    simp only [upS]
    refine ⟨?_, ?_, ?_, ?_, ?_⟩ <;> split <;> omega
  · have := h.2.1; simp only [upS]; split <;> omega
  · have := h.2.2; simp only [upS]; split <;> omega
theorem Rg.p4 {n : Int} {S : Int → Int} (h16 : n ≤ 16) (h : Rg n S) {c v : Int} (c0 : 0 ≤ c) (c1 : c < n) (hv : v = 0 ∨ v = 1) : Rg n (upS S (64 + c) v) := by
  refine ⟨fun d d0 d1 => ?_, ?_, ?_⟩
  · obtain ⟨g1, g2, g3, g4, g5⟩ := h.1 d d0 d1
    unfold pl at *
    simp only [upS]
    refine ⟨?_, ?_, ?_, ?_, ?_⟩ <;> split <;> omega
  · have := h.2.1; simp only [upS]; split <;> omega
  · have := h.2.2; simp only [upS]; split <;> omega
theorem Rg.p80 {n : Int} {S : Int → Int} (h16 : n ≤ 16) (h : Rg n S) {v : Int} (hv : 0 ≤ v ∧ v ≤ 9999) : Rg n (upS S 80 v) := by
  refine ⟨fun d d0 d1 => ?_, ?_, ?_⟩
  · obtain ⟨g1, g2, g3, g4, g5⟩ := h.1 d d0 d1
    unfold pl at *
    simp only [upS]
    refine ⟨?_, ?_, ?_, ?_, ?_⟩ <;> split <;> omega
  · have := h.2.1; simp only [upS]; split <;> omega
  · have := h.2.2; simp only [upS]; split <;> omega
theorem Rg.p81 {n : Int} {S : Int → Int} (h16 : n ≤ 16) (h : Rg n S) {v : Int} (hv : 0 ≤ v ∧ v ≤ 65535) : Rg n (upS S 81 v) := by
  refine ⟨fun d d0 d1 => ?_, ?_, ?_⟩
  · obtain ⟨g1, g2, g3, g4, g5⟩ := h.1 d d0 d1
    unfold pl at *
    simp only [upS]
    refine ⟨?_, ?_, ?_, ?_, ?_⟩ <;> split <;> omega
  · have := h.2.1; simp only [upS]; split <;> omega
  · have := h.2.2; simp only [upS]; split <;> omega
theorem stepV_pl {a b : Int} (ha : pl a) (hb : pl b) : pl (stepV a b) := by
  unfold pl at *
  unfold stepV
  repeat' split
  all_goals omega
theorem aimF_pl {n : Int} {D : Me} (hD : Dk n D) {S : Int → Int} {c : Int} (c0 : 0 ≤ c) (c1 : c < n) : pl (aimF D S c) := by
  obtain ⟨h1, h2, -⟩ := hD.2.2 c c0 c1
  unfold aimF
  split
  · exact h1
  · exact h2
theorem turn_Rg {n : Int} {D : Me} (hD : Dk n D) {S : Int → Int} (h : Rg n S) {c : Int} (c0 : 0 ≤ c) (c1 : c < n) : Rg n (turnS D S c) := by
  have h16 := hD.1
  obtain ⟨-, -, -, g4, g5⟩ := h.1 c c0 c1
  unfold turnS
  split
  · split
    · exact ((h.p3 h16 c0 c1 (by omega)).p2 h16 c0 c1 (by omega)).p4 h16 c0 c1 (by omega)
    · exact h.p4 h16 c0 c1 (by omega)
  · exact h
theorem turnN_b (D : Me) (S : Int → Int) (c : Int) : 0 ≤ turnN D S c ∧ turnN D S c ≤ 1 := by unfold turnN; split <;> omega
theorem move_Rg {n : Int} {D : Me} (hD : Dk n D) {S : Int → Int} (h : Rg n S) {c : Int} (c0 : 0 ≤ c) (c1 : c < n) : Rg n (moveS D S c) :=
  h.p1 hD.1 c0 c1 (stepV_pl (h.1 c c0 c1).2.1 (aimF_pl hD c0 c1))
theorem go_Rg {n : Int} {D : Me} (hD : Dk n D) {c : Int} (c0 : 0 ≤ c) (c1 : c < n) : ∀ (k : Nat) (S : Int → Int) (m : Int), Rg n S → Rg n (goP D c k S m).1 ∧ m ≤ (goP D c k S m).2 ∧ (goP D c k S m).2 ≤ m + k
  | 0, S, m, h => ⟨h, Int.le_refl _, by simp only [goP]; omega⟩
  | k + 1, S, m, h => by
    have := go_Rg hD c0 c1 k _ (m + turnN D (moveS D S c) c) (turn_Rg hD (move_Rg hD h c0 c1) c0 c1)
    have b := turnN_b D (moveS D S c) c
    simp only [goP]
    exact ⟨this.1, by omega, by omega⟩
theorem about_Rg {n : Int} {D : Me} (hD : Dk n D) {S : Int → Int} (h : Rg n S) {c : Int} (c0 : 0 ≤ c) (c1 : c < n) {told : Int} (t0 : 0 ≤ told) (t9 : told ≤ 9) : Rg n (aboutP D S c told).1 ∧ 0 ≤ (aboutP D S c told).2 ∧ (aboutP D S c told).2 ≤ 11 := by
  obtain ⟨-, -, -, g3, g4⟩ := hD.2.2 c c0 c1
  have hm : manyF D c told ≤ 10 := by unfold manyF; split <;> omega
  have := go_Rg hD c0 c1 (manyF D c told).toNat (turnS D S c) (turnN D S c) (turn_Rg hD h c0 c1)
  have b := turnN_b D S c
  unfold aboutP
  exact ⟨this.1, by omega, by omega⟩
theorem forg_Rg {n : Int} {D : Me} (hD : Dk n D) {S : Int → Int} (h : Rg n S) {c : Int} (c0 : 0 ≤ c) (c1 : c < n) {told : Int} (t0 : 0 ≤ told) : Rg n (forgS D S c told) := by
  have h16 := hD.1
  obtain ⟨-, -, g3, -, -⟩ := h.1 c c0 c1
  have hl : 0 ≤ lessF D S c told ∧ lessF D S c told ≤ 99 := by unfold lessF; split <;> omega
  unfold forgS
  split
  · exact (h.p2 h16 c0 c1 (by omega)).p0 h16 c0 c1 (by omega)
  · exact h.p2 h16 c0 c1 hl
theorem wrt_b (L : Me) (F : Int → Int) (asked none most : Int) (hn : 0 ≤ none ∧ none ≤ most) : ∀ (k : Nat) (r : Int), 0 ≤ wrtL L F asked none most k r ∧ wrtL L F asked none most k r ≤ most
  | 0, _ => hn
  | k + 1, r => by
    have := wrt_b L F asked none most hn k (r + 1)
    simp only [wrtL]
    split
    · omega
    · exact this
theorem drw_b (S : Int → Int) : 0 ≤ drw S ∧ drw S ≤ 65535 := by unfold drw; omega
theorem grow_Rg {n : Int} {L D : Me} (hD : Dk n D) {S : Int → Int} (h : Rg n S) {c : Int} (c0 : 0 ≤ c) (c1 : c < n) (h3 : S c < 3) : Rg n (growP L D n S c).1 ∧ 0 ≤ (growP L D n S c).2 ∧ (growP L D n S c).2 ≤ 11 := by
  have h16 := hD.1
  have hd := h.p81 h16 (drw_b S)
  have g1 := (h.1 c c0 c1).1
  have w1 := wrt_b L (factF D n S c) 118 1 9 (by omega) (L 0 0).toNat 0
  have w2 := wrt_b L (factF D n S c) 102 0 99 (by omega) (L 0 0).toNat 0
  unfold growP
  split
  · exact ⟨hd.p0 h16 c0 c1 (by omega), by simp only; omega, by simp only; omega⟩
  · split
    · have := about_Rg hD hd c0 c1 w1.1 w1.2
      exact ⟨forg_Rg hD this.1 c0 c1 w2.1, this.2⟩
    · exact ⟨forg_Rg hD (hd.p0 h16 c0 c1 (by omega)) c0 c1 w2.1, by simp only; omega, by simp only; omega⟩
theorem seasG_Rg {n : Int} {L D : Me} (hD : Dk n D) : ∀ (k : Nat) (c : Int) (S : Int → Int) (m : Int), 0 ≤ c → c + k ≤ n → Rg n S → Rg n (seasG L D n k c S m).1 ∧ m ≤ (seasG L D n k c S m).2 ∧ (seasG L D n k c S m).2 ≤ m + 11 * k
  | 0, c, S, m, _, _, h => ⟨h, Int.le_refl _, by simp only [seasG]; omega⟩
  | k + 1, c, S, m, c0, hc, h => by
    simp only [seasG]
    split
    · next q =>
      have g := grow_Rg (L := L) hD h c0 (by omega) q
      have := seasG_Rg (L := L) hD k (c + 1) (growP L D n S c).1 (m + (growP L D n S c).2) (by omega) (by omega) g.1
      exact ⟨this.1, by omega, by omega⟩
    · have := seasG_Rg (L := L) hD k (c + 1) S m (by omega) (by omega) h
      exact ⟨this.1, by omega, by omega⟩
theorem upS_ne (S : Int → Int) {i j : Int} (v : Int) (h : j ≠ i) : upS S i v j = S j := by unfold upS; rw [if_neg h]
theorem turn80 {n : Int} {D : Me} (S : Int → Int) {c : Int} (h16 : n ≤ 16) (c0 : 0 ≤ c) (c1 : c < n) : turnS D S c 80 = S 80 := by
  unfold turnS
  split
  · split
    · rw [upS_ne _ _ (by omega), upS_ne _ _ (by omega), upS_ne _ _ (by omega)]
    · rw [upS_ne _ _ (by omega)]
  · rfl
theorem go80 {n : Int} {D : Me} {c : Int} (h16 : n ≤ 16) (c0 : 0 ≤ c) (c1 : c < n) : ∀ (k : Nat) (S : Int → Int) (m : Int), (goP D c k S m).1 80 = S 80
  | 0, S, m => rfl
  | k + 1, S, m => by
    simp only [goP]
    rw [go80 h16 c0 c1 k, turn80 _ h16 c0 c1]
    unfold moveS
    rw [upS_ne _ _ (by omega)]
theorem forg80 {n : Int} {D : Me} (S : Int → Int) {c told : Int} (h16 : n ≤ 16) (c0 : 0 ≤ c) (c1 : c < n) : forgS D S c told 80 = S 80 := by
  unfold forgS
  split
  · rw [upS_ne _ _ (by omega), upS_ne _ _ (by omega)]
  · rw [upS_ne _ _ (by omega)]
theorem grow80 {n : Int} {L D : Me} (S : Int → Int) {c : Int} (h16 : n ≤ 16) (c0 : 0 ≤ c) (c1 : c < n) : (growP L D n S c).1 80 = S 80 := by
  unfold growP
  split
  · simp only
    rw [upS_ne _ _ (by omega), upS_ne _ _ (by omega)]
  · split
    · simp only
      rw [forg80 _ h16 c0 c1]
      unfold aboutP
      rw [go80 h16 c0 c1, turn80 _ h16 c0 c1, upS_ne _ _ (by omega)]
    · simp only
      rw [forg80 _ h16 c0 c1, upS_ne _ _ (by omega), upS_ne _ _ (by omega)]
theorem seasG80 {n : Int} {L D : Me} (h16 : n ≤ 16) : ∀ (k : Nat) (c : Int) (S : Int → Int) (m : Int), 0 ≤ c → c + k ≤ n → (seasG L D n k c S m).1 80 = S 80
  | 0, c, S, m, _, _ => rfl
  | k + 1, c, S, m, c0, hc => by
    simp only [seasG]
    split
    · rw [seasG80 h16 k (c + 1) _ _ (by omega) (by omega), grow80 _ h16 c0 (by omega)]
    · rw [seasG80 h16 k (c + 1) _ _ (by omega) (by omega)]
theorem seas_Rg {n : Int} {L D : Me} (hD : Dk n D) {S : Int → Int} (h : Rg n S) : Rg n (seasP L D n S).1 ∧ 0 ≤ (seasP L D n S).2 ∧ (seasP L D n S).2 ≤ 176 := by
  have h16 := hD.1
  have h0 := hD.2.1
  unfold seasP
  split
  · exact ⟨h, by simp only; omega, by simp only; omega⟩
  · have := seasG_Rg (L := L) hD n.toNat 0 S 0 (by omega) (by omega) h
    have e := seasG80 (L := L) (D := D) h16 n.toNat 0 S 0 (by omega) (by omega)
    have := h.2.1
    simp only
    rw [e]
    exact ⟨(by assumption : Rg n (seasG L D n n.toNat 0 S 0).1 ∧ _).1.p80 h16 (by omega), by omega, by omega⟩
theorem goes_Rg {n : Int} {L D : Me} (hD : Dk n D) : ∀ (k : Nat) (S : Int → Int) (m : Int), Rg n S → Rg n (goesP L D n k S m).1 ∧ m ≤ (goesP L D n k S m).2 ∧ (goesP L D n k S m).2 ≤ m + 176 * k
  | 0, S, m, h => ⟨h, Int.le_refl _, by simp only [goesP]; omega⟩
  | k + 1, S, m, h => by
    have g := seas_Rg (L := L) hD h
    have := goes_Rg (L := L) hD k (seasP L D n S).1 (m + (seasP L D n S).2) g.1
    simp only [goesP]
    exact ⟨this.1, by omega, by omega⟩
theorem goes_end {n : Int} {L D : Me} : ∀ (k : Nat) (S : Int → Int) (m : Int), 9999 ≤ S 80 → goesP L D n k S m = (S, m)
  | 0, S, m, _ => rfl
  | k + 1, S, m, h => by
    have e : seasP L D n S = (S, 0) := by unfold seasP; rw [if_pos h]
    simp only [goesP]
    rw [e]
    simp only [Int.add_zero]
    exact goes_end k S m h
