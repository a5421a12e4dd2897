/-! ===== ways that cross ===== -/
def btw (p q r : Int) : Prop := min p q ≤ r ∧ r ≤ max p q
def ovl (a b c d : Int) : Prop := max (min a b) (min c d) ≤ min (max a b) (max c d)
def opp (x y : Int) : Prop := (0 < x ∧ y < 0) ∨ (x < 0 ∧ 0 < y)
theorem btw_mul {p q r : Int} (h : btw p q r) : (p - r) * (q - r) ≤ 0 := by
  unfold btw at h
  by_cases e : p ≤ r
  · by_cases e2 : r ≤ q
    · have := Int.mul_nonneg (show 0 ≤ r - p by omega) (show 0 ≤ q - r by omega)
      grind
    · have : r = p := by omega
      subst this
      simp
  · have := Int.mul_nonneg (show 0 ≤ p - r by omega) (show 0 ≤ r - q by omega)
    grind
theorem btw_of {p q r : Int} (h : (p - r) * (q - r) ≤ 0) : btw p q r := by
  unfold btw
  by_cases e : p < r
  · by_cases e2 : q < r
    · have := Int.mul_pos (show 0 < r - p by omega) (show 0 < r - q by omega)
      exfalso; grind
    · omega
  · by_cases e2 : p = r
    · omega
    · by_cases e3 : r < q
      · have := Int.mul_pos (show 0 < p - r by omega) (show 0 < q - r by omega)
        exfalso; grind
      · omega
theorem seg_ov {s1 s2 s3 s4 a b c d : Int} (hid : s1 * d - s2 * c = s4 * a - s3 * b) (hD : s1 - s2 = s4 - s3) (h1 : 0 < s1) (h2 : s2 < 0) (h3 : s3 < 0) (h4 : 0 < s4) : ovl a b c d := by
  unfold ovl
  by_cases q1 : max a b < min c d
  · exfalso
    have p1 := Int.mul_nonneg (show 0 ≤ s1 by omega) (show 0 ≤ d - (max a b + 1) by omega)
    have p2 := Int.mul_nonneg (show 0 ≤ -s2 by omega) (show 0 ≤ c - (max a b + 1) by omega)
    have p3 := Int.mul_nonneg (show 0 ≤ s4 by omega) (show 0 ≤ max a b - a by omega)
    have p4 := Int.mul_nonneg (show 0 ≤ -s3 by omega) (show 0 ≤ max a b - b by omega)
    generalize max a b = e at p1 p2 p3 p4
    simp only [Int.mul_sub, Int.mul_add, Int.mul_one, Int.neg_mul] at p1 p2 p3 p4
    have hh : (s1 - s2) * e = (s4 - s3) * e := by rw [hD]
    simp only [Int.sub_mul] at hh
    omega
  · by_cases q2 : max c d < min a b
    · exfalso
      have p1 := Int.mul_nonneg (show 0 ≤ s1 by omega) (show 0 ≤ max c d - d by omega)
      have p2 := Int.mul_nonneg (show 0 ≤ -s2 by omega) (show 0 ≤ max c d - c by omega)
      have p3 := Int.mul_nonneg (show 0 ≤ s4 by omega) (show 0 ≤ a - (max c d + 1) by omega)
      have p4 := Int.mul_nonneg (show 0 ≤ -s3 by omega) (show 0 ≤ b - (max c d + 1) by omega)
      generalize max c d = e at p1 p2 p3 p4
      simp only [Int.mul_sub, Int.mul_add, Int.mul_one, Int.neg_mul] at p1 p2 p3 p4
      have hh : (s1 - s2) * e = (s4 - s3) * e := by rw [hD]
      simp only [Int.sub_mul] at hh
      omega
    · omega
theorem seg_cvx {s p q a b c : Int} (hs : s = p + q) (h0 : 0 < s) (hp : 0 ≤ p) (hq : 0 ≤ q) (h : s * c = p * a + q * b) : btw a b c := by
  subst hs
  rw [Int.add_mul] at h
  unfold btw
  constructor
  · by_cases e : min a b ≤ c
    · exact e
    · exfalso
      have p1 := Int.mul_nonneg hp (show 0 ≤ a - (c + 1) by omega)
      have p2 := Int.mul_nonneg hq (show 0 ≤ b - (c + 1) by omega)
      simp only [Int.mul_sub, Int.mul_add, Int.mul_one] at p1 p2
      omega
  · by_cases e : c ≤ max a b
    · exact e
    · exfalso
      have p1 := Int.mul_nonneg hp (show 0 ≤ c - 1 - a by omega)
      have p2 := Int.mul_nonneg hq (show 0 ≤ c - 1 - b by omega)
      simp only [Int.mul_sub, Int.mul_add, Int.mul_one] at p1 p2
      omega
theorem seg_same {ux uy vx vy wx wy s3 s4 : Int} (h0 : ux * vy - uy * vx = 0) (hx : ux * vx ≤ 0) (hy : uy * vy ≤ 0) (e3 : s3 = wx * uy - wy * ux) (e4 : s4 = wx * vy - wy * vx) : ¬ (0 < s3 ∧ 0 < s4) ∧ ¬ (s3 < 0 ∧ s4 < 0) := by
  have i1 : s3 * vx = s4 * ux := by subst e3; subst e4; grind
  have i2 : s3 * vy = s4 * uy := by subst e3; subst e4; grind
  have key : ∀ t1 t2 u v : Int, 0 < t1 → 0 < t2 → t1 * v = t2 * u → u * v ≤ 0 → u = 0 := by
    intro t1 t2 u v a1 a2 a3 a4
    by_cases c : 0 < u
    · have q1 : 0 < t2 * u := Int.mul_pos a2 c
      have q2 : 0 < v := by
        by_cases w : 0 < v
        · exact w
        · have := Int.mul_nonneg (show 0 ≤ t1 by omega) (show 0 ≤ -v by omega)
          exfalso; grind
      have := Int.mul_pos c q2
      omega
    · by_cases c2 : u < 0
      · have q1 : 0 < t2 * (-u) := Int.mul_pos a2 (by omega)
        have q2 : v < 0 := by
          by_cases w : v < 0
          · exact w
          · have := Int.mul_nonneg (show 0 ≤ t1 by omega) (show 0 ≤ v by omega)
            exfalso; grind
        have := Int.mul_pos (show 0 < -u by omega) (show 0 < -v by omega)
        exfalso; grind
      · omega
  constructor
  · rintro ⟨a1, a2⟩
    have k1 := key s3 s4 ux vx a1 a2 i1 hx
    have k2 := key s3 s4 uy vy a1 a2 i2 hy
    subst k1; subst k2
    simp at e3
    omega
  · rintro ⟨a1, a2⟩
    have k1 := key (-s3) (-s4) ux vx (by omega) (by omega) (by grind) hx
    have k2 := key (-s3) (-s4) uy vy (by omega) (by omega) (by grind) hy
    subst k1; subst k2
    simp at e3
    omega
theorem seg_sc {k m p q p' q' : Int} (hk : k ≠ 0) (h1 : k * p = m * p') (h2 : k * q = m * q') (h : p' * q' ≤ 0) : p * q ≤ 0 := by
  have e : (k * k) * (p * q) = (m * m) * (p' * q') := by grind
  have kk : 0 < k * k := by
    by_cases c : 0 < k
    · exact Int.mul_pos c c
    · have := Int.mul_pos (show 0 < -k by omega) (show 0 < -k by omega)
      grind
  have mm : 0 ≤ m * m := by
    by_cases c : 0 ≤ m
    · exact Int.mul_nonneg c c
    · have := Int.mul_nonneg (show 0 ≤ -m by omega) (show 0 ≤ -m by omega)
      grind
  by_cases c : p * q ≤ 0
  · exact c
  · exfalso
    have p1 := Int.mul_pos kk (show 0 < p * q by omega)
    have p2 := Int.mul_nonneg mm (show 0 ≤ -(p' * q') by omega)
    grind
theorem seg_col {ax ay bx b_y cx cy dx dy : Int} (e1 : (bx - ax) * (cy - ay) - (b_y - ay) * (cx - ax) = 0) (e2 : (bx - ax) * (dy - ay) - (b_y - ay) * (dx - ax) = 0) (hv : bx ≠ ax) (o1 : ovl ax bx cx dx) :
    (btw ax bx cx ∧ btw ay b_y cy) ∨ (btw ax bx dx ∧ btw ay b_y dy) ∨ (btw cx dx ax ∧ btw cy dy ay) := by
  have hv' : bx - ax ≠ 0 := by omega
  have h3 : btw ax bx cx ∨ btw ax bx dx ∨ btw cx dx ax := by unfold ovl at o1; unfold btw; omega
  rcases h3 with h | h | h
  · exact Or.inl ⟨h, btw_of (seg_sc (m := b_y - ay) hv' (by grind) (by grind) (btw_mul h))⟩
  · exact Or.inr (Or.inl ⟨h, btw_of (seg_sc (m := b_y - ay) hv' (by grind) (by grind) (btw_mul h))⟩)
  · exact Or.inr (Or.inr ⟨h, btw_of (seg_sc (m := b_y - ay) hv' (by grind) (by grind) (btw_mul h))⟩)
theorem seg_main (ax ay bx b_y cx cy dx dy : Int) {s1 s2 s3 s4 : Int} (e1 : s1 = (bx - ax) * (cy - ay) - (b_y - ay) * (cx - ax)) (e2 : s2 = (bx - ax) * (dy - ay) - (b_y - ay) * (dx - ax)) (e3 : s3 = (dx - cx) * (ay - cy) - (dy - cy) * (ax - cx)) (e4 : s4 = (dx - cx) * (b_y - cy) - (dy - cy) * (bx - cx)) :
    ((ovl ax bx cx dx ∧ ovl ay b_y cy dy) ∧ (¬ (0 < s1 ∧ 0 < s2) ∧ ¬ (s1 < 0 ∧ s2 < 0)) ∧ (¬ (0 < s3 ∧ 0 < s4) ∧ ¬ (s3 < 0 ∧ s4 < 0))) ↔
    ((opp s1 s2 ∧ opp s3 s4) ∨ (s1 = 0 ∧ btw ax bx cx ∧ btw ay b_y cy) ∨ (s2 = 0 ∧ btw ax bx dx ∧ btw ay b_y dy) ∨ (s3 = 0 ∧ btw cx dx ax ∧ btw cy dy ay) ∨ (s4 = 0 ∧ btw cx dx bx ∧ btw cy dy b_y)) := by
  have ix : s1 * dx - s2 * cx = s4 * ax - s3 * bx := by subst e1; subst e2; subst e3; subst e4; grind
  have iy : s1 * dy - s2 * cy = s4 * ay - s3 * b_y := by subst e1; subst e2; subst e3; subst e4; grind
  have hD : s1 - s2 = s4 - s3 := by subst e1; subst e2; subst e3; subst e4; grind
  constructor
  · rintro ⟨⟨o1, o2⟩, ⟨n1, n2⟩, n3, n4⟩
    by_cases c0 : s1 - s2 = 0
    · have z1 : s1 = 0 := by omega
      have z2 : s2 = 0 := by omega
      have z3 : s3 = 0 := by omega
      have z4 : s4 = 0 := by omega
      rw [z1] at e1
      rw [z2] at e2
      by_cases v1 : bx = ax
      · by_cases v2 : b_y = ay
        · refine Or.inr (Or.inr (Or.inr (Or.inl ⟨z3, ?_, ?_⟩)))
          · unfold ovl at o1; unfold btw; omega
          · unfold ovl at o2; unfold btw; omega
        · rcases seg_col (ax := ay) (ay := ax) (bx := b_y) (b_y := bx) (cx := cy) (cy := cx) (dx := dy) (dy := dx) (by grind) (by grind) v2 o2 with q | q | q
          · exact Or.inr (Or.inl ⟨z1, q.2, q.1⟩)
          · exact Or.inr (Or.inr (Or.inl ⟨z2, q.2, q.1⟩))
          · exact Or.inr (Or.inr (Or.inr (Or.inl ⟨z3, q.2, q.1⟩)))
      · rcases seg_col e1.symm e2.symm v1 o1 with q | q | q
        · exact Or.inr (Or.inl ⟨z1, q⟩)
        · exact Or.inr (Or.inr (Or.inl ⟨z2, q⟩))
        · exact Or.inr (Or.inr (Or.inr (Or.inl ⟨z3, q⟩)))
    · by_cases z1 : s1 = 0
      · refine Or.inr (Or.inl ⟨z1, ?_⟩)
        subst z1
        by_cases c : 0 < -s2
        · exact ⟨seg_cvx (s := -s2) (p := s4) (q := -s3) (by omega) c (by omega) (by omega) (by grind), seg_cvx (s := -s2) (p := s4) (q := -s3) (by omega) c (by omega) (by omega) (by grind)⟩
        · exact ⟨seg_cvx (s := s2) (p := -s4) (q := s3) (by omega) (by omega) (by omega) (by omega) (by grind), seg_cvx (s := s2) (p := -s4) (q := s3) (by omega) (by omega) (by omega) (by omega) (by grind)⟩
      · by_cases z2 : s2 = 0
        · refine Or.inr (Or.inr (Or.inl ⟨z2, ?_⟩))
          subst z2
          by_cases c : 0 < s1
          · exact ⟨seg_cvx (s := s1) (p := s4) (q := -s3) (by omega) c (by omega) (by omega) (by grind), seg_cvx (s := s1) (p := s4) (q := -s3) (by omega) c (by omega) (by omega) (by grind)⟩
          · exact ⟨seg_cvx (s := -s1) (p := -s4) (q := s3) (by omega) (by omega) (by omega) (by omega) (by grind), seg_cvx (s := -s1) (p := -s4) (q := s3) (by omega) (by omega) (by omega) (by omega) (by grind)⟩
        · by_cases z3 : s3 = 0
          · refine Or.inr (Or.inr (Or.inr (Or.inl ⟨z3, ?_⟩)))
            subst z3
            by_cases c : 0 < s4
            · exact ⟨seg_cvx (s := s4) (p := -s2) (q := s1) (by omega) c (by omega) (by omega) (by grind), seg_cvx (s := s4) (p := -s2) (q := s1) (by omega) c (by omega) (by omega) (by grind)⟩
            · exact ⟨seg_cvx (s := -s4) (p := s2) (q := -s1) (by omega) (by omega) (by omega) (by omega) (by grind), seg_cvx (s := -s4) (p := s2) (q := -s1) (by omega) (by omega) (by omega) (by omega) (by grind)⟩
          · by_cases z4 : s4 = 0
            · refine Or.inr (Or.inr (Or.inr (Or.inr ⟨z4, ?_⟩)))
              subst z4
              by_cases c : 0 < -s3
              · exact ⟨seg_cvx (s := -s3) (p := -s2) (q := s1) (by omega) c (by omega) (by omega) (by grind), seg_cvx (s := -s3) (p := -s2) (q := s1) (by omega) c (by omega) (by omega) (by grind)⟩
              · exact ⟨seg_cvx (s := s3) (p := s2) (q := -s1) (by omega) (by omega) (by omega) (by omega) (by grind), seg_cvx (s := s3) (p := s2) (q := -s1) (by omega) (by omega) (by omega) (by omega) (by grind)⟩
            · refine Or.inl ?_
              unfold opp
              omega
  · rintro (⟨h1, h2⟩ | ⟨z, q1, q2⟩ | ⟨z, q1, q2⟩ | ⟨z, q1, q2⟩ | ⟨z, q1, q2⟩)
    · unfold opp at h1 h2
      refine ⟨?_, by omega, by omega⟩
      by_cases c : 0 < s1
      · exact ⟨seg_ov ix hD c (by omega) (by omega) (by omega), seg_ov iy hD c (by omega) (by omega) (by omega)⟩
      · exact ⟨seg_ov (s1 := -s1) (s2 := -s2) (s3 := -s3) (s4 := -s4) (by grind) (by omega) (by omega) (by omega) (by omega) (by omega), seg_ov (s1 := -s1) (s2 := -s2) (s3 := -s3) (s4 := -s4) (by grind) (by omega) (by omega) (by omega) (by omega) (by omega)⟩
    · refine ⟨⟨by unfold btw at q1; unfold ovl; omega, by unfold btw at q2; unfold ovl; omega⟩, by omega, ?_⟩
      exact seg_same (ux := ax - cx) (uy := ay - cy) (vx := bx - cx) (vy := b_y - cy) (wx := dx - cx) (wy := dy - cy) (by grind) (btw_mul q1) (btw_mul q2) e3 e4
    · refine ⟨⟨by unfold btw at q1; unfold ovl; omega, by unfold btw at q2; unfold ovl; omega⟩, by omega, ?_⟩
      exact seg_same (ux := ax - dx) (uy := ay - dy) (vx := bx - dx) (vy := b_y - dy) (wx := dx - cx) (wy := dy - cy) (by grind) (btw_mul q1) (btw_mul q2) (by grind) (by grind)
    · refine ⟨⟨by unfold btw at q1; unfold ovl; omega, by unfold btw at q2; unfold ovl; omega⟩, ?_, by omega⟩
      exact seg_same (ux := cx - ax) (uy := cy - ay) (vx := dx - ax) (vy := dy - ay) (wx := bx - ax) (wy := b_y - ay) (by grind) (btw_mul q1) (btw_mul q2) e1 e2
    · refine ⟨⟨by unfold btw at q1; unfold ovl; omega, by unfold btw at q2; unfold ovl; omega⟩, ?_, by omega⟩
      exact seg_same (ux := cx - bx) (uy := cy - b_y) (vx := dx - bx) (vy := dy - b_y) (wx := bx - ax) (wy := b_y - ay) (by grind) (btw_mul q1) (btw_mul q2) (by grind) (by grind)
/-! the rows of the class and of the reference -/
def sgn (x : Int) : Int := if 0 < x then 1 else if x < 0 then -1 else 0
theorem signum_all : ∀ i : Fin 1601, bor (bshr ((i.val : Int) - 800) 31) (bushr (-((i.val : Int) - 800)) 31) = sgn ((i.val : Int) - 800) := by decide +kernel
theorem p_signum {Q : Int → Me → Prop} {M : Me} {a : Int} (h1 : -800 ≤ a ∧ a ≤ 800) (h : Q (sgn a) M) : Calls 0 mJ6_signum_0f7a4 [.inl a] M Q := by
  refine e_J6_signum_0f7a4 ⟨by unfold cn; omega, ?_⟩
  have := signum_all ⟨(a + 800).toNat, by omega⟩
  simp only [show (((a + 800).toNat : Nat) : Int) - 800 = a by omega] at this
  rw [this]
  exact h
theorem sd_rng {a b c : Int} (ha : pl a) (hb : pl b) (hc : pl c) : -800 ≤ sd a b c ∧ sd a b c ≤ 800 := by
  have := sd_cn ha hb hc
  unfold sd
  omega
def onW (a b c : Int) : Prop := sd a b c = 0 ∧ dst a c + dst c b = dst a b
theorem p_X12_sideOf {Q : Int → Me → Prop} {M : Me} {a b c : Int} (ha : pl a) (hb : pl b) (hc : pl c) (h : Q (sd a b c) M) : Calls 0 mX12_sideOf [.inl a, .inl b, .inl c] M Q := by
  obtain ⟨q1, q2, q3, q4⟩ := sd_cn ha hb hc
  have ha' := ha
  have hb' := hb
  have hc' := hc
  unfold pl at ha' hb' hc'
  refine e_X12_sideOf ?_
  refine ⟨by omega, by omega, ?_, by omega, by omega, ?_, by omega, by omega, ?_, ?_, by omega, by omega, ?_, ?_, ?_, h⟩ <;> (unfold cn; omega)
theorem p_X12_between {Q : Int → Me → Prop} {M : Me} {a b c d : Int} (h : (ovl a b c d → Q 1 M) ∧ (¬ ovl a b c d → Q 0 M)) : Calls 1 mX12_between [.inl a, .inl b, .inl c, .inl d] M Q := by
  unfold ovl at h
  exact e_X12_between ⟨fun v => h.2 (by omega), fun v => h.1 v⟩
theorem dst_rng {a b : Int} (ha : pl a) (hb : pl b) : 0 ≤ dst a b ∧ dst a b ≤ 38 := by
  unfold pl at ha hb
  unfold dst
  omega
theorem p_X11_isOnWay {Q : Int → Me → Prop} {M : Me} {a b c : Int} (ha : pl a) (hb : pl b) (hc : pl c) (h : (onW a b c → Q 1 M) ∧ (¬ onW a b c → Q 0 M)) : Calls 2 mX11_isOnWay [.inl a, .inl b, .inl c] M Q := by
  have d1 := dst_rng ha hc
  have d2 := dst_rng hc hb
  have ha' := ha
  have hb' := hb
  have hc' := hc
  unfold pl at ha' hb' hc'
  unfold onW at h
  refine e_X11_isOnWay ⟨by first | omega | (unfold cn; omega), ⟨by first | omega | (unfold cn; omega), ⟨by first | omega | (unfold cn; omega), ⟨fun v1 => (by first | assumption | omega | (unfold cn; omega) | exact h.2 (by omega) | exact h.1 (by omega)), fun v1 => ⟨by first | omega | (unfold cn; omega), ⟨by first | omega | (unfold cn; omega), ⟨by first | omega | (unfold cn; omega), ⟨by first | omega | (unfold cn; omega), ⟨by first | omega | (unfold cn; omega), ⟨by first | omega | (unfold cn; omega), ⟨by first | omega | (unfold cn; omega), ⟨fun v2 => (by first | assumption | omega | (unfold cn; omega) | exact h.2 (by omega) | exact h.1 (by omega)), fun v2 => (by first | assumption | omega | (unfold cn; omega) | exact h.2 (by omega) | exact h.1 (by omega))⟩⟩⟩⟩⟩⟩⟩⟩⟩⟩⟩⟩
theorem onW_iff {a b c : Int} : onW a b c ↔ (sd a b c = 0 ∧ btw (a % 24) (b % 24) (c % 24) ∧ btw (a / 24) (b / 24) (c / 24)) := by
  unfold onW
  have : dst a c + dst c b = dst a b ↔ (btw (a % 24) (b % 24) (c % 24) ∧ btw (a / 24) (b / 24) (c / 24)) := by
    unfold dst btw
    omega
  rw [this]
