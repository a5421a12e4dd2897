/-! ===== the law's text, parsed: one relation for both sides ===== -/
def opc (c : Int) : Int := if c = 43 then 2 else if c = 45 then 3 else if c = 42 then 4 else if c = 47 then 5 else if c = 37 then 6 else if c = 60 then 7 else if c = 62 then 8 else if c = 61 then 9 else -1
def fct (c : Int) : Int := if c = 99 then 0 else if c = 115 then 1 else if c = 109 then 2 else if c = 104 then 3 else if c = 108 then 4 else if c = 97 then 5 else if c = 107 then 6 else if c = 100 then 7 else if c = 110 then 8 else if c = 116 then 9 else if c = 119 then 10 else -1
abbrev isP (c : Int) : Prop := c = 43 ∨ c = 45
abbrev isT (c : Int) : Prop := c = 42 ∨ c = 47 ∨ c = 37
abbrev isC (c : Int) : Prop := c = 60 ∨ c = 62 ∨ c = 61
def dgs (S : Int → Int) : Nat → Int → Int → Int × Int
  | 0, p, v => (p, v)
  | k + 1, p, v => if isD (S p) then dgs S k (p + 1) (10 * v + S p - 48) else (p, v)
def Em (L : Me) (c n n' : Int) : Prop := (c = 0 ∧ n' = n) ∨ (c ≠ 0 ∧ n' = n + 1 ∧ L 5 n = opc c ∧ L 6 n = 0)
/-- sums: none a factor, some (pl, tm) the rest of a sum from a factor on, with a + or - and a * / % waiting -/
def PzC (S : Int → Int) (L : Me) (P : Option (Int × Int) → Int → Int → Int → Int → Int → Prop) : Prop :=
  (∀ (o p n : Int), isD (S p) → ¬ isD (S (dgs S 5 p 0).1) → L 5 n = 0 → L 6 n = (dgs S 5 p 0).2 → P none o p n (dgs S 5 p 0).1 (n + 1)) ∧
  (∀ (o p n : Int), ¬ isD (S p) → S p ≠ 91 → fct (S p) ≠ -1 → L 5 n = 1 → L 6 n = fct (S p) → P none o p n (p + 1) (n + 1)) ∧
  (∀ (o p n p1 n1 : Int), S p = 91 → o < 6 → P (some (0, 0)) (o + 1) (p + 1) n p1 n1 → S p1 = 93 → P none o p n (p1 + 1) n1) ∧
  (∀ (pl tm o p n p1 n1 n2 n3 : Int), P none o p n p1 n1 → Em L tm n1 n2 → Em L pl n2 n3 → ¬ isP (S p1) → ¬ isT (S p1) → P (some (pl, tm)) o p n p1 n3) ∧
  (∀ (pl tm o p n p1 n1 n2 p' n' : Int), P none o p n p1 n1 → Em L tm n1 n2 → isT (S p1) → P (some (pl, S p1)) o (p1 + 1) n2 p' n' → P (some (pl, tm)) o p n p' n') ∧
  (∀ (pl tm o p n p1 n1 n2 n3 p' n' : Int), P none o p n p1 n1 → Em L tm n1 n2 → Em L pl n2 n3 → isP (S p1) → P (some (S p1, 0)) o (p1 + 1) n3 p' n' → P (some (pl, tm)) o p n p' n')
def Pz (S : Int → Int) (L : Me) (x0 : Option (Int × Int)) (x1 : Int) (x2 : Int) (x3 : Int) (x4 : Int) (x5 : Int) : Prop := ∀ P : Option (Int × Int) → Int → Int → Int → Int → Int → Prop, PzC S L P → P x0 x1 x2 x3 x4 x5
theorem Pz.num {S : Int → Int} {L : Me} {o p n : Int} (h0 : isD (S p)) (h1 : ¬ isD (S (dgs S 5 p 0).1)) (h2 : L 5 n = 0) (h3 : L 6 n = (dgs S 5 p 0).2) : Pz S L none o p n (dgs S 5 p 0).1 (n + 1) := fun P hP => hP.1 o p n h0 h1 h2 h3
theorem Pz.ltr {S : Int → Int} {L : Me} {o p n : Int} (h0 : ¬ isD (S p)) (h1 : S p ≠ 91) (h2 : fct (S p) ≠ -1) (h3 : L 5 n = 1) (h4 : L 6 n = fct (S p)) : Pz S L none o p n (p + 1) (n + 1) := fun P hP => hP.2.1 o p n h0 h1 h2 h3 h4
theorem Pz.brk {S : Int → Int} {L : Me} {o p n p1 n1 : Int} (h0 : S p = 91) (h1 : o < 6) (h2 : Pz S L (some (0, 0)) (o + 1) (p + 1) n p1 n1) (h3 : S p1 = 93) : Pz S L none o p n (p1 + 1) n1 := fun P hP => hP.2.2.1 o p n p1 n1 h0 h1 (h2 P hP) h3
theorem Pz.sm0 {S : Int → Int} {L : Me} {pl tm o p n p1 n1 n2 n3 : Int} (h0 : Pz S L none o p n p1 n1) (h1 : Em L tm n1 n2) (h2 : Em L pl n2 n3) (h3 : ¬ isP (S p1)) (h4 : ¬ isT (S p1)) : Pz S L (some (pl, tm)) o p n p1 n3 := fun P hP => hP.2.2.2.1 pl tm o p n p1 n1 n2 n3 (h0 P hP) h1 h2 h3 h4
theorem Pz.smT {S : Int → Int} {L : Me} {pl tm o p n p1 n1 n2 p' n' : Int} (h0 : Pz S L none o p n p1 n1) (h1 : Em L tm n1 n2) (h2 : isT (S p1)) (h3 : Pz S L (some (pl, S p1)) o (p1 + 1) n2 p' n') : Pz S L (some (pl, tm)) o p n p' n' := fun P hP => hP.2.2.2.2.1 pl tm o p n p1 n1 n2 p' n' (h0 P hP) h1 h2 (h3 P hP)
theorem Pz.smP {S : Int → Int} {L : Me} {pl tm o p n p1 n1 n2 n3 p' n' : Int} (h0 : Pz S L none o p n p1 n1) (h1 : Em L tm n1 n2) (h2 : Em L pl n2 n3) (h3 : isP (S p1)) (h4 : Pz S L (some (S p1, 0)) o (p1 + 1) n3 p' n') : Pz S L (some (pl, tm)) o p n p' n' := fun P hP => hP.2.2.2.2.2 pl tm o p n p1 n1 n2 n3 p' n' (h0 P hP) h1 h2 h3 (h4 P hP)
theorem Pz.ind {S : Int → Int} {L : Me} {P : Option (Int × Int) → Int → Int → Int → Int → Int → Prop} (c0 : ∀ (o p n : Int), isD (S p) → ¬ isD (S (dgs S 5 p 0).1) → L 5 n = 0 → L 6 n = (dgs S 5 p 0).2 → P none o p n (dgs S 5 p 0).1 (n + 1)) (c1 : ∀ (o p n : Int), ¬ isD (S p) → S p ≠ 91 → fct (S p) ≠ -1 → L 5 n = 1 → L 6 n = fct (S p) → P none o p n (p + 1) (n + 1)) (c2 : ∀ (o p n p1 n1 : Int), S p = 91 → o < 6 → Pz S L (some (0, 0)) (o + 1) (p + 1) n p1 n1 → S p1 = 93 → P (some (0, 0)) (o + 1) (p + 1) n p1 n1 → P none o p n (p1 + 1) n1) (c3 : ∀ (pl tm o p n p1 n1 n2 n3 : Int), Pz S L none o p n p1 n1 → Em L tm n1 n2 → Em L pl n2 n3 → ¬ isP (S p1) → ¬ isT (S p1) → P none o p n p1 n1 → P (some (pl, tm)) o p n p1 n3) (c4 : ∀ (pl tm o p n p1 n1 n2 p' n' : Int), Pz S L none o p n p1 n1 → Em L tm n1 n2 → isT (S p1) → Pz S L (some (pl, S p1)) o (p1 + 1) n2 p' n' → P none o p n p1 n1 → P (some (pl, S p1)) o (p1 + 1) n2 p' n' → P (some (pl, tm)) o p n p' n') (c5 : ∀ (pl tm o p n p1 n1 n2 n3 p' n' : Int), Pz S L none o p n p1 n1 → Em L tm n1 n2 → Em L pl n2 n3 → isP (S p1) → Pz S L (some (S p1, 0)) o (p1 + 1) n3 p' n' → P none o p n p1 n1 → P (some (S p1, 0)) o (p1 + 1) n3 p' n' → P (some (pl, tm)) o p n p' n') {x0 : Option (Int × Int)} {x1 : Int} {x2 : Int} {x3 : Int} {x4 : Int} {x5 : Int} (h : Pz S L x0 x1 x2 x3 x4 x5) : P x0 x1 x2 x3 x4 x5 :=
  (h (fun x0 x1 x2 x3 x4 x5 => Pz S L x0 x1 x2 x3 x4 x5 ∧ P x0 x1 x2 x3 x4 x5) ⟨fun o p n h0 h1 h2 h3 => ⟨Pz.num h0 h1 h2 h3, c0 o p n h0 h1 h2 h3⟩,
    fun o p n h0 h1 h2 h3 h4 => ⟨Pz.ltr h0 h1 h2 h3 h4, c1 o p n h0 h1 h2 h3 h4⟩,
    fun o p n p1 n1 h0 h1 h2 h3 => ⟨Pz.brk h0 h1 h2.1 h3, c2 o p n p1 n1 h0 h1 h2.1 h3 h2.2⟩,
    fun pl tm o p n p1 n1 n2 n3 h0 h1 h2 h3 h4 => ⟨Pz.sm0 h0.1 h1 h2 h3 h4, c3 pl tm o p n p1 n1 n2 n3 h0.1 h1 h2 h3 h4 h0.2⟩,
    fun pl tm o p n p1 n1 n2 p' n' h0 h1 h2 h3 => ⟨Pz.smT h0.1 h1 h2 h3.1, c4 pl tm o p n p1 n1 n2 p' n' h0.1 h1 h2 h3.1 h0.2 h3.2⟩,
    fun pl tm o p n p1 n1 n2 n3 p' n' h0 h1 h2 h3 h4 => ⟨Pz.smP h0.1 h1 h2 h3 h4.1, c5 pl tm o p n p1 n1 n2 n3 p' n' h0.1 h1 h2 h3 h4.1 h0.2 h4.2⟩⟩).2
/-- the first fault of a sum -/
def PbC (S : Int → Int) (P : Option (Int × Int) → Int → Int → Int → Int → Prop) : Prop :=
  (∀ (o p n : Int), isD (S p) → isD (S (dgs S 5 p 0).1) → P none o p n (-1000 * 2 - (dgs S 5 p 0).1)) ∧
  (∀ (o p n : Int), ¬ isD (S p) → S p ≠ 91 → fct (S p) = -1 → P none o p n (-1000 * 1 - p)) ∧
  (∀ (o p n : Int), S p = 91 → 6 ≤ o → P none o p n (-1000 * 5 - p)) ∧
  (∀ (o p n f : Int), S p = 91 → o < 6 → P (some (0, 0)) (o + 1) (p + 1) n f → P none o p n f) ∧
  (∀ (L : Me) (o p n p1 n1 : Int), S p = 91 → o < 6 → Pz S L (some (0, 0)) (o + 1) (p + 1) n p1 n1 → S p1 ≠ 93 → P none o p n (-1000 * 1 - p1)) ∧
  (∀ (pl tm o p n f : Int), P none o p n f → P (some (pl, tm)) o p n f) ∧
  (∀ (L : Me) (pl tm o p n p1 n1 n2 f : Int), Pz S L none o p n p1 n1 → Em L tm n1 n2 → isT (S p1) → P (some (pl, S p1)) o (p1 + 1) n2 f → P (some (pl, tm)) o p n f) ∧
  (∀ (L : Me) (pl tm o p n p1 n1 n2 n3 f : Int), Pz S L none o p n p1 n1 → Em L tm n1 n2 → Em L pl n2 n3 → isP (S p1) → P (some (S p1, 0)) o (p1 + 1) n3 f → P (some (pl, tm)) o p n f)
def Pb (S : Int → Int) (x0 : Option (Int × Int)) (x1 : Int) (x2 : Int) (x3 : Int) (x4 : Int) : Prop := ∀ P : Option (Int × Int) → Int → Int → Int → Int → Prop, PbC S P → P x0 x1 x2 x3 x4
theorem Pb.fN {S : Int → Int} {o p n : Int} (h0 : isD (S p)) (h1 : isD (S (dgs S 5 p 0).1)) : Pb S none o p n (-1000 * 2 - (dgs S 5 p 0).1) := fun P hP => hP.1 o p n h0 h1
theorem Pb.fX {S : Int → Int} {o p n : Int} (h0 : ¬ isD (S p)) (h1 : S p ≠ 91) (h2 : fct (S p) = -1) : Pb S none o p n (-1000 * 1 - p) := fun P hP => hP.2.1 o p n h0 h1 h2
theorem Pb.fO {S : Int → Int} {o p n : Int} (h0 : S p = 91) (h1 : 6 ≤ o) : Pb S none o p n (-1000 * 5 - p) := fun P hP => hP.2.2.1 o p n h0 h1
theorem Pb.fI {S : Int → Int} {o p n f : Int} (h0 : S p = 91) (h1 : o < 6) (h2 : Pb S (some (0, 0)) (o + 1) (p + 1) n f) : Pb S none o p n f := fun P hP => hP.2.2.2.1 o p n f h0 h1 (h2 P hP)
theorem Pb.fC {S : Int → Int} {L : Me} {o p n p1 n1 : Int} (h0 : S p = 91) (h1 : o < 6) (h2 : Pz S L (some (0, 0)) (o + 1) (p + 1) n p1 n1) (h3 : S p1 ≠ 93) : Pb S none o p n (-1000 * 1 - p1) := fun P hP => hP.2.2.2.2.1 L o p n p1 n1 h0 h1 h2 h3
theorem Pb.s0 {S : Int → Int} {pl tm o p n f : Int} (h0 : Pb S none o p n f) : Pb S (some (pl, tm)) o p n f := fun P hP => hP.2.2.2.2.2.1 pl tm o p n f (h0 P hP)
theorem Pb.sT {S : Int → Int} {L : Me} {pl tm o p n p1 n1 n2 f : Int} (h0 : Pz S L none o p n p1 n1) (h1 : Em L tm n1 n2) (h2 : isT (S p1)) (h3 : Pb S (some (pl, S p1)) o (p1 + 1) n2 f) : Pb S (some (pl, tm)) o p n f := fun P hP => hP.2.2.2.2.2.2.1 L pl tm o p n p1 n1 n2 f h0 h1 h2 (h3 P hP)
theorem Pb.sP {S : Int → Int} {L : Me} {pl tm o p n p1 n1 n2 n3 f : Int} (h0 : Pz S L none o p n p1 n1) (h1 : Em L tm n1 n2) (h2 : Em L pl n2 n3) (h3 : isP (S p1)) (h4 : Pb S (some (S p1, 0)) o (p1 + 1) n3 f) : Pb S (some (pl, tm)) o p n f := fun P hP => hP.2.2.2.2.2.2.2 L pl tm o p n p1 n1 n2 n3 f h0 h1 h2 h3 (h4 P hP)
theorem Pb.ind {S : Int → Int} {P : Option (Int × Int) → Int → Int → Int → Int → Prop} (c0 : ∀ (o p n : Int), isD (S p) → isD (S (dgs S 5 p 0).1) → P none o p n (-1000 * 2 - (dgs S 5 p 0).1)) (c1 : ∀ (o p n : Int), ¬ isD (S p) → S p ≠ 91 → fct (S p) = -1 → P none o p n (-1000 * 1 - p)) (c2 : ∀ (o p n : Int), S p = 91 → 6 ≤ o → P none o p n (-1000 * 5 - p)) (c3 : ∀ (o p n f : Int), S p = 91 → o < 6 → Pb S (some (0, 0)) (o + 1) (p + 1) n f → P (some (0, 0)) (o + 1) (p + 1) n f → P none o p n f) (c4 : ∀ (L : Me) (o p n p1 n1 : Int), S p = 91 → o < 6 → Pz S L (some (0, 0)) (o + 1) (p + 1) n p1 n1 → S p1 ≠ 93 → P none o p n (-1000 * 1 - p1)) (c5 : ∀ (pl tm o p n f : Int), Pb S none o p n f → P none o p n f → P (some (pl, tm)) o p n f) (c6 : ∀ (L : Me) (pl tm o p n p1 n1 n2 f : Int), Pz S L none o p n p1 n1 → Em L tm n1 n2 → isT (S p1) → Pb S (some (pl, S p1)) o (p1 + 1) n2 f → P (some (pl, S p1)) o (p1 + 1) n2 f → P (some (pl, tm)) o p n f) (c7 : ∀ (L : Me) (pl tm o p n p1 n1 n2 n3 f : Int), Pz S L none o p n p1 n1 → Em L tm n1 n2 → Em L pl n2 n3 → isP (S p1) → Pb S (some (S p1, 0)) o (p1 + 1) n3 f → P (some (S p1, 0)) o (p1 + 1) n3 f → P (some (pl, tm)) o p n f) {x0 : Option (Int × Int)} {x1 : Int} {x2 : Int} {x3 : Int} {x4 : Int} (h : Pb S x0 x1 x2 x3 x4) : P x0 x1 x2 x3 x4 :=
  (h (fun x0 x1 x2 x3 x4 => Pb S x0 x1 x2 x3 x4 ∧ P x0 x1 x2 x3 x4) ⟨fun o p n h0 h1 => ⟨Pb.fN h0 h1, c0 o p n h0 h1⟩,
    fun o p n h0 h1 h2 => ⟨Pb.fX h0 h1 h2, c1 o p n h0 h1 h2⟩,
    fun o p n h0 h1 => ⟨Pb.fO h0 h1, c2 o p n h0 h1⟩,
    fun o p n f h0 h1 h2 => ⟨Pb.fI h0 h1 h2.1, c3 o p n f h0 h1 h2.1 h2.2⟩,
    fun L o p n p1 n1 h0 h1 h2 h3 => ⟨Pb.fC h0 h1 h2 h3, c4 L o p n p1 n1 h0 h1 h2 h3⟩,
    fun pl tm o p n f h0 => ⟨Pb.s0 h0.1, c5 pl tm o p n f h0.1 h0.2⟩,
    fun L pl tm o p n p1 n1 n2 f h0 h1 h2 h3 => ⟨Pb.sT h0 h1 h2 h3.1, c6 L pl tm o p n p1 n1 n2 f h0 h1 h2 h3.1 h3.2⟩,
    fun L pl tm o p n p1 n1 n2 n3 f h0 h1 h2 h3 h4 => ⟨Pb.sP h0 h1 h2 h3 h4.1, c7 L pl tm o p n p1 n1 n2 n3 f h0 h1 h2 h3 h4.1 h4.2⟩⟩).2
/-- conditions: none a test, some (tP, tW) the rest of a condition from a test on; tP where this part ends, tW where all of it does -/
def CzC (S : Int → Int) (L : Me) (P : Option (Int × Int) → Int → Int → Int → Int → Int → Prop) : Prop :=
  (∀ (o p n p' n1 : Int), S p = 33 → o < 6 → P none (o + 1) (p + 1) n p' n1 → L 5 n1 = 10 → L 6 n1 = 0 → P none o p n p' (n1 + 1)) ∧
  (∀ (o p n p1 n1 tP tW : Int), S p = 40 → o < 6 → P (some (tP, tW)) (o + 1) (p + 1) n p1 n1 → S p1 = 41 → P none o p n (p1 + 1) n1) ∧
  (∀ (o p n p1 n1 p' n2 : Int), S p ≠ 33 → S p ≠ 40 → Pz S L (some (0, 0)) o p n p1 n1 → isC (S p1) → Pz S L (some (0, 0)) o (p1 + 1) n1 p' n2 → L 5 n2 = opc (S p1) → L 6 n2 = 0 → P none o p n p' (n2 + 1)) ∧
  (∀ (o p n p1 n1 : Int), P none o p n p1 n1 → S p1 ≠ 38 → S p1 ≠ 124 → P (some (n1, n1)) o p n p1 n1) ∧
  (∀ (o p n p1 n1 tP tW p' n' : Int), P none o p n p1 n1 → S p1 = 38 → L 5 n1 = 11 → L 6 n1 = tP → P (some (tP, tW)) o (p1 + 1) (n1 + 1) p' n' → P (some (tP, tW)) o p n p' n') ∧
  (∀ (o p n p1 n1 tP tW p' n' : Int), P none o p n p1 n1 → S p1 = 124 → L 5 n1 = 12 → L 6 n1 = tW → P (some (tP, tW)) o (p1 + 1) (n1 + 1) p' n' → P (some (n1, tW)) o p n p' n')
def Cz (S : Int → Int) (L : Me) (x0 : Option (Int × Int)) (x1 : Int) (x2 : Int) (x3 : Int) (x4 : Int) (x5 : Int) : Prop := ∀ P : Option (Int × Int) → Int → Int → Int → Int → Int → Prop, CzC S L P → P x0 x1 x2 x3 x4 x5
theorem Cz.tsN {S : Int → Int} {L : Me} {o p n p' n1 : Int} (h0 : S p = 33) (h1 : o < 6) (h2 : Cz S L none (o + 1) (p + 1) n p' n1) (h3 : L 5 n1 = 10) (h4 : L 6 n1 = 0) : Cz S L none o p n p' (n1 + 1) := fun P hP => hP.1 o p n p' n1 h0 h1 (h2 P hP) h3 h4
theorem Cz.tsO {S : Int → Int} {L : Me} {o p n p1 n1 tP tW : Int} (h0 : S p = 40) (h1 : o < 6) (h2 : Cz S L (some (tP, tW)) (o + 1) (p + 1) n p1 n1) (h3 : S p1 = 41) : Cz S L none o p n (p1 + 1) n1 := fun P hP => hP.2.1 o p n p1 n1 tP tW h0 h1 (h2 P hP) h3
theorem Cz.tsC {S : Int → Int} {L : Me} {o p n p1 n1 p' n2 : Int} (h0 : S p ≠ 33) (h1 : S p ≠ 40) (h2 : Pz S L (some (0, 0)) o p n p1 n1) (h3 : isC (S p1)) (h4 : Pz S L (some (0, 0)) o (p1 + 1) n1 p' n2) (h5 : L 5 n2 = opc (S p1)) (h6 : L 6 n2 = 0) : Cz S L none o p n p' (n2 + 1) := fun P hP => hP.2.2.1 o p n p1 n1 p' n2 h0 h1 h2 h3 h4 h5 h6
theorem Cz.cdE {S : Int → Int} {L : Me} {o p n p1 n1 : Int} (h0 : Cz S L none o p n p1 n1) (h1 : S p1 ≠ 38) (h2 : S p1 ≠ 124) : Cz S L (some (n1, n1)) o p n p1 n1 := fun P hP => hP.2.2.2.1 o p n p1 n1 (h0 P hP) h1 h2
theorem Cz.cdA {S : Int → Int} {L : Me} {o p n p1 n1 tP tW p' n' : Int} (h0 : Cz S L none o p n p1 n1) (h1 : S p1 = 38) (h2 : L 5 n1 = 11) (h3 : L 6 n1 = tP) (h4 : Cz S L (some (tP, tW)) o (p1 + 1) (n1 + 1) p' n') : Cz S L (some (tP, tW)) o p n p' n' := fun P hP => hP.2.2.2.2.1 o p n p1 n1 tP tW p' n' (h0 P hP) h1 h2 h3 (h4 P hP)
theorem Cz.cdO {S : Int → Int} {L : Me} {o p n p1 n1 tP tW p' n' : Int} (h0 : Cz S L none o p n p1 n1) (h1 : S p1 = 124) (h2 : L 5 n1 = 12) (h3 : L 6 n1 = tW) (h4 : Cz S L (some (tP, tW)) o (p1 + 1) (n1 + 1) p' n') : Cz S L (some (n1, tW)) o p n p' n' := fun P hP => hP.2.2.2.2.2 o p n p1 n1 tP tW p' n' (h0 P hP) h1 h2 h3 (h4 P hP)
theorem Cz.ind {S : Int → Int} {L : Me} {P : Option (Int × Int) → Int → Int → Int → Int → Int → Prop} (c0 : ∀ (o p n p' n1 : Int), S p = 33 → o < 6 → Cz S L none (o + 1) (p + 1) n p' n1 → L 5 n1 = 10 → L 6 n1 = 0 → P none (o + 1) (p + 1) n p' n1 → P none o p n p' (n1 + 1)) (c1 : ∀ (o p n p1 n1 tP tW : Int), S p = 40 → o < 6 → Cz S L (some (tP, tW)) (o + 1) (p + 1) n p1 n1 → S p1 = 41 → P (some (tP, tW)) (o + 1) (p + 1) n p1 n1 → P none o p n (p1 + 1) n1) (c2 : ∀ (o p n p1 n1 p' n2 : Int), S p ≠ 33 → S p ≠ 40 → Pz S L (some (0, 0)) o p n p1 n1 → isC (S p1) → Pz S L (some (0, 0)) o (p1 + 1) n1 p' n2 → L 5 n2 = opc (S p1) → L 6 n2 = 0 → P none o p n p' (n2 + 1)) (c3 : ∀ (o p n p1 n1 : Int), Cz S L none o p n p1 n1 → S p1 ≠ 38 → S p1 ≠ 124 → P none o p n p1 n1 → P (some (n1, n1)) o p n p1 n1) (c4 : ∀ (o p n p1 n1 tP tW p' n' : Int), Cz S L none o p n p1 n1 → S p1 = 38 → L 5 n1 = 11 → L 6 n1 = tP → Cz S L (some (tP, tW)) o (p1 + 1) (n1 + 1) p' n' → P none o p n p1 n1 → P (some (tP, tW)) o (p1 + 1) (n1 + 1) p' n' → P (some (tP, tW)) o p n p' n') (c5 : ∀ (o p n p1 n1 tP tW p' n' : Int), Cz S L none o p n p1 n1 → S p1 = 124 → L 5 n1 = 12 → L 6 n1 = tW → Cz S L (some (tP, tW)) o (p1 + 1) (n1 + 1) p' n' → P none o p n p1 n1 → P (some (tP, tW)) o (p1 + 1) (n1 + 1) p' n' → P (some (n1, tW)) o p n p' n') {x0 : Option (Int × Int)} {x1 : Int} {x2 : Int} {x3 : Int} {x4 : Int} {x5 : Int} (h : Cz S L x0 x1 x2 x3 x4 x5) : P x0 x1 x2 x3 x4 x5 :=
  (h (fun x0 x1 x2 x3 x4 x5 => Cz S L x0 x1 x2 x3 x4 x5 ∧ P x0 x1 x2 x3 x4 x5) ⟨fun o p n p' n1 h0 h1 h2 h3 h4 => ⟨Cz.tsN h0 h1 h2.1 h3 h4, c0 o p n p' n1 h0 h1 h2.1 h3 h4 h2.2⟩,
    fun o p n p1 n1 tP tW h0 h1 h2 h3 => ⟨Cz.tsO h0 h1 h2.1 h3, c1 o p n p1 n1 tP tW h0 h1 h2.1 h3 h2.2⟩,
    fun o p n p1 n1 p' n2 h0 h1 h2 h3 h4 h5 h6 => ⟨Cz.tsC h0 h1 h2 h3 h4 h5 h6, c2 o p n p1 n1 p' n2 h0 h1 h2 h3 h4 h5 h6⟩,
    fun o p n p1 n1 h0 h1 h2 => ⟨Cz.cdE h0.1 h1 h2, c3 o p n p1 n1 h0.1 h1 h2 h0.2⟩,
    fun o p n p1 n1 tP tW p' n' h0 h1 h2 h3 h4 => ⟨Cz.cdA h0.1 h1 h2 h3 h4.1, c4 o p n p1 n1 tP tW p' n' h0.1 h1 h2 h3 h4.1 h0.2 h4.2⟩,
    fun o p n p1 n1 tP tW p' n' h0 h1 h2 h3 h4 => ⟨Cz.cdO h0.1 h1 h2 h3 h4.1, c5 o p n p1 n1 tP tW p' n' h0.1 h1 h2 h3 h4.1 h0.2 h4.2⟩⟩).2
/-! what every one of them keeps: places and lengths -/
def Sg (S : Int → Int) (e : Int) : Prop := e ≤ 240 ∧ ∀ p, S p ≠ -1 → 0 ≤ p ∧ p < e
theorem opc_r (c : Int) : -1 ≤ opc c ∧ opc c ≤ 9 := by
  unfold opc
  repeat' split
  all_goals omega
theorem Em.le {L : Me} {c n n' : Int} (h : Em L c n n') : n ≤ n' ∧ n' ≤ n + 1 ∧ (c = 0 → n' = n) := by
  rcases h with ⟨a, b⟩ | ⟨a, b, -⟩ <;> omega
theorem dgs_le (S : Int → Int) : ∀ (k : Nat) (p v : Int), p ≤ (dgs S k p v).1 ∧ (dgs S k p v).1 ≤ p + k
  | 0, p, v => by simp only [dgs]; omega
  | k + 1, p, v => by
    simp only [dgs]
    split
    · have := dgs_le S k (p + 1) (10 * v + S p - 48); omega
    · simp only; omega
theorem dgs_pos {S : Int → Int} {p : Int} (h : isD (S p)) : p < (dgs S 5 p 0).1 := by
  simp only [dgs]
  rw [if_pos h]
  have := dgs_le S 4 (p + 1) (10 * 0 + S p - 48)
  simp only [dgs] at this
  omega
theorem dgs_e {S : Int → Int} {e : Int} (hS : Sg S e) : ∀ (k : Nat) (p v : Int), p ≤ e → (dgs S k p v).1 ≤ e
  | 0, p, v, h => by simp only [dgs]; exact h
  | k + 1, p, v, h => by
    simp only [dgs]
    split
    · next q => exact dgs_e hS k _ _ (by have := (hS.2 p (fun z => by rw [z] at q; exact not_isD_neg q)).2; omega)
    · exact h
/-- the code never grows by more than the text; `pn` what waits -/
def pn (c : Int) : Int := if c = 0 then 0 else 1
def pk : Option (Int × Int) → Int
  | none => 0
  | some (a, b) => pn a + pn b
theorem Em.cnt {L : Me} {c n n' : Int} (h : Em L c n n') : n' = n + pn c := by
  unfold Em at h
  unfold pn
  rcases h with ⟨a, b⟩ | ⟨a, b, -⟩
  · rw [if_pos a]; omega
  · rw [if_neg a]; omega
theorem Pz.le {S : Int → Int} {L : Me} {e : Int} (hS : Sg S e) {k : Option (Int × Int)} {o p n p' n' : Int} (h : Pz S L k o p n p' n') : p < p' ∧ p' ≤ e ∧ n < n' ∧ n' - n ≤ p' - p + pk k ∧ 0 ≤ p := by
  refine Pz.ind (P := fun k o p n p' n' => p < p' ∧ p' ≤ e ∧ n < n' ∧ n' - n ≤ p' - p + pk k ∧ 0 ≤ p) ?_ ?_ ?_ ?_ ?_ ?_ h
  · intro o p n h1 h2 h3 h4
    try dsimp only at *
    have a := dgs_pos h1
    have b := hS.2 p (fun z => by rw [z] at h1; exact not_isD_neg h1)
    have c := dgs_e hS 5 p 0 (by omega)
    simp only [pk]
    omega
  · intro o p n h1 h2 h3 h4 h5
    try dsimp only at *
    have b := hS.2 p (fun z => by rw [z] at h3; exact h3 (by decide))
    simp only [pk]
    omega
  · intro o p n p1 n1 h1 h2 h3 h4 ih
    try dsimp only at *
    have b := hS.2 p1 (by omega)
    have b' := hS.2 p (by omega)
    simp only [pk, pn] at ih ⊢
    simp only [if_true] at ih
    omega
  · intro pl tm o p n p1 n1 n2 n3 h1 h2 h3 h4 h5 ih
    try dsimp only at *
    have a := h2.cnt
    have b := h3.cnt
    have c := h2.le
    have d := h3.le
    simp only [pk] at ih ⊢
    omega
  · intro pl tm o p n p1 n1 n2 p' n' h1 h2 h3 h4 ih1 ih2
    try dsimp only at *
    have a := h2.cnt
    have c := h2.le
    have q : S p1 ≠ 0 := by omega
    simp only [pk] at ih1 ih2 ⊢
    have e1 : pn (S p1) = 1 := if_neg q
    omega
  · intro pl tm o p n p1 n1 n2 n3 p' n' h1 h2 h3 h4 h5 ih1 ih2
    try dsimp only at *
    have a := h2.cnt
    have b := h3.cnt
    have c := h2.le
    have d := h3.le
    have q : S p1 ≠ 0 := by omega
    simp only [pk] at ih1 ih2 ⊢
    have e1 : pn (S p1) = 1 := if_neg q
    have e2 : pn 0 = 0 := if_pos rfl
    omega
theorem Cz.le {S : Int → Int} {L : Me} {e : Int} (hS : Sg S e) {k : Option (Int × Int)} {o p n p' n' : Int} (h : Cz S L k o p n p' n') : p < p' ∧ p' ≤ e ∧ n < n' ∧ n' - n ≤ p' - p ∧ 0 ≤ p := by
  refine Cz.ind (P := fun k o p n p' n' => p < p' ∧ p' ≤ e ∧ n < n' ∧ n' - n ≤ p' - p ∧ 0 ≤ p) ?_ ?_ ?_ ?_ ?_ ?_ h
  · intro o p n p' n1 h1 h2 h3 h4 h5 ih
    try dsimp only at *
    have := hS.2 p (by omega); omega
  · intro o p n p1 n1 tP tW h1 h2 h3 h4 ih
    try dsimp only at *
    have := hS.2 p1 (by omega); have := hS.2 p (by omega); omega
  · intro o p n p1 n1 p' n2 h1 h2 h3 h4 h5 h6 h7
    try dsimp only at *
    have a := h3.le hS
    have b := h5.le hS
    have e2 : pk (some (0, 0)) = 0 := by decide
    omega
  · intro _ _ _ _ _ h1 h2 h3 ih
    try dsimp only at *
    exact ih
  · intro o p n p1 n1 tP tW p' n' h1 h2 h3 h4 h5 ih1 ih2
    try dsimp only at *
    omega
  · intro o p n p1 n1 tP tW p' n' h1 h2 h3 h4 h5 ih1 ih2
    try dsimp only at *
    omega
/-! they hang on their own places of the code only -/
theorem Em.mv {L L' : Me} {c n n' : Int} (h : Em L c n n') (hL : ∀ i, n ≤ i → i < n' → L' 5 i = L 5 i ∧ L' 6 i = L 6 i) : Em L' c n n' := by
  rcases h with h | ⟨a, b, c, d⟩
  · exact Or.inl h
  · have := hL n (by omega) (by omega)
    exact Or.inr ⟨a, b, by rw [this.1]; exact c, by rw [this.2]; exact d⟩
theorem Pz.mv {S : Int → Int} {L L' : Me} {e : Int} (hS : Sg S e) {k : Option (Int × Int)} {o p n p' n' : Int} (h : Pz S L k o p n p' n') : (∀ i, n ≤ i → i < n' → L' 5 i = L 5 i ∧ L' 6 i = L 6 i) → Pz S L' k o p n p' n' := by
  refine Pz.ind (P := fun k o p n p' n' => (∀ i, n ≤ i → i < n' → L' 5 i = L 5 i ∧ L' 6 i = L 6 i) → Pz S L' k o p n p' n') ?_ ?_ ?_ ?_ ?_ ?_ h
  · intro o p n h1 h2 h3 h4
    try dsimp only at *
    exact fun hL => .num h1 h2 (by rw [(hL n (by omega) (by omega)).1]; exact h3) (by rw [(hL n (by omega) (by omega)).2]; exact h4)
  · intro o p n h1 h2 h3 h4 h5
    try dsimp only at *
    exact fun hL => .ltr h1 h2 h3 (by rw [(hL n (by omega) (by omega)).1]; exact h4) (by rw [(hL n (by omega) (by omega)).2]; exact h5)
  · intro o p n p1 n1 h1 h2 h3 h4 ih
    try dsimp only at *
    exact fun hL => .brk h1 h2 (ih hL) h4
  · intro pl tm o p n p1 n1 n2 n3 h1 h2 h3 h4 h5 ih
    try dsimp only at *
    have := h1.le hS; have := h2.le; have := h3.le
    exact fun hL => .sm0 (ih (fun i a b => hL i a (by omega))) (h2.mv (fun i a b => hL i (by omega) (by omega))) (h3.mv (fun i a b => hL i (by omega) (by omega))) h4 h5
  · intro pl tm o p n p1 n1 n2 p' n' h1 h2 h3 h4 ih1 ih2
    try dsimp only at *
    have := h1.le hS; have := h2.le; have := h4.le hS
    exact fun hL => .smT (ih1 (fun i a b => hL i a (by omega))) (h2.mv (fun i a b => hL i (by omega) (by omega))) h3 (ih2 (fun i a b => hL i (by omega) b))
  · intro pl tm o p n p1 n1 n2 n3 p' n' h1 h2 h3 h4 h5 ih1 ih2
    try dsimp only at *
    have := h1.le hS; have := h2.le; have := h3.le; have := h5.le hS
    exact fun hL => .smP (ih1 (fun i a b => hL i a (by omega))) (h2.mv (fun i a b => hL i (by omega) (by omega))) (h3.mv (fun i a b => hL i (by omega) (by omega))) h4 (ih2 (fun i a b => hL i (by omega) b))
theorem Cz.mv {S : Int → Int} {L L' : Me} {e : Int} (hS : Sg S e) {k : Option (Int × Int)} {o p n p' n' : Int} (h : Cz S L k o p n p' n') : (∀ i, n ≤ i → i < n' → L' 5 i = L 5 i ∧ L' 6 i = L 6 i) → Cz S L' k o p n p' n' := by
  refine Cz.ind (P := fun k o p n p' n' => (∀ i, n ≤ i → i < n' → L' 5 i = L 5 i ∧ L' 6 i = L 6 i) → Cz S L' k o p n p' n') ?_ ?_ ?_ ?_ ?_ ?_ h
  · intro o p n p' n1 h1 h2 h3 h4 h5 ih
    try dsimp only at *
    have := h3.le hS
    exact fun hL => .tsN h1 h2 (ih (fun i a b => hL i a (by omega))) (by rw [(hL n1 (by omega) (by omega)).1]; exact h4) (by rw [(hL n1 (by omega) (by omega)).2]; exact h5)
  · intro o p n p1 n1 tP tW h1 h2 h3 h4 ih
    try dsimp only at *
    exact fun hL => .tsO h1 h2 (ih hL) h4
  · intro o p n p1 n1 p' n2 h1 h2 h3 h4 h5 h6 h7
    try dsimp only at *
    have := h3.le hS; have := h5.le hS
    exact fun hL => .tsC h1 h2 (h3.mv hS (fun i a b => hL i a (by omega))) h4 (h5.mv hS (fun i a b => hL i (by omega) (by omega))) (by rw [(hL n2 (by omega) (by omega)).1]; exact h6) (by rw [(hL n2 (by omega) (by omega)).2]; exact h7)
  · intro _ _ _ _ _ h1 h2 h3 ih
    try dsimp only at *
    exact fun hL => .cdE (ih hL) h2 h3
  · intro o p n p1 n1 tP tW p' n' h1 h2 h3 h4 h5 ih1 ih2
    try dsimp only at *
    have := h1.le hS; have := h5.le hS
    exact fun hL => .cdA (ih1 (fun i a b => hL i a (by omega))) h2 (by rw [(hL n1 (by omega) (by omega)).1]; exact h3) (by rw [(hL n1 (by omega) (by omega)).2]; exact h4) (ih2 (fun i a b => hL i (by omega) b))
  · intro o p n p1 n1 tP tW p' n' h1 h2 h3 h4 h5 ih1 ih2
    try dsimp only at *
    have := h1.le hS; have := h5.le hS
    exact fun hL => .cdO (ih1 (fun i a b => hL i a (by omega))) h2 (by rw [(hL n1 (by omega) (by omega)).1]; exact h3) (by rw [(hL n1 (by omega) (by omega)).2]; exact h4) (ih2 (fun i a b => hL i (by omega) b))
/-! the shape of what they print -/
def stp (s o : Int) : Int := if o ≤ 1 then s + 1 else if o ≤ 6 then s - 1 else if o ≤ 10 then -1 else 0
theorem opc_T {c : Int} (h : isT c) : 4 ≤ opc c ∧ opc c ≤ 6 := by
  rcases h with rfl | rfl | rfl <;> decide
theorem opc_P {c : Int} (h : isP c) : 2 ≤ opc c ∧ opc c ≤ 3 := by
  rcases h with rfl | rfl <;> decide
theorem opc_C {c : Int} (h : isC c) : 7 ≤ opc c ∧ opc c ≤ 9 := by
  rcases h with rfl | rfl | rfl <;> decide
theorem fct_r (c : Int) : -1 ≤ fct c ∧ fct c ≤ 10 := by
  unfold fct
  repeat' split
  all_goals omega
theorem dgs_v (S : Int → Int) : ∀ (k : Nat) (p v : Int), 0 ≤ v → 0 ≤ (dgs S k p v).2 ∧ (dgs S k p v).2 ≤ (v + 1) * 10 ^ k - 1
  | 0, p, v, h => by simp only [dgs]; omega
  | k + 1, p, v, h => by
    simp only [dgs]
    split
    · next q =>
      have q1 : 48 ≤ S p ∧ S p ≤ 57 := q
      have := dgs_v S k (p + 1) (10 * v + S p - 48) (by omega)
      refine ⟨this.1, Int.le_trans this.2 ?_⟩
      have h10 : (0 : Int) < 10 ^ k := Int.pow_pos (by decide)
      have : (10 * v + S p - 48 + 1) * 10 ^ k ≤ (10 * (v + 1)) * 10 ^ k := Int.mul_le_mul_of_nonneg_right (by omega) (by omega)
      have e : (v + 1) * 10 ^ (k + 1) = (10 * (v + 1)) * 10 ^ k := by rw [Int.pow_succ, ← Int.mul_assoc, Int.mul_comm 10 (v + 1), Int.mul_right_comm]
      rw [e]
      omega
    · have h10 : (1 : Int) ≤ 10 ^ (k + 1) := Int.pow_pos (by decide)
      have : (v + 1) * 1 ≤ (v + 1) * 10 ^ (k + 1) := Int.mul_le_mul_of_nonneg_left h10 (by omega)
      simp only
      omega
theorem Ok1.lo {o v sh : Int → Int} {b i : Int} (hs : sh (i + 1) = stp (sh i) (o i)) (s1 : 0 ≤ sh i ∧ sh i ≤ 60) (v1 : 0 ≤ v i ∧ v i < 1048576) (h : (o i = 0) ∨ (o i = 1 ∧ v i < 11) ∨ (2 ≤ o i ∧ o i ≤ 6 ∧ 2 ≤ sh i)) : Ok1 o v sh b i := by
  unfold stp at hs
  rcases h with h | h | h
  · rw [if_pos (by omega)] at hs
    exact ⟨by omega, by omega, v1, fun _ => by omega, fun _ _ => by omega, fun _ _ => by omega, fun _ => by omega, fun _ => by omega⟩
  · rw [if_pos (by omega)] at hs
    exact ⟨by omega, by omega, v1, fun _ => by omega, fun _ _ => by omega, fun _ _ => by omega, fun _ => by omega, fun _ => by omega⟩
  · rw [if_neg (by omega), if_pos (by omega)] at hs
    exact ⟨by omega, by omega, v1, fun _ => by omega, fun _ _ => by omega, fun _ _ => by omega, fun _ => by omega, fun _ => by omega⟩
theorem Em.sh {L : Me} {sh : Int → Int} {c n n' : Int} (h : Em L c n n') (hc : c = 0 ∨ isT c ∨ isP c) (hs : ∀ i, n ≤ i → i < n' → sh (i + 1) = stp (sh i) (L 5 i)) {d : Int} (d0 : 0 ≤ d ∧ d ≤ 40) (hd : sh n = d + pn c + 1) : sh n' = d + 1 ∧ ∀ b i, n ≤ i → i < n' → Ok1 (L 5) (L 6) sh b i := by
  unfold pn at hd
  rcases h with ⟨a, b⟩ | ⟨a, b, c1, c2⟩
  · subst b
    rw [if_pos a] at hd
    exact ⟨by omega, fun b i x y => by omega⟩
  · subst b
    rw [if_neg a] at hd
    have ho : 2 ≤ opc c ∧ opc c ≤ 6 := by
      rcases hc with h | h | h
      · exact absurd h a
      · have := opc_T h; omega
      · have := opc_P h; omega
    have hh := hs n (by omega) (by omega)
    refine ⟨?_, fun b i x y => ?_⟩
    · rw [hh, c1]
      unfold stp
      rw [if_neg (by omega), if_pos (by omega)]
      omega
    · have : i = n := by omega
      subst this
      exact Ok1.lo hh (by omega) (by omega) (Or.inr (Or.inr (by omega)))
def okK : Option (Int × Int) → Int → Int → Prop
  | none, o, d => d ≤ 2 * o + 2
  | some (pl, tm), o, d => d ≤ 2 * o ∧ (pl = 0 ∨ isP pl) ∧ (tm = 0 ∨ isT tm)
def tgK : Option (Int × Int) → (Int → Int) → Int → Int → Prop
  | none, _, _, _ => True
  | some (tP, tW), sh, n, n' => n < tP ∧ tP ≤ n' ∧ sh tP = -1 ∧ tW = n'
theorem Pz.sh {S : Int → Int} {L : Me} {e : Int} (hS : Sg S e) {sh : Int → Int} {k : Option (Int × Int)} {o p n p' n' : Int} (h : Pz S L k o p n p' n') : (∀ i, n ≤ i → i < n' → sh (i + 1) = stp (sh i) (L 5 i)) → o ≤ 6 → ∀ d, 0 ≤ d → okK k o d → sh n = d + pk k → sh n' = d + 1 ∧ ∀ b i, n ≤ i → i < n' → Ok1 (L 5) (L 6) sh b i := by
  refine Pz.ind (P := fun k o p n p' n' => (∀ i, n ≤ i → i < n' → sh (i + 1) = stp (sh i) (L 5 i)) → o ≤ 6 → ∀ d, 0 ≤ d → okK k o d → sh n = d + pk k → sh n' = d + 1 ∧ ∀ b i, n ≤ i → i < n' → Ok1 (L 5) (L 6) sh b i) ?_ ?_ ?_ ?_ ?_ ?_ h
  · intro o p n h1 h2 h3 h4
    try dsimp only at *
    intro hs ho d d0 hd hn
    simp only [pk, okK] at hn hd
    have hh := hs n (by omega) (by omega)
    have hv := dgs_v S 5 p 0 (by omega)
    refine ⟨by rw [hh, h3]; unfold stp; rw [if_pos (by omega)]; omega, fun b i x y => ?_⟩
    have : i = n := by omega
    subst this
    refine Ok1.lo hh (by omega) ?_ (Or.inl h3)
    rw [h4]
    have e5 : (((0 : Int) + 1) * 10 ^ 5 - 1) = 99999 := by decide
    rw [e5] at hv
    omega
  · intro o p n h1 h2 h3 h4 h5
    try dsimp only at *
    intro hs ho d d0 hd hn
    simp only [pk, okK] at hn hd
    have hh := hs n (by omega) (by omega)
    have hv := fct_r (S p)
    refine ⟨by rw [hh, h4]; unfold stp; rw [if_pos (by omega)]; omega, fun b i x y => ?_⟩
    have : i = n := by omega
    subst this
    exact Ok1.lo hh (by omega) (by rw [h5]; omega) (Or.inr (Or.inl ⟨h4, by rw [h5]; omega⟩))
  · intro o p n p1 n1 h1 h2 h3 h4 ih
    try dsimp only at *
    intro hs ho d d0 hd hn
    simp only [pk, okK] at hn hd
    exact ih hs (by omega) d d0 ⟨by omega, Or.inl rfl, Or.inl rfl⟩ (by simp only [pk, pn, if_true]; omega)
  · intro pl tm o p n p1 n1 n2 n3 h1 h2 h3 h4 h5 ih
    try dsimp only at *
    intro hs ho d d0 hd hn
    have l1 := h1.le hS; have l2 := h2.le; have l3 := h3.le
    simp only [pk, okK] at hn hd
    have b1 : 0 ≤ pn pl ∧ pn pl ≤ 1 := by unfold pn; split <;> omega
    have b2 : 0 ≤ pn tm ∧ pn tm ≤ 1 := by unfold pn; split <;> omega
    obtain ⟨a1, a2⟩ := ih (fun i x y => hs i x (by omega)) ho (d + (pn pl + pn tm)) (by omega) (by simp only [okK]; omega) (by simp only [pk]; omega)
    obtain ⟨c1, c2⟩ := h2.sh (sh := sh) (by rcases hd.2.2 with z | z; exact Or.inl z; exact Or.inr (Or.inl z)) (fun i x y => hs i (by omega) (by omega)) (d := d + pn pl) (by omega) (by omega)
    obtain ⟨e1, e2⟩ := h3.sh (sh := sh) (by rcases hd.2.1 with z | z; exact Or.inl z; exact Or.inr (Or.inr z)) (fun i x y => hs i (by omega) (by omega)) (d := d) (by omega) (by omega)
    refine ⟨e1, fun b i x y => ?_⟩
    by_cases q1 : i < n1
    · exact a2 b i x q1
    · by_cases q2 : i < n2
      · exact c2 b i (by omega) q2
      · exact e2 b i (by omega) y
  · intro pl tm o p n p1 n1 n2 p' n' h1 h2 h3 h4 ih1 ih2
    try dsimp only at *
    intro hs ho d d0 hd hn
    have l1 := h1.le hS; have l2 := h2.le; have l3 := h4.le hS
    simp only [pk, okK] at hn hd
    have b1 : 0 ≤ pn pl ∧ pn pl ≤ 1 := by unfold pn; split <;> omega
    have b2 : 0 ≤ pn tm ∧ pn tm ≤ 1 := by unfold pn; split <;> omega
    have b3 : pn (S p1) = 1 := if_neg (by omega)
    obtain ⟨a1, a2⟩ := ih1 (fun i x y => hs i x (by omega)) ho (d + (pn pl + pn tm)) (by omega) (by simp only [okK]; omega) (by simp only [pk]; omega)
    obtain ⟨c1, c2⟩ := h2.sh (sh := sh) (by rcases hd.2.2 with z | z; exact Or.inl z; exact Or.inr (Or.inl z)) (fun i x y => hs i (by omega) (by omega)) (d := d + pn pl) (by omega) (by omega)
    obtain ⟨e1, e2⟩ := ih2 (fun i x y => hs i (by omega) y) ho d d0 ⟨hd.1, hd.2.1, Or.inr h3⟩ (by simp only [pk]; omega)
    refine ⟨e1, fun b i x y => ?_⟩
    by_cases q1 : i < n1
    · exact a2 b i x q1
    · by_cases q2 : i < n2
      · exact c2 b i (by omega) q2
      · exact e2 b i (by omega) y
  · intro pl tm o p n p1 n1 n2 n3 p' n' h1 h2 h3 h4 h5 ih1 ih2
    try dsimp only at *
    intro hs ho d d0 hd hn
    have l1 := h1.le hS; have l2 := h2.le; have l3 := h3.le; have l4 := h5.le hS
    simp only [pk, okK] at hn hd
    have b1 : 0 ≤ pn pl ∧ pn pl ≤ 1 := by unfold pn; split <;> omega
    have b2 : 0 ≤ pn tm ∧ pn tm ≤ 1 := by unfold pn; split <;> omega
    have b3 : pn (S p1) = 1 := if_neg (by omega)
    have b4 : pn 0 = 0 := if_pos rfl
    obtain ⟨a1, a2⟩ := ih1 (fun i x y => hs i x (by omega)) ho (d + (pn pl + pn tm)) (by omega) (by simp only [okK]; omega) (by simp only [pk]; omega)
    obtain ⟨c1, c2⟩ := h2.sh (sh := sh) (by rcases hd.2.2 with z | z; exact Or.inl z; exact Or.inr (Or.inl z)) (fun i x y => hs i (by omega) (by omega)) (d := d + pn pl) (by omega) (by omega)
    obtain ⟨f1, f2⟩ := h3.sh (sh := sh) (by rcases hd.2.1 with z | z; exact Or.inl z; exact Or.inr (Or.inr z)) (fun i x y => hs i (by omega) (by omega)) (d := d) (by omega) (by omega)
    obtain ⟨e1, e2⟩ := ih2 (fun i x y => hs i (by omega) y) ho d d0 ⟨hd.1, Or.inr h4, Or.inl rfl⟩ (by simp only [pk]; omega)
    refine ⟨e1, fun b i x y => ?_⟩
    by_cases q1 : i < n1
    · exact a2 b i x q1
    · by_cases q2 : i < n2
      · exact c2 b i (by omega) q2
      · by_cases q3 : i < n3
        · exact f2 b i (by omega) q3
        · exact e2 b i (by omega) y
theorem Cz.sh {S : Int → Int} {L : Me} {e : Int} (hS : Sg S e) {sh : Int → Int} {k : Option (Int × Int)} {o p n p' n' : Int} (h : Cz S L k o p n p' n') : (∀ i, n ≤ i → i < n' → sh (i + 1) = stp (sh i) (L 5 i)) → 1 ≤ o → o ≤ 6 → 0 ≤ n → n' ≤ 240 → sh n = 0 → sh n' = -1 ∧ (∀ b, n' ≤ b → ∀ i, n ≤ i → i < n' → Ok1 (L 5) (L 6) sh b i) ∧ tgK k sh n n' := by
  refine Cz.ind (P := fun k o p n p' n' => (∀ i, n ≤ i → i < n' → sh (i + 1) = stp (sh i) (L 5 i)) → 1 ≤ o → o ≤ 6 → 0 ≤ n → n' ≤ 240 → sh n = 0 → sh n' = -1 ∧ (∀ b, n' ≤ b → ∀ i, n ≤ i → i < n' → Ok1 (L 5) (L 6) sh b i) ∧ tgK k sh n n') ?_ ?_ ?_ ?_ ?_ ?_ h
  · intro o p n p' n1 h1 h2 h3 h4 h5 ih
    try dsimp only at *
    intro hs o1 o6 n0 n240 hn
    have l1 := h3.le hS
    obtain ⟨a1, a2, -⟩ := ih (fun i x y => hs i x (by omega)) (by omega) (by omega) n0 (by omega) hn
    have hh := hs n1 (by omega) (by omega)
    have g1 : sh (n1 + 1) = -1 := by rw [hh, h4]; unfold stp; rw [if_neg (by omega), if_neg (by omega), if_pos (by omega)]
    refine ⟨g1, fun b hb i x y => ?_, trivial⟩
    by_cases q : i < n1
    · exact a2 b (by omega) i x q
    · have : i = n1 := by omega
      subst this
      exact ⟨by omega, by omega, by omega, fun _ => by omega, fun _ _ => by omega, fun _ _ => by omega, fun _ => by omega, fun _ => by omega⟩
  · intro o p n p1 n1 tP tW h1 h2 h3 h4 ih
    try dsimp only at *
    intro hs o1 o6 n0 n240 hn
    obtain ⟨a1, a2, -⟩ := ih hs (by omega) (by omega) n0 n240 hn
    exact ⟨a1, a2, trivial⟩
  · intro o p n p1 n1 p' n2 h1 h2 h3 h4 h5 h6 h7
    try dsimp only at *
    intro hs o1 o6 n0 n240 hn
    have l1 := h3.le hS; have l2 := h5.le hS
    have b4 : pk (some (0, 0)) = 0 := by decide
    obtain ⟨a1, a2⟩ := h3.sh hS (sh := sh) (fun i x y => hs i x (by omega)) o6 0 (by omega) ⟨by omega, Or.inl rfl, Or.inl rfl⟩ (by omega)
    obtain ⟨c1, c2⟩ := h5.sh hS (sh := sh) (fun i x y => hs i (by omega) (by omega)) o6 1 (by omega) ⟨by omega, Or.inl rfl, Or.inl rfl⟩ (by omega)
    have hh := hs n2 (by omega) (by omega)
    have ho := opc_C h4
    have g1 : sh (n2 + 1) = -1 := by rw [hh, h6]; unfold stp; rw [if_neg (by omega), if_neg (by omega), if_pos (by omega)]
    refine ⟨g1, fun b hb i x y => ?_, trivial⟩
    by_cases q1 : i < n1
    · exact a2 b i x q1
    · by_cases q2 : i < n2
      · exact c2 b i (by omega) q2
      · have : i = n2 := by omega
        subst this
        exact ⟨by omega, by omega, by omega, fun _ => by omega, fun _ _ => by omega, fun _ _ => by omega, fun _ => by omega, fun _ => by omega⟩
  · intro o p n p1 n1 h1 h2 h3 ih
    try dsimp only at *
    intro hs o1 o6 n0 n240 hn
    have l1 := h1.le hS
    obtain ⟨a1, a2, -⟩ := ih hs o1 o6 n0 n240 hn
    exact ⟨a1, a2, by omega, by omega, a1, rfl⟩
  · intro o p n p1 n1 tP tW p' n' h1 h2 h3 h4 h5 ih1 ih2
    try dsimp only at *
    intro hs o1 o6 n0 n240 hn
    have l1 := h1.le hS; have l2 := h5.le hS
    obtain ⟨a1, a2, -⟩ := ih1 (fun i x y => hs i x (by omega)) o1 o6 n0 (by omega) hn
    have hh := hs n1 (by omega) (by omega)
    have g1 : sh (n1 + 1) = 0 := by rw [hh, h3]; unfold stp; rw [if_neg (by omega), if_neg (by omega), if_neg (by omega)]
    obtain ⟨c1, c2, c3, c4, c5, c6⟩ := ih2 (fun i x y => hs i (by omega) y) o1 o6 (by omega) n240 g1
    refine ⟨c1, fun b hb i x y => ?_, by omega, c4, c5, c6⟩
    by_cases q1 : i < n1
    · exact a2 b (by omega) i x q1
    · by_cases q2 : i = n1
      · subst q2
        exact ⟨by omega, by omega, by omega, fun _ => by omega, fun _ _ => by omega, fun _ _ => by omega, fun _ => by omega, fun _ => ⟨by omega, by omega, by omega, by omega, by rw [h4]; exact c5⟩⟩
      · exact c2 b hb i (by omega) y
  · intro o p n p1 n1 tP tW p' n' h1 h2 h3 h4 h5 ih1 ih2
    try dsimp only at *
    intro hs o1 o6 n0 n240 hn
    have l1 := h1.le hS; have l2 := h5.le hS
    obtain ⟨a1, a2, -⟩ := ih1 (fun i x y => hs i x (by omega)) o1 o6 n0 (by omega) hn
    have hh := hs n1 (by omega) (by omega)
    have g1 : sh (n1 + 1) = 0 := by rw [hh, h3]; unfold stp; rw [if_neg (by omega), if_neg (by omega), if_neg (by omega)]
    obtain ⟨c1, c2, c3, c4, c5, c6⟩ := ih2 (fun i x y => hs i (by omega) y) o1 o6 (by omega) n240 g1
    refine ⟨c1, fun b hb i x y => ?_, by omega, by omega, a1, c6⟩
    by_cases q1 : i < n1
    · exact a2 b (by omega) i x q1
    · by_cases q2 : i = n1
      · subst q2
        exact ⟨by omega, by omega, by omega, fun _ => by omega, fun _ _ => by omega, fun _ _ => by omega, fun _ => by omega, fun _ => ⟨by omega, by omega, by omega, by omega, by rw [h4, c6]; exact c1⟩⟩
      · exact c2 b hb i (by omega) y
def shN (o : Int → Int) (a : Int) : Nat → Int
  | 0 => 0
  | k + 1 => stp (shN o a k) (o (a + k))
theorem shN_s (o : Int → Int) (a : Int) {i : Int} (h : a ≤ i) : shN o a (i + 1 - a).toNat = stp (shN o a (i - a).toNat) (o i) := by
  have e : (i + 1 - a).toNat = (i - a).toNat + 1 := by omega
  rw [e]
  simp only [shN]
  rw [show a + ((i - a).toNat : Int) = i by omega]
theorem Pz.wf {S : Int → Int} {L : Me} {e : Int} (hS : Sg S e) {p n p' n' : Int} (h : Pz S L (some (0, 0)) 0 p n p' n') (n0 : 0 ≤ n) (n1 : n' ≤ 240) : ∃ sh, Wf (L 5) (L 6) sh n n' 1 := by
  have l := h.le hS
  have z : shN (L 5) n (n - n).toNat = 0 := by rw [show (n - n).toNat = 0 by omega]; rfl
  obtain ⟨a1, a2⟩ := h.sh hS (sh := fun i => shN (L 5) n (i - n).toNat) (fun i x y => shN_s (L 5) n x) (by omega) 0 (by omega) ⟨by omega, Or.inl rfl, Or.inl rfl⟩ (by simp only [z]; decide)
  exact ⟨_, n0, by omega, n1, z, a1.trans (by decide), Or.inl rfl, fun i x y => a2 n' i x y⟩
theorem Cz.wf {S : Int → Int} {L : Me} {e : Int} (hS : Sg S e) {t : Int × Int} {p n p' n' : Int} (h : Cz S L (some t) 1 p n p' n') (n0 : 0 ≤ n) (n1 : n' ≤ 240) : ∃ sh, Wf (L 5) (L 6) sh n n' (-1) := by
  have l := h.le hS
  have z : shN (L 5) n (n - n).toNat = 0 := by rw [show (n - n).toNat = 0 by omega]; rfl
  obtain ⟨a1, a2, -⟩ := h.sh hS (sh := fun i => shN (L 5) n (i - n).toNat) (fun i x y => shN_s (L 5) n x) (by omega) (by omega) n0 n1 z
  exact ⟨_, n0, by omega, n1, z, a1, Or.inr rfl, fun i x y => a2 n' (Int.le_refl _) i x y⟩
