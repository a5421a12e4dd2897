/-! ===== numbers ===== -/
def cn (x : Int) : Prop := -2147483648 ≤ x ∧ x ≤ 2147483647
theorem cn_toInt {x : Int} (h : cn x) : (Int32.ofInt x).toInt = x := by
  unfold cn at h
  have e : Int32.size = 4294967296 := rfl
  rw [Int32.toInt_ofInt, e, Int.bmod_eq_of_le (by omega) (by omega)]
theorem cn_of32 (x : Int32) : cn x.toInt := ⟨Int32.le_toInt x, by have := Int32.toInt_lt x; omega⟩
theorem ofInt_of32 (x : Int32) : Int32.ofInt x.toInt = x := Int32.ofInt_toInt x
theorem cn_lt {x y : Int} (hx : cn x) (hy : cn y) : Int32.ofInt x < Int32.ofInt y ↔ x < y := by
  rw [Int32.lt_iff_toInt_lt, cn_toInt hx, cn_toInt hy]
theorem cn_le {x y : Int} (hx : cn x) (hy : cn y) : Int32.ofInt x ≤ Int32.ofInt y ↔ x ≤ y := by
  rw [Int32.le_iff_toInt_le, cn_toInt hx, cn_toInt hy]
theorem cn_eq {x y : Int} (hx : cn x) (hy : cn y) : Int32.ofInt x = Int32.ofInt y ↔ x = y := by
  rw [← Int32.toInt_inj, cn_toInt hx, cn_toInt hy]
theorem cn_0 : cn 0 := ⟨by decide, by decide⟩
theorem cn_clamp {x : Int} (hx : cn x) : (Int32.ofInt x).toNatClampNeg = x.toNat := by
  show (Int32.ofInt x).toInt.toNat = x.toNat
  rw [cn_toInt hx]
theorem cn_in {x : Int} {n : Nat} (hx : cn x) (h0 : 0 ≤ x) (h1 : x < n) : vp_in (Int32.ofInt x) n := by
  rw [vp_in_iff, cn_toInt hx]
  exact ⟨h0, h1⟩
/-! ===== the cells ===== -/
abbrev Me : Type := Nat → Int → Int
abbrev AV : Type := Int ⊕ Nat
abbrev LCell : Type := (Bool × Nat) ⊕ (Nat × List (Option Nat))
def lay : List LCell := [
  .inr (11, [some 1, some 3, some 12, some 22, some 29, some 37, some 43, some 49, some 55, some 57, some 61, some 66, some 69, none, none]),
  .inr (9, [some 2, none, none, none, none]),
  .inl (false, 260),
  .inr (1, [some 4, some 5, some 6, some 7, some 8, some 9, some 10, some 11, none]),
  .inl (false, 16),
  .inl (false, 16),
  .inl (false, 16),
  .inl (false, 16),
  .inl (false, 16),
  .inl (false, 16),
  .inl (false, 16),
  .inl (false, 16),
  .inr (0, [some 1, some 13]),
  .inr (1, [some 14, some 15, some 16, some 17, some 18, some 19, some 20, some 21, none]),
  .inl (false, 16),
  .inl (false, 16),
  .inl (false, 16),
  .inl (false, 16),
  .inl (false, 16),
  .inl (false, 16),
  .inl (false, 16),
  .inl (false, 16),
  .inr (3, [some 23, some 24, some 25, some 26, some 27, some 28, none, none, none]),
  .inl (false, 16),
  .inl (false, 16),
  .inl (false, 16),
  .inl (false, 16),
  .inl (false, 240),
  .inl (false, 64),
  .inr (4, [some 1, some 30]),
  .inr (3, [some 31, some 32, some 33, some 34, some 35, some 36, none, none, none]),
  .inl (false, 16),
  .inl (false, 16),
  .inl (false, 16),
  .inl (false, 16),
  .inl (false, 240),
  .inl (false, 64),
  .inr (8, [some 38, some 39, some 40, some 41, some 42, none, none]),
  .inl (false, 16),
  .inl (false, 16),
  .inl (false, 16),
  .inl (false, 16),
  .inl (false, 16),
  .inr (8, [some 44, some 45, some 46, some 47, some 48, none, none]),
  .inl (false, 16),
  .inl (false, 16),
  .inl (false, 16),
  .inl (false, 16),
  .inl (false, 16),
  .inr (8, [some 50, some 51, some 52, some 53, some 54, none, none]),
  .inl (false, 16),
  .inl (false, 16),
  .inl (false, 16),
  .inl (false, 16),
  .inl (false, 16),
  .inr (10, [some 3, some 22, some 56]),
  .inl (false, 11),
  .inr (2, [some 58, some 59, some 60, none, none]),
  .inl (false, 32),
  .inl (false, 64),
  .inl (false, 32),
  .inr (6, [some 62, some 63, some 64, some 65, none, none]),
  .inl (false, 4608),
  .inl (false, 9),
  .inl (false, 9),
  .inl (false, 10),
  .inr (7, [some 67, some 68, none]),
  .inl (false, 16),
  .inl (false, 128),
  .inr (5, [some 70, some 71, some 72, some 73, some 74, some 75, none]),
  .inl (false, 36),
  .inl (false, 36),
  .inl (false, 36),
  .inl (false, 6),
  .inl (false, 6),
  .inl (false, 6),
  .inr (12, [some 77, some 78, some 79, some 80, some 81, some 82, some 83, some 84, some 85, some 86, some 87, none, some 88, none, none, none, none, none, none, none, none, none, none, some 89, some 90, some 91, some 92, some 93, some 94, some 95, some 96, some 97, some 98, some 99, some 100, some 101, some 102, some 103, some 104, some 105, some 106, some 107, some 108, none, none, some 109, some 110, none, none, some 111, some 112, some 113, none, some 114, some 115, none, some 116, some 117, some 118, some 119, some 120, some 121, some 122, some 123, none, none]),
  .inl (false, 82),
  .inl (false, 82),
  .inl (false, 82),
  .inl (false, 16),
  .inl (false, 16),
  .inl (false, 16),
  .inl (false, 16),
  .inl (false, 16),
  .inl (false, 16),
  .inl (false, 16),
  .inl (false, 16),
  .inl (true, 260),
  .inl (false, 260),
  .inl (false, 260),
  .inl (false, 16),
  .inl (false, 16),
  .inl (false, 16),
  .inl (false, 16),
  .inl (false, 260),
  .inl (false, 16),
  .inl (false, 16),
  .inl (false, 16),
  .inl (false, 16),
  .inl (false, 260),
  .inl (false, 11),
  .inl (false, 16),
  .inl (false, 16),
  .inl (false, 16),
  .inl (false, 16),
  .inl (false, 16),
  .inl (false, 16),
  .inl (false, 16),
  .inl (false, 32),
  .inl (false, 34),
  .inl (false, 32),
  .inl (false, 4608),
  .inl (false, 9),
  .inl (false, 16),
  .inl (false, 128),
  .inl (false, 72),
  .inl (false, 72),
  .inl (false, 6),
  .inl (false, 6),
  .inl (false, 6),
  .inl (false, 6),
  .inl (false, 10),
  .inl (false, 1024)]
abbrev Cfg : Type := va_G × ClassId × ClassId × (Nat → Nat) × Nat × Nat
abbrev cgA (g : Cfg) : Nat → Nat := g.2.2.2.1
def cv (g : Cfg) (v : AV) : Value := match v with
  | .inl x => .int (Int32.ofInt x)
  | .inr k => .ref (cgA g k)
def en (g : Cfg) (M : Me) (k : Nat) (x : LCell) : va_E := match x with
  | .inl q => .inl (if q.1 then g.2.2.1 else g.2.1, q.2, .inl (fun j : Nat => Int32.ofInt (M k (j : Int))))
  | .inr q => .inr (q.1, q.2.mapIdx (fun j o => match o with
    | some r => Value.ref (cgA g r)
    | none => Value.int (Int32.ofInt (M k (j : Int)))))
def ww (g : Cfg) (M : Me) : va_W := lay.mapIdx (fun k x => (cgA g k, en g M k x))
def Aw (g : Cfg) : Nat → Prop := fun q => ∃ k : Nat, k < 124 ∧ q = cgA g k
def mput (M : Me) (k : Nat) (i v : Int) : Me := fun a b => if a = k ∧ b = i then v else M a b
theorem mput_same (M : Me) (k : Nat) (i v : Int) : mput M k i v k i = v := by simp [mput]
theorem mput_ne (M : Me) {k a : Nat} (i v b : Int) (h : a ≠ k) : mput M k i v a b = M a b := by simp [mput, h]
theorem mput_ni (M : Me) (k a : Nat) {i b : Int} (v : Int) (h : b ≠ i) : mput M k i v a b = M a b := by simp [mput, h]
def CM (M : Me) : Prop := ∀ k j, cn (M k j)
theorem CM.put {M : Me} (h : CM M) {k : Nat} {i v : Int} (hv : cn v) : CM (mput M k i v) := by
  intro a b
  unfold mput
  split
  · exact hv
  · exact h a b
theorem lay_len : lay.length = 124 := by decide +kernel
theorem en_congr (g : Cfg) {M M' : Me} {k : Nat} (x : LCell) (h : ∀ b, M' k b = M k b) : en g M' k x = en g M k x := by
  have h' : M' k = M k := funext h
  cases x with
  | inl q => simp [en, h']
  | inr q => simp [en, h']
theorem ww_at (g : Cfg) (M : Me) {k : Nat} {x : LCell} (h : lay[k]? = some x) : (ww g M)[k]? = some (cgA g k, en g M k x) := by
  simp [ww, List.getElem?_mapIdx, h]
theorem ww_set (g : Cfg) {M M' : Me} {k : Nat} {x : LCell} {e : va_E} (h : lay[k]? = some x) (he : en g M' k x = e) (ho : ∀ j b, j ≠ k → M' j b = M j b) : (ww g M).set k (cgA g k, e) = ww g M' := by
  have hk : k < lay.length := (List.getElem?_eq_some_iff.mp h).1
  apply List.ext_getElem?
  intro j
  by_cases hj : j = k
  · subst hj
    rw [List.getElem?_set_self (by simp [ww]; exact hk), ww_at g M' h, he]
  · rw [List.getElem?_set_ne (fun q => hj q.symm)]
    simp only [ww, List.getElem?_mapIdx]
    cases hx : lay[j]? with
    | none => rfl
    | some y => simp only [Option.map_some]; rw [en_congr g (M := M) (M' := M') y (fun b => ho j b hj)]
theorem ww_D (g : Cfg) (M : Me) (hi : ∀ i j, i < 124 → j < 124 → cgA g i = cgA g j → i = j) : va_D (Aw g) (ww g M) := by
  have hl : ∀ i p, (ww g M)[i]? = some p → i < 124 ∧ p.1 = cgA g i := by
    intro i p hp
    simp only [ww, List.getElem?_mapIdx] at hp
    cases hx : lay[i]? with
    | none => rw [hx] at hp; cases hp
    | some y =>
      rw [hx] at hp
      have h1 := (List.getElem?_eq_some_iff.mp hx).1
      rw [lay_len] at h1
      refine ⟨h1, ?_⟩
      simp only [Option.map_some, Option.some.injEq] at hp
      rw [← hp]
  refine ⟨fun i j p q hp hq hpq => ?_, fun k q hq => ?_⟩
  · obtain ⟨a1, a2⟩ := hl i p hp
    obtain ⟨b1, b2⟩ := hl j q hq
    exact hi i j a1 b1 (by rw [← a2, ← b2]; exact hpq)
  · obtain ⟨a1, a2⟩ := hl k q hq
    exact ⟨k, a1, a2⟩
/-- an array's cell, and a field's, behind a store -/
theorem en_arr (g : Cfg) (M : Me) (k : Nat) (b : Bool) (n : Nat) {i v : Int} (hi : cn i) (h0 : 0 ≤ i) (v32 : Int32) (hv : Int32.ofInt v = v32) :
    en g (mput M k i v) k (.inl (b, n)) = .inl (if b then g.2.2.1 else g.2.1, n, .inl (upd (fun j : Nat => Int32.ofInt (M k (j : Int))) (Int32.ofInt i).toNatClampNeg v32)) := by
  have : (fun j : Nat => Int32.ofInt (mput M k i v k (j : Int))) = upd (fun j : Nat => Int32.ofInt (M k (j : Int))) (Int32.ofInt i).toNatClampNeg v32 := by
    funext j
    rw [cn_clamp hi]
    unfold upd
    by_cases hj : j = i.toNat
    · have : (j : Int) = i := by omega
      rw [if_pos hj, this, mput_same, hv]
    · have : (j : Int) ≠ i := by omega
      rw [if_neg hj, mput_ni M k k v this]
  simp only [en, this]
theorem en_fld (g : Cfg) (M : Me) (k ci : Nat) (ss : List (Option Nat)) (j : Nat) (v : Int) (hs : ss[j]? = some none) :
    en g (mput M k (j : Int) v) k (.inr (ci, ss)) = .inr (ci, (ss.mapIdx (fun j o => match o with
    | some r => Value.ref (cgA g r)
    | none => Value.int (Int32.ofInt (M k (j : Int))))).set j (.int (Int32.ofInt v))) := by
  have hj : j < ss.length := (List.getElem?_eq_some_iff.mp hs).1
  simp only [en]
  congr 2
  apply List.ext_getElem?
  intro i
  by_cases hij : i = j
  · subst hij
    rw [List.getElem?_set_self (by simpa using hj)]
    simp only [List.getElem?_mapIdx, hs, Option.map_some, mput_same]
  · rw [List.getElem?_set_ne (fun q => hij q.symm)]
    simp only [List.getElem?_mapIdx]
    cases hx : ss[i]? with
    | none => rfl
    | some y =>
      cases y with
      | some r => rfl
      | none =>
        simp only [Option.map_some]
        rw [mput_ni M k k v (by omega)]
/-! ===== locals ===== -/
def lvf (g : Cfg) : Nat → List (Option AV) → List (Nat × Value)
  | _, [] => []
  | i, none :: r => lvf g (i + 1) r
  | i, some v :: r => (i, cv g v) :: lvf g (i + 1) r
theorem lvf_mem (g : Cfg) : ∀ (ls : List (Option AV)) (i j : Nat) (v : AV), ls[j]? = some (some v) → (i + j, cv g v) ∈ lvf g i ls
  | [], i, j, v, h => by simp at h
  | o :: r, i, 0, v, h => by
    simp only [List.getElem?_cons_zero, Option.some.injEq] at h
    subst h
    exact List.mem_cons_self
  | o :: r, i, j + 1, v, h => by
    simp only [List.getElem?_cons_succ] at h
    have := lvf_mem g r (i + 1) j v h
    rw [show i + (j + 1) = i + 1 + j by omega]
    cases o with
    | none => exact this
    | some w => exact List.mem_cons_of_mem _ this
theorem lvf_of (g : Cfg) : ∀ (ls : List (Option AV)) (i : Nat) (q : Nat × Value), q ∈ lvf g i ls → ∃ j v, ls[j]? = some (some v) ∧ q = (i + j, cv g v)
  | [], i, q, h => by cases h
  | none :: r, i, q, h => by
    obtain ⟨j, v, h1, h2⟩ := lvf_of g r (i + 1) q h
    exact ⟨j + 1, v, by simpa using h1, by rw [h2]; congr 1; omega⟩
  | some w :: r, i, q, h => by
    rcases List.mem_cons.mp h with h | h
    · exact ⟨0, w, rfl, h⟩
    · obtain ⟨j, v, h1, h2⟩ := lvf_of g r (i + 1) q h
      exact ⟨j + 1, v, by simpa using h1, by rw [h2]; congr 1; omega⟩
theorem cv_cat (g : Cfg) (v : AV) : (cv g v).category = 1 := by cases v <;> rfl
def lvh (g : Cfg) (la : Array Slot) (n : Nat) (ls : List (Option AV)) : Prop := lv_has la n (lvf g 0 ls)
theorem lvh.at {g : Cfg} {la : Array Slot} {n : Nat} {ls : List (Option AV)} (h : lvh g la n ls) {j : Nat} {v : AV} (hj : ls[j]? = some (some v)) : la[j]? = some (.val (cv g v)) := by
  have := h.2.2 _ (lvf_mem g ls 0 j v hj)
  simpa using this
theorem lvh.put {g : Cfg} {la : Array Slot} {n : Nat} {ls : List (Option AV)} {i : Nat} {v : AV} (h : lv_has la n ((i, cv g v) :: (lvf g 0 ls).filter (fun q => !(q.1 == i) && !(q.1 + 1 == i && q.2.category == 2)))) : lvh g la n (ls.set i (some v)) := by
  refine ⟨h.1, h.2.1, fun q hq => ?_⟩
  obtain ⟨j, w, h1, rfl⟩ := lvf_of g _ 0 q hq
  apply h.2.2
  by_cases hj : j = i
  · subst hj
    by_cases hl : j < ls.length
    · rw [List.getElem?_set_self hl] at h1
      simp only [Option.some.injEq] at h1
      subst h1
      simp
    · rw [List.getElem?_eq_none (by simpa using hl)] at h1
      cases h1
  · rw [List.getElem?_set_ne (fun q => hj q.symm)] at h1
    refine List.mem_cons_of_mem _ (List.mem_filter.mpr ⟨lvf_mem g ls 0 j w h1, ?_⟩)
    simp [cv_cat, hj]
theorem lvh.entry (g : Cfg) (as : List AV) {n : Nat} (h : as.length ≤ n) : lvh g ((lg_sl (as.map (cv g)) ++ List.replicate (n - (lg_sl (as.map (cv g))).length) Slot.unset).toArray) n (as.map some ++ List.replicate (n - as.length) none) := by
  have hlen : ∀ as : List AV, (lg_sl (as.map (cv g))).length = as.length := by
    intro as
    induction as with
    | nil => rfl
    | cons a r ih =>
      simp only [List.map_cons, lg_sl, List.flatMap_cons, List.length_append] at ih ⊢
      rw [cv_cat]
      simp [ih]
      omega
  have hargs : ∀ (as : List AV) (i j : Nat) (v : AV), as[j]? = some v → (i + j, cv g v) ∈ lv_args i (as.map (cv g)) := by
    intro as
    induction as with
    | nil => intro i j v h; simp at h
    | cons a r ih =>
      intro i j v h
      simp only [List.map_cons, lv_args, cv_cat]
      cases j with
      | zero =>
        simp only [List.getElem?_cons_zero, Option.some.injEq] at h
        subst h
        exact List.mem_cons_self
      | succ j =>
        simp only [List.getElem?_cons_succ] at h
        have := ih (i + 1) j v h
        rw [show i + (j + 1) = i + 1 + j by omega]
        exact List.mem_cons_of_mem _ this
  have h0 := lv_entry (as.map (cv g)) (n := n) (by rw [hlen]; exact h)
  refine ⟨h0.1, h0.2.1, fun q hq => ?_⟩
  obtain ⟨j, v, h1, rfl⟩ := lvf_of g _ 0 q hq
  have h2 : as[j]? = some v := by
    by_cases hj : j < as.length
    · rw [List.getElem?_append_left (by simpa using hj)] at h1
      simpa using h1
    · rw [List.getElem?_append_right (by simpa using hj)] at h1
      simp [List.getElem?_replicate] at h1
  exact h0.2.2 _ (hargs as 0 j v h2)
