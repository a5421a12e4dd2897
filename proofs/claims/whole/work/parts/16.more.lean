theorem QxM.mono {g : Cfg} {ret : Option FieldType} {P Q : Int → Me → Prop} (h : ∀ r M', cn r → CM M' → P r M' → Q r M') {a : Array Value} {s : State} {oc : Outcome} {t : State} (hq : QxM g ret P a s oc t) : QxM g ret Q a s oc t := by
  cases ret with
  | none =>
    obtain ⟨⟨u, h1, ⟨h2, h3⟩, h4⟩, h5⟩ := hq
    exact ⟨⟨u, h1, ⟨h2, h 0 u cn_0 h2 h3⟩, h4⟩, h5⟩
  | some ty =>
    obtain ⟨⟨r, u, h1, ⟨h2, h3, h4, h5⟩, h6⟩, h7⟩ := hq
    exact ⟨⟨r, u, h1, ⟨h2, h3, h4, h u.1 u.2 h3 h4 h5⟩, h6⟩, h7⟩
theorem Calls.mono {d : Nat} {y : Mi} {as : List AV} {M : Me} {P Q : Int → Me → Prop} (h : ∀ r M', cn r → CM M' → P r M' → Q r M') (hp : Calls d y as M P) : Calls d y as M Q := by
  intro hM hA g l p e h1 h2 h3 s m args below h4 h5 h6 h7
  obtain ⟨n, o, a1, a2, a3, a4, a5⟩ := hp hM hA g l p e h1 h2 h3 s m args below h4 h5 h6 h7
  exact ⟨n, o, a1, a2, a3, QxM.mono h a4, a5⟩
def lsub : List (Option AV) → List (Option AV) → Prop
  | [], _ => True
  | none :: a, _ :: b => lsub a b
  | some v :: a, some w :: b => v = w ∧ lsub a b
  | _, _ => False
theorem lsub_get : ∀ (a b : List (Option AV)), lsub a b → ∀ (j : Nat) (v : AV), a[j]? = some (some v) → b[j]? = some (some v)
  | [], b, _, j, v, hj => by simp at hj
  | none :: a, [], h, j, v, hj => by cases h
  | some w :: a, [], h, j, v, hj => by cases h
  | none :: a, o :: b, h, 0, v, hj => by simp at hj
  | none :: a, o :: b, h, j + 1, v, hj => by
    simp only [List.getElem?_cons_succ] at hj ⊢
    exact lsub_get a b h j v hj
  | some w :: a, none :: b, h, j, v, hj => by cases h
  | some w :: a, some u :: b, h, 0, v, hj => by
    simp only [List.getElem?_cons_zero, Option.some.injEq] at hj ⊢
    rw [← h.1]
    exact hj
  | some w :: a, some u :: b, h, j + 1, v, hj => by
    simp only [List.getElem?_cons_succ] at hj ⊢
    exact lsub_get a b h.2 j v hj
theorem Go.weak {K : Kx} {pc : Nat} {ls ls' : List (Option AV)} {st : List AV} {M : Me} (k : Go K pc ls' st M) (h : lsub ls' ls) : Go K pc ls st M := by
  intro hM hl hs g p l e s m args below meth c H locs la C
  refine k hM (fun j x hj => hl j x (lsub_get _ _ h j _ hj)) hs g p l e s m args below meth c H locs la ⟨C.1, C.2.1, C.2.2.1, C.2.2.2.1, C.2.2.2.2.1, C.2.2.2.2.2.1, C.2.2.2.2.2.2.1, C.2.2.2.2.2.2.2.1, C.2.2.2.2.2.2.2.2.1, fun q hq => ?_⟩
  obtain ⟨j, v, h1, rfl⟩ := lvf_of g _ 0 q hq
  have h2 := lvf_mem g ls 0 j v (lsub_get _ _ h j v h1)
  exact C.2.2.2.2.2.2.2.2.2 _ h2
theorem a_mabs {K : Kx} {pc : Nat} {ls : List (Option AV)} {st : List AV} {M : Me} {idx : Nat} {x : Int} (hd : decode K.1.2.1 pc = .ok (.invokestatic idx, 3)) (hlk : Cond.methodLink K.1.1.cls idx Lib.Math.abs.name ∈ lwg) (hsta : Cond.static Lib.Math.abs.name ∈ lwg) (hini : Cond.initialized "java/lang/Math" ∈ lwg) (hco : Cond.code Lib.Math.abs.name Lib.Math.abs.code 1 (some .int) ∈ lwg) (hR : 1 ≤ K.2.1.frames ∧ 21 ≤ K.2.1.locals) (hf : K.2.2.1 ≤ K.2.1.cells ∧ K.2.2.2.1 ≤ K.2.1.slots) (h8 : st.length ≤ 8) (hc : cn (-x)) (k : Go K (pc + 3) ls (.inl (max x (-x)) :: st) M) : Go K pc ls (.inl x :: st) M := by
  intro hM hl hs g p l e s m args below meth c H locs la C
  have hx := hs.hd
  have h9 := st_room g st h8
  refine va_mabs C.1.1 C.1.2.1 (C.1.2.2.1.trans C.2.2.2.2.2.2.2.1.symm) C.1.2.2.2.1 (C.1.2.2.2.2 _ hlk) (C.1.2.2.2.2 _ hsta) (C.1.2.2.2.2 _ hini) (C.1.2.2.2.2 _ hco) hR.1 (by omega) hf.1 hf.2 hd ?_
  have h := k hM hl (hs.tl.consI (by unfold cn at hx hc ⊢; omega)) g p l e s m args below meth c H locs la C
  have e0 : (0 : Int32) = Int32.ofInt 0 := rfl
  rw [e0]
  simp only [cn_lt hx cn_0, cn_lt cn_0 hx, cn_le hx cn_0, cn_le cn_0 hx, ← Int32.ofInt_neg, ← Int32.ofInt_sub] at *
  simp only [List.map_cons, cv] at h
  first
    | (rw [← apply_ite Int32.ofInt]; rw [show (if x < 0 then -x else x) = max x (-x) by omega]; exact h)
    | (rw [← apply_ite Int32.ofInt]; rw [show (if 0 ≤ x then x else 0 - x) = max x (-x) by omega]; exact h)
def mcopy (M : Me) (a b : Nat) (n : Int) : Me := fun k i => if k = b ∧ 0 ≤ i ∧ i < n then M a i else M k i
theorem a_acopy {K : Kx} {pc : Nat} {ls : List (Option AV)} {st : List AV} {M : Me} {idx a b na nb : Nat} {n : Int} (hd : decode K.1.2.1 pc = .ok (.invokestatic idx, 3)) (hlk : Cond.methodLink K.1.1.cls idx arraycopyName ∈ lwg) (hnat : Cond.native arraycopyName ∈ lwg) (hsta : Cond.static arraycopyName ∈ lwg) (hini : Cond.initialized "java/lang/System" ∈ lwg) (ha : lay[a]? = some (.inl (false, na))) (hb : lay[b]? = some (.inl (false, nb))) (h0 : 0 ≤ n) (h1 : n ≤ (na : Int)) (h2 : n ≤ (nb : Int)) (hR : 1 ≤ K.2.1.frames ∧ 8 + (nativeFrameWords "java/lang/System" "arraycopy" 5 + 11) ≤ K.2.1.locals) (h8 : st.length ≤ 8) (k : Go K (pc + 3) ls st (mcopy M a b n)) : Go K pc ls (.inl n :: .inl 0 :: .inr b :: .inl 0 :: .inr a :: st) M := by
  intro hM hl hs g p l e s m args below meth c H locs la C
  have hn := hs.hd
  have h9 := st_room g st h8
  have c0 : (Int32.ofInt 0).toNatClampNeg = 0 := rfl
  have cnn := cn_clamp hn
  have hen : en g (mcopy M a b n) b (.inl (false, nb)) = .inl (if false then g.2.2.1 else g.2.1, nb, .inl (va_cpy (fun j : Nat => Int32.ofInt (M a (j : Int))) (fun j : Nat => Int32.ofInt (M b (j : Int))) (Int32.ofInt 0).toNatClampNeg (Int32.ofInt 0).toNatClampNeg (Int32.ofInt n).toNatClampNeg)) := by
    have : (fun j : Nat => Int32.ofInt (mcopy M a b n b (j : Int))) = va_cpy (fun j : Nat => Int32.ofInt (M a (j : Int))) (fun j : Nat => Int32.ofInt (M b (j : Int))) (Int32.ofInt 0).toNatClampNeg (Int32.ofInt 0).toNatClampNeg (Int32.ofInt n).toNatClampNeg := by
      funext j
      rw [c0, cnn]
      unfold va_cpy mcopy
      by_cases hj : (j : Int) < n
      · rw [if_pos ⟨rfl, by omega, hj⟩, if_pos ⟨by omega, by omega⟩]
        congr 2
        omega
      · rw [if_neg (by omega), if_neg (by omega)]
    simp only [en, this]
  have hset := ww_set g (M := M) (M' := mcopy M a b n) hb hen (fun j i hj => by simp [mcopy, hj])
  refine va_copyi C.1.1 C.1.2.1 (C.1.2.2.1.trans C.2.2.2.2.2.2.2.1.symm) C.1.2.2.2.1 (C.1.2.2.2.2 _ hlk) (C.1.2.2.2.2 _ hnat) (C.1.2.2.2.2 _ hsta) (C.1.2.2.2.2 _ hini) C.2.2.2.1.1 C.2.2.2.2.2.1 (ww_D g M C.2.2.2.1.2.1) C.2.2.2.2.2.2.1 a b 0 0 (ty := .int) (ww_at g M ha) (ww_at g M hb) rfl rfl rfl ?_ ?_ ?_ ?_ ?_ (fun i _ => rfl) hR.1 ?_ hd ?_
  · decide
  · decide
  · rw [show (0 : Int32) = Int32.ofInt 0 from rfl, cn_lt hn cn_0]; omega
  · rw [c0, cnn]; omega
  · rw [c0, cnn]; omega
  · have := hR.2; omega
  · intro H1 locs1 a1 _ a3
    have a2 : va_P g.1 vwCl (ww g (mcopy M a b n)) H1 := by
      rw [← hset]
      exact a1
    refine k ?_ hl hs.tl.tl.tl.tl.tl g p l e s m args below meth c H1 locs1 la ⟨C.1, C.2.1, C.2.2.1, C.2.2.2.1, C.2.2.2.2.1, a2, a3, C.2.2.2.2.2.2.2⟩
    intro x i
    unfold mcopy
    split
    · exact hM a i
    · exact hM x i
