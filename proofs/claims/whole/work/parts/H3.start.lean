/-! ===== the start: classes, constants, and the first cells ===== -/
theorem kn_of {ci N : Nat} {C : String} {d : List Value} {s : State} {args : Array Value} (h : NOK ci N C d) (hts : ∀ w ∈ lwg, w.before args s = true) : ∃ dd : ClassId × (Nat → Nat), ∀ q, vwCl[ci]? = some q → u_Kn s q.1 q.2.1 q.2.2 dd.1 dd.2 := by
  obtain ⟨T, ty, o1, o2, o3, o4, o5, o6⟩ := h
  obtain ⟨cC, iS, hk⟩ := u_known (C := C) (T := T) (N := N) (n := N) hts o2 (hts _ o4)
  exact ⟨(cC, iS), fun q hq => by rw [o1] at hq; cases hq; exact hk⟩
theorem kn_all {s : State} {args : Array Value} (hts : ∀ w ∈ lwg, w.before args s = true) : ∃ D : va_G, ∀ (c : Nat) (q : vw_C), vwCl[c]? = some q → u_Kn s q.1 q.2.1 q.2.2 (D.1 c) (D.2 c) := by
  have h : ∀ c : Nat, ∃ dd : ClassId × (Nat → Nat), ∀ q, vwCl[c]? = some q → u_Kn s q.1 q.2.1 q.2.2 dd.1 dd.2 := by
    intro c
    match c with
    | 0 => exact kn_of nokX0 hts
    | 1 => exact kn_of nokX1 hts
    | 2 => exact kn_of nokX2 hts
    | 3 => exact kn_of nokX3 hts
    | 4 => exact kn_of nokX4 hts
    | 5 => exact kn_of nokX5 hts
    | 6 => exact kn_of nokX6 hts
    | 7 => exact kn_of nokX7 hts
    | 8 => exact kn_of nokX8 hts
    | 9 => exact kn_of nokX9 hts
    | 10 => exact kn_of nokX10 hts
    | 11 => exact kn_of nokX11 hts
    | 12 => exact kn_of nokX12 hts
    | n + 13 => exact ⟨(0, fun _ => 0), fun q hq => by
        have hl : vwCl.length = 13 := rfl
        rw [List.getElem?_eq_none (by rw [hl]; omega)] at hq
        cases hq⟩
  obtain ⟨f, hf⟩ := Classical.axiomOfChoice h
  exact ⟨(fun c => (f c).1, fun c => (f c).2), fun c q hq => hf c q hq⟩
theorem ka_all {D : va_G} {s : State} {args : Array Value} (hts : ∀ w ∈ lwg, w.before args s = true) (hk : ∀ (c : Nat) (q : vw_C), vwCl[c]? = some q → u_Kn s q.1 q.2.1 q.2.2 (D.1 c) (D.2 c)) : ∃ cI cB : ClassId, va_K D vwCl (ty2 cI cB) s := by
  obtain ⟨cI, kI, pI, h1, h2, h3⟩ := Cond.arrayClass_spec (hts _ wa_I)
  obtain ⟨cB, kB, pB, g1, g2, g3⟩ := Cond.arrayClass_spec (hts _ wa_B)
  refine ⟨cI, cB, hk, fun k q hq => ?_⟩
  match k, hq with
  | 0, hq => cases hq; exact ⟨fun n z => ⟨fun k h => (by cases h), kI, h2, pI, h3⟩, h1⟩
  | 1, hq => cases hq; exact ⟨fun n z => ⟨fun k h => (by cases h), kB, g2, pB, g3⟩, g1⟩
  | n + 2, hq => simp at hq
theorem nest_all {s : State} {args : Array Value} (hts : ∀ w ∈ lw_tbl, w.before args s = true) : NestK s := by
  intro w hw hn
  have h1 := hts w hw
  unfold isNest at hn
  split at hn
  · exact va_Nw.of rfl h1
  · exact va_Nw.of rfl h1
  · cases hn
def gC (D : va_G) (cI cB : ClassId) (q1 q2 : Nat → Nat) (a b c : Nat) : Cfg := (D, cI, cB, (fun i => if i < 76 then q1 i else if i < 124 then q2 (i - 76) else if i = 1001 then a else if i = 1002 then b else c), 0, 0)
abbrev sT : Term := .string "GrownInitials$LawReader" 99
theorem w_sref : Cond.stringRef "GrownInitials$LawReader" 99 "csmhlakdntw" ∈ lw_tbl := List.mem_of_getElem? (i := 548) (by decide +kernel)
theorem w_lst : Cond.laysStatic "java/lang/String" "COMPACT_STRINGS" "Z" ∈ lw_tbl := List.mem_of_getElem? (i := 562) (by decide +kernel)
theorem w_inS : Cond.initialized "java/lang/String" ∈ lw_tbl := List.mem_of_getElem? (i := 111) (by decide +kernel)
theorem n_el : ∀ j, j < 11 → Cond.eq (.elem (.field sT "java/lang/String" "value" "[B") (.int (Int32.ofNat j))) (.int (lbytes.getD j 0)) ∈ flatC (Jvm.Cond.and given_1 narrow_1) := by decide +kernel
theorem str_all {s : State} {args : Array Value} (hts : ∀ w ∈ lw_tbl, w.before args s = true) (hgv : (Jvm.Cond.and given_1 narrow_1).before args s = true) : ∃ a1 a2 : Nat, vk_R "GrownInitials$LawReader" 99 "csmhlakdntw" a1 s ∧ vk_S 1 [11] [lbytes] (fun _ => a1) (fun _ => a2) (fun q => s.heap.size ≤ q) s s.heap ∧ va_Z "java/lang/String" "COMPACT_STRINGS" "Z" (.int 1) (fun q => s.heap.size ≤ q) s s.heap := by
  have hs := flat_of_before _ hgv
  have hA : ∀ a : Nat, a < s.heap.size → ¬ (fun q : Nat => s.heap.size ≤ q) a := fun a h => Nat.not_le.mpr h
  have z1 : ∀ i : Nat, i < 1 → i = 0 := fun i h => by omega
  obtain ⟨adK, adV, h1, h2⟩ := vk_Sof (args := args) (s := s) (N := 1) (tm := fun _ => sT) (len := [11]) (byt := [lbytes]) (A := fun q => s.heap.size ≤ q) (fun i h => by rw [z1 i h]; decide) (fun i h => hs _ (by decide +kernel)) (fun i h => hs _ (by decide +kernel)) (fun i h => hs _ (by decide +kernel)) (fun i h => by rw [z1 i h]; exact hs _ (by decide +kernel)) (fun i h j hj => by rw [z1 i h] at hj ⊢; exact hs _ (n_el j hj)) (fun i j hi hj hne => absurd ((z1 i hi).trans (z1 j hj).symm) hne) hA
  refine ⟨adK 0, adV 0, vk_R.of (hts _ w_sref) (h2 0 (by decide)), ⟨fun i hi => ?_, fun i j hi hj _ => (z1 i hi).trans (z1 j hj).symm⟩, va_Zof (hts _ w_lst) (hts _ w_inS) (va_eqi (hs _ (by decide +kernel))) hA⟩
  have := h1.1 0 (by decide)
  rw [z1 i hi]
  exact this
theorem e11_at (D : va_G) (cI cB : ClassId) (q1 q2 : Nat → Nat) (a b c : Nat) (k : Nat) (hk : k < 76) : (eX11 cI cB [] q1)[k]? = (lay[k]?).map (en (gC D cI cB q1 q2 a b c) M0 k) := match k, hk with
  | 0, _ => rfl
  | 1, _ => rfl
  | 2, _ => rfl
  | 3, _ => rfl
  | 4, _ => rfl
  | 5, _ => rfl
  | 6, _ => rfl
  | 7, _ => rfl
  | 8, _ => rfl
  | 9, _ => rfl
  | 10, _ => rfl
  | 11, _ => rfl
  | 12, _ => rfl
  | 13, _ => rfl
  | 14, _ => rfl
  | 15, _ => rfl
  | 16, _ => rfl
  | 17, _ => rfl
  | 18, _ => rfl
  | 19, _ => rfl
  | 20, _ => rfl
  | 21, _ => rfl
  | 22, _ => rfl
  | 23, _ => rfl
  | 24, _ => rfl
  | 25, _ => rfl
  | 26, _ => rfl
  | 27, _ => rfl
  | 28, _ => rfl
  | 29, _ => rfl
  | 30, _ => rfl
  | 31, _ => rfl
  | 32, _ => rfl
  | 33, _ => rfl
  | 34, _ => rfl
  | 35, _ => rfl
  | 36, _ => rfl
  | 37, _ => rfl
  | 38, _ => rfl
  | 39, _ => rfl
  | 40, _ => rfl
  | 41, _ => rfl
  | 42, _ => rfl
  | 43, _ => rfl
  | 44, _ => rfl
  | 45, _ => rfl
  | 46, _ => rfl
  | 47, _ => rfl
  | 48, _ => rfl
  | 49, _ => rfl
  | 50, _ => rfl
  | 51, _ => rfl
  | 52, _ => rfl
  | 53, _ => rfl
  | 54, _ => rfl
  | 55, _ => rfl
  | 56, _ => rfl
  | 57, _ => rfl
  | 58, _ => rfl
  | 59, _ => rfl
  | 60, _ => rfl
  | 61, _ => rfl
  | 62, _ => rfl
  | 63, _ => rfl
  | 64, _ => rfl
  | 65, _ => rfl
  | 66, _ => rfl
  | 67, _ => rfl
  | 68, _ => rfl
  | 69, _ => rfl
  | 70, _ => rfl
  | 71, _ => rfl
  | 72, _ => rfl
  | 73, _ => rfl
  | 74, _ => rfl
  | 75, _ => rfl
  | n + 76, h => absurd h (by omega)
def ss12 : List (Option Nat) := [some 77, some 78, some 79, some 80, some 81, some 82, some 83, some 84, some 85, some 86, some 87, none, some 88, none, none, none, none, none, none, none, none, none, none, some 89, some 90, some 91, some 92, some 93, some 94, some 95, some 96, some 97, some 98, some 99, some 100, some 101, some 102, some 103, some 104, some 105, some 106, some 107, some 108, none, none, some 109, some 110, none, none, some 111, some 112, some 113, none, some 114, some 115, none, some 116, some 117, some 118, some 119, some 120, some 121, some 122, some 123, none, none]
def fv12 (q : Nat → Nat) : List Value := [.ref (q 1), .ref (q 2), .ref (q 3), .ref (q 4), .ref (q 5), .ref (q 6), .ref (q 7), .ref (q 8), .ref (q 9), .ref (q 10), .ref (q 11), .int (Int32.ofInt 0), .ref (q 12), .int (Int32.ofInt 0), .int (Int32.ofInt 0), .int (Int32.ofInt 0), .int (Int32.ofInt 0), .int (Int32.ofInt 0), .int (Int32.ofInt 0), .int (Int32.ofInt 0), .int (Int32.ofInt 0), .int (Int32.ofInt 0), .int (Int32.ofInt 0), .ref (q 13), .ref (q 14), .ref (q 15), .ref (q 16), .ref (q 17), .ref (q 18), .ref (q 19), .ref (q 20), .ref (q 21), .ref (q 22), .ref (q 23), .ref (q 24), .ref (q 25), .ref (q 26), .ref (q 27), .ref (q 28), .ref (q 29), .ref (q 30), .ref (q 31), .ref (q 32), .int (Int32.ofInt 0), .int (Int32.ofInt 0), .ref (q 33), .ref (q 34), .int (Int32.ofInt 0), .int (Int32.ofInt 0), .ref (q 35), .ref (q 36), .ref (q 37), .int (Int32.ofInt 0), .ref (q 38), .ref (q 39), .int (Int32.ofInt 0), .ref (q 40), .ref (q 41), .ref (q 42), .ref (q 43), .ref (q 44), .ref (q 45), .ref (q 46), .ref (q 47), .int (Int32.ofInt 0), .int (Int32.ofInt 0)]
theorem fv12_at (D : va_G) (cI cB : ClassId) (q1 q : Nat → Nat) (a b c : Nat) (j : Nat) (hj : j < 66) : (fv12 q)[j]? = (ss12[j]?).map (fun o => match o with
    | some r => Value.ref (cgA (gC D cI cB q1 q a b c) r)
    | none => Value.int (Int32.ofInt (M0 76 (j : Int)))) := match j, hj with
  | 0, _ => rfl
  | 1, _ => rfl
  | 2, _ => rfl
  | 3, _ => rfl
  | 4, _ => rfl
  | 5, _ => rfl
  | 6, _ => rfl
  | 7, _ => rfl
  | 8, _ => rfl
  | 9, _ => rfl
  | 10, _ => rfl
  | 11, _ => rfl
  | 12, _ => rfl
  | 13, _ => rfl
  | 14, _ => rfl
  | 15, _ => rfl
  | 16, _ => rfl
  | 17, _ => rfl
  | 18, _ => rfl
  | 19, _ => rfl
  | 20, _ => rfl
  | 21, _ => rfl
  | 22, _ => rfl
  | 23, _ => rfl
  | 24, _ => rfl
  | 25, _ => rfl
  | 26, _ => rfl
  | 27, _ => rfl
  | 28, _ => rfl
  | 29, _ => rfl
  | 30, _ => rfl
  | 31, _ => rfl
  | 32, _ => rfl
  | 33, _ => rfl
  | 34, _ => rfl
  | 35, _ => rfl
  | 36, _ => rfl
  | 37, _ => rfl
  | 38, _ => rfl
  | 39, _ => rfl
  | 40, _ => rfl
  | 41, _ => rfl
  | 42, _ => rfl
  | 43, _ => rfl
  | 44, _ => rfl
  | 45, _ => rfl
  | 46, _ => rfl
  | 47, _ => rfl
  | 48, _ => rfl
  | 49, _ => rfl
  | 50, _ => rfl
  | 51, _ => rfl
  | 52, _ => rfl
  | 53, _ => rfl
  | 54, _ => rfl
  | 55, _ => rfl
  | 56, _ => rfl
  | 57, _ => rfl
  | 58, _ => rfl
  | 59, _ => rfl
  | 60, _ => rfl
  | 61, _ => rfl
  | 62, _ => rfl
  | 63, _ => rfl
  | 64, _ => rfl
  | 65, _ => rfl
  | n + 66, h => absurd h (by omega)
theorem fv12_eq (D : va_G) (cI cB : ClassId) (q1 q : Nat → Nat) (a b c : Nat) : en (gC D cI cB q1 q a b c) M0 76 (.inr (12, ss12)) = .inr (12, fv12 q) := by
  have key : fvs (gC D cI cB q1 q a b c) M0 76 ss12 = fv12 q := by
    unfold fvs
    apply List.ext_getElem?
    intro j
    rw [List.getElem?_mapIdx]
    by_cases h : j < 66
    · exact (fv12_at D cI cB q1 q a b c j h).symm
    · have l1 : ss12.length = 66 := rfl
      have l2 : (fv12 q).length = 66 := rfl
      rw [List.getElem?_eq_none (by omega), List.getElem?_eq_none (by omega)]
      rfl
  have e1 : en (gC D cI cB q1 q a b c) M0 76 (.inr (12, ss12)) = .inr (12, fvs (gC D cI cB q1 q a b c) M0 76 ss12) := rfl
  rw [e1, key]
theorem lay_76 : lay[76]? = some (.inr (12, ss12)) := rfl
theorem e12_0 (cI cB : ClassId) (q : Nat → Nat) : (eX12 cI cB [] q)[0]? = some (.inr (12, fv12 q)) := rfl
theorem e12_at (D : va_G) (cI cB : ClassId) (q1 q2 : Nat → Nat) (a b c : Nat) (k : Nat) (hk : k < 48) : (eX12 cI cB [] q2)[k]? = (lay[76 + k]?).map (en (gC D cI cB q1 q2 a b c) M0 (76 + k)) := match k, hk with
  | 0, _ => by
    rw [e12_0, show 76 + 0 = 76 from rfl, lay_76, Option.map_some, fv12_eq]
  | 1, _ => rfl
  | 2, _ => rfl
  | 3, _ => rfl
  | 4, _ => rfl
  | 5, _ => rfl
  | 6, _ => rfl
  | 7, _ => rfl
  | 8, _ => rfl
  | 9, _ => rfl
  | 10, _ => rfl
  | 11, _ => rfl
  | 12, _ => rfl
  | 13, _ => rfl
  | 14, _ => rfl
  | 15, _ => rfl
  | 16, _ => rfl
  | 17, _ => rfl
  | 18, _ => rfl
  | 19, _ => rfl
  | 20, _ => rfl
  | 21, _ => rfl
  | 22, _ => rfl
  | 23, _ => rfl
  | 24, _ => rfl
  | 25, _ => rfl
  | 26, _ => rfl
  | 27, _ => rfl
  | 28, _ => rfl
  | 29, _ => rfl
  | 30, _ => rfl
  | 31, _ => rfl
  | 32, _ => rfl
  | 33, _ => rfl
  | 34, _ => rfl
  | 35, _ => rfl
  | 36, _ => rfl
  | 37, _ => rfl
  | 38, _ => rfl
  | 39, _ => rfl
  | 40, _ => rfl
  | 41, _ => rfl
  | 42, _ => rfl
  | 43, _ => rfl
  | 44, _ => rfl
  | 45, _ => rfl
  | 46, _ => rfl
  | 47, _ => rfl
  | n + 48, h => absurd h (by omega)
theorem ww_0 (D : va_G) (cI cB : ClassId) (q1 q2 : Nat → Nat) (a b c : Nat) : wq q1 (eX11 cI cB [] q1) ++ wq q2 (eX12 cI cB [] q2) = ww (gC D cI cB q1 q2 a b c) M0 := by
  have l1 : (wq q1 (eX11 cI cB [] q1)).length = 76 := by rw [wq_len]; rfl
  have l2 : (wq q2 (eX12 cI cB [] q2)).length = 48 := by rw [wq_len]; rfl
  apply List.ext_getElem?
  intro k
  have hw : (ww (gC D cI cB q1 q2 a b c) M0)[k]? = (lay[k]?).map (fun x => (cgA (gC D cI cB q1 q2 a b c) k, en (gC D cI cB q1 q2 a b c) M0 k x)) := by simp only [ww, List.getElem?_mapIdx]
  rw [hw]
  by_cases h1 : k < 76
  · rw [List.getElem?_append_left (by omega), wq_at, e11_at D cI cB q1 q2 a b c k h1, Option.map_map]
    have e : cgA (gC D cI cB q1 q2 a b c) k = q1 k := by show (if k < 76 then q1 k else _) = q1 k; rw [if_pos h1]
    rw [e]
    rfl
  · by_cases h2 : k < 124
    · rw [List.getElem?_append_right (by omega), l1, wq_at, e12_at D cI cB q1 q2 a b c (k - 76) (by omega), Option.map_map]
      have e : cgA (gC D cI cB q1 q2 a b c) k = q2 (k - 76) := by show (if k < 76 then q1 k else if k < 124 then q2 (k - 76) else _) = q2 (k - 76); rw [if_neg h1, if_pos h2]
      rw [e, show 76 + (k - 76) = k by omega]
      rfl
    · have hl := lay_len
      rw [List.getElem?_eq_none (by rw [List.length_append]; omega), List.getElem?_eq_none (by omega)]
      rfl
theorem wjoin {D : va_G} {A : Nat → Prop} {ws w1 : va_W} {a : Nat} {e : va_E} {H H1 : Heap} (hP : va_P D vwCl (ws ++ [(a, e)]) H) (hD : va_D A (ws ++ [(a, e)])) (hk : ∀ q : Nat, q < H.size → ¬ va_A [(a, e)] H.size q → H1[q]? = H[q]?) (hF : ∀ q, va_A [(a, e)] H.size q → A q) (hP1 : va_P D vwCl w1 H1) (hD1 : va_D (va_A [(a, e)] H.size) w1) : va_P D vwCl (ws ++ w1) H1 ∧ va_D A (ws ++ w1) := by
  have he : (ws ++ [(a, e)])[ws.length]? = some (a, e) := by rw [List.getElem?_append_right (Nat.le_refl _), Nat.sub_self]; rfl
  have old : ∀ i x, ws[i]? = some x → (ws ++ [(a, e)])[i]? = some x ∧ i < ws.length ∧ ¬ va_A [(a, e)] H.size x.1 := fun i x hx => by
    have hi := (List.getElem?_eq_some_iff.mp hx).1
    have hx2 : (ws ++ [(a, e)])[i]? = some x := by rw [List.getElem?_append_left hi]; exact hx
    refine ⟨hx2, hi, fun ha => ?_⟩
    rcases ha with ⟨i2, e2, h2⟩ | ha
    · have hi1 : i2 < 1 := (List.getElem?_eq_some_iff.mp h2).1
      have : i2 = 0 := by omega
      subst this
      have h3 : (a, e) = (x.1, e2) := Option.some.inj h2
      have := hD.1 i ws.length x _ hx2 he (Prod.mk.inj h3).1.symm
      omega
    · have := (hP i x hx2).lt
      omega
  have spl : ∀ i x, (ws ++ w1)[i]? = some x → (i < ws.length ∧ ws[i]? = some x) ∨ (ws.length ≤ i ∧ w1[i - ws.length]? = some x) := fun i x hx => by
    by_cases z : i < ws.length
    · rw [List.getElem?_append_left z] at hx
      exact Or.inl ⟨z, hx⟩
    · rw [List.getElem?_append_right (by omega)] at hx
      exact Or.inr ⟨by omega, hx⟩
  refine ⟨va_P.app (fun i x hx => ?_) hP1, fun i j x z hx hz hxz => ?_, fun i x hx => ?_⟩
  · obtain ⟨h1, h2, h3⟩ := old i x hx
    exact (hP i x h1).kept (hk x.1 (hP i x h1).lt h3)
  · rcases spl i x hx with ⟨b1, b2⟩ | ⟨b1, b2⟩ <;> rcases spl j z hz with ⟨c1, c2⟩ | ⟨c1, c2⟩
    · exact hD.1 i j x z (old i x b2).1 (old j z c2).1 hxz
    · exact absurd (by rw [hxz]; exact hD1.2 _ z c2) (old i x b2).2.2
    · exact absurd (by rw [← hxz]; exact hD1.2 _ x b2) (old j z c2).2.2
    · have := hD1.1 _ _ x z b2 c2 hxz
      omega
  · rcases spl i x hx with ⟨b1, b2⟩ | ⟨b1, b2⟩
    · exact hD.2 i x (old i x b2).1
    · exact hF _ (hD1.2 _ x b2)
def L00 : Me := fun _ _ => 0
theorem rel_0 : Rel 0 M0 := by
  have eL : L00 0 0 = 0 := rfl
  have z : ∀ k i, k ≠ 37 → k ≠ 43 → k ≠ 49 → k ≠ 77 → M0 k i = 0 := fun k i a b c d => by
    unfold M0
    split
    · exact absurd rfl a
    · exact absurd rfl b
    · exact absurd rfl c
    · exact absurd rfl d
    · rfl
  have e8 : M0 3 8 = 0 := rfl
  refine ⟨⟨by rw [e8]; decide, by rw [e8]; decide, rfl, fun c c0 c1 => by rw [e8] at c1; exfalso; omega⟩, fun c c0 c1 => by rw [e8] at c1; exfalso; omega, ⟨fun c c0 c1 => by rw [e8] at c1; exfalso; omega, ?_, ?_, rfl, rfl⟩, ⟨rfl, Or.inl rfl, fun q => absurd q (by decide)⟩, RTape.nil rfl rfl, ⟨L00, ⟨rfl, fun r a b => by exfalso; omega⟩, ⟨rfl, fun r a b => by exfalso; omega⟩, ⟨by omega, by omega, fun r a b => by exfalso; omega⟩⟩, ?_, ?_⟩
  · show 0 ≤ (0 : Int) ∧ (0 : Int) ≤ 9999; omega
  · show 0 ≤ (1 : Int) ∧ (1 : Int) ≤ 65535; omega
  · show (0 : Int) ≤ 0; omega
  · show (0 : Int) ≤ 0; omega
theorem cm_0 : CM M0 := fun k i => by
  unfold M0 cn
  repeat' split
  all_goals omega
theorem ll_7 : Cond.classLink RL 7 RX11 ∈ lwg := lwg_of (List.mem_of_getElem? (i := 118) (by decide +kernel)) (by decide +kernel)
theorem ll_10 : Cond.classLink RL 10 RX12 ∈ lwg := lwg_of (List.mem_of_getElem? (i := 1113) (by decide +kernel)) (by decide +kernel)
theorem blindI {D : va_G} {cI cB : ClassId} {h0 sz ci : Nat} {d as : List Value} : FrameBlind (PI D cI cB h0 sz ci d as) := fun a U g mk z => by
  obtain ⟨z0, z1, z2, z3⟩ := z
  exact ⟨z0, z1, z2, va_K.moved (u := U) (U := U.calling g mk a) (Vm.Alike.refl U.vm) z3⟩
