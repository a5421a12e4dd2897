theorem ws_go {p : Program} {e : Env} {s : State} {m : MethodId} {below : List Frame} {meth : Method} {c : Code} (l : Launch) {b L : Nat} {xs : Nat → Int32} (hL : L ≤ 3072) (C0 : lw_At p s m meth c b L xs) {D : va_G} {cI cB : ClassId} {q1 q2 : Nat → Nat} {a1 a2 h1 h2 : Nat} {H : Heap} {locs : List Loc} {ls : Array Slot} (hK : va_K D vwCl (ty2 cI cB) s)
    (hs1 : vk_R "GrownInitials$LawReader" 99 "csmhlakdntw" a1 s) (hs2 : vk_S 1 [11] [lbytes] (fun _ => a1) (fun _ => a2) (fun q => s.heap.size ≤ q) s s.heap) (hs3 : va_Z "java/lang/String" "COMPACT_STRINGS" "Z" (.int 1) (fun q => s.heap.size ≤ q) s s.heap)
    (hq1 : q1 0 = h1) (hq2 : q2 0 = h2) (hP7 : va_P D vwCl (ww (gC D cI cB q1 q2 a1 a2 b) M0) H) (hD7 : va_D (fun q : Nat => s.heap.size ≤ q) (ww (gC D cI cB q1 q2 a1 a2 b) M0)) (hS4 : va_S (fun q : Nat => s.heap.size ≤ q) s.heap H locs)
    (hl : lv_has ls 4 [(3, .int (Int32.ofInt 0)), (2, .ref h2), (1, .ref h1), (0, .ref b)]) : W p l e room_1 s m #[Value.ref b] below meth c H locs 124 14694 (lw_Z below #[Value.ref b] s) (F0 m 18 ls []) := by
  obtain ⟨hx, hb, hr, hml, hown, hts, hX, hbl, hlocks, hgv⟩ := id C0
  have htg : ∀ w ∈ lwg, w.before #[Value.ref b] s = true := fun w hw => hts w (lwg_in hw)
  have CF : CallFix p m c code 4 s #[Value.ref b] lwg RL := ⟨hx, hb, hml, hown, htg⟩
  refine va_forget (fun q hq => hS4.2.2 q hq) ?_
  have g1 : (gC D cI cB q1 q2 a1 a2 b).1 = D := rfl
  have c1001 : cgA (gC D cI cB q1 q2 a1 a2 b) 1001 = a1 := rfl
  have c1002 : cgA (gC D cI cB q1 q2 a1 a2 b) 1002 = a2 := rfl
  have c1003 : cgA (gC D cI cB q1 q2 a1 a2 b) 1003 = b := rfl
  have c0 : cgA (gC D cI cB q1 q2 a1 a2 b) 0 = h1 := hq1
  have c76 : cgA (gC D cI cB q1 q2 a1 a2 b) 76 = h2 := hq2
  have hty : tysG (gC D cI cB q1 q2 a1 a2 b) = ty2 cI cB := rfl
  generalize gC D cI cB q1 q2 a1 a2 b = g at hP7 hD7 g1 c1001 c1002 c1003 c0 c76 hty
  have gw : ∀ k, k < 124 → ∃ x, (ww g M0)[k]? = some (cgA g k, x) := fun k hk => by
    have hl2 := lay_len
    have h9 : k < lay.length := by omega
    exact ⟨_, ww_at g M0 (List.getElem?_eq_getElem h9)⟩
  have gup : ∀ k, k < 124 → s.heap.size ≤ cgA g k := fun k hk => by
    obtain ⟨x, hx9⟩ := gw k hk
    exact hD7.2 k _ hx9
  have gin : ∀ i j, i < 124 → j < 124 → cgA g i = cgA g j → i = j := fun i j hi hj he => by
    obtain ⟨x, hx9⟩ := gw i hi
    obtain ⟨y, hy9⟩ := gw j hj
    exact hD7.1 i j _ _ hx9 hy9 he
  have gnb : ∀ q, Aw g q → s.heap.size ≤ q := fun q hq => by
    obtain ⟨k, k1, k2⟩ := hq
    rw [k2]; exact gup k k1
  have st0 : St0 g s := by
    refine ⟨by rw [g1, hty]; exact hK, gin, nest_all hts, ?_⟩
    unfold StrK
    rw [c1001, c1002]
    exact ⟨hs1, hs2.narrow gnb, hs3.narrow gnb⟩
  have go := law_go (b := b) (L := L) (xs := xs) hL 512 0 0 M0 (by omega) (by omega) (by omega) (by omega) rel_0
  have lvl : lvh g ls 4 [some (.inr 1003), some (.inr 0), some (.inr 76), some (.inl 0)] := by
    have q := lv_sub (l := [(3, .int (Int32.ofInt 0)), (2, .ref h2), (1, .ref h1), (0, .ref b)]) hl [3, 2, 1, 0] rfl
    show lv_has ls 4 [(0, .ref (cgA g 1003)), (1, .ref (cgA g 0)), (2, .ref (cgA g 76)), (3, .int (Int32.ofInt 0))]
    rw [c1003, c0, c76]
    exact q
  have hCL : CLl [some (.inr 1003), some (.inr 0), some (.inr 76), some (.inl 0)] := fun j x hj => by
    match j, hj with
    | 0, hj => cases hj
    | 1, hj => cases hj
    | 2, hj => cases hj
    | 3, hj => cases hj; exact cn_0
    | n + 4, hj => simp at hj
  have hcx : Cx (KL b L xs) g p s m #[Value.ref b] meth c H [] ls [some (.inr 1003), some (.inr 0), some (.inr 76), some (.inl 0)] M0 := by
    refine ⟨CF, hr, hlocks, st0, ⟨rfl, hX, hbl, fun z => Nat.not_le.mpr hbl (gnb b z), c1003, gup⟩, ?_, ⟨hS4.1, fun q h9 h8 => hS4.2.1 q h9 (Nat.not_le.mpr h9), fun q hq => by cases hq⟩, lvl⟩
    rw [g1]; exact hP7
  exact go cm_0 hCL (fun x hx9 => by cases hx9) g p l e s m #[Value.ref b] below meth c H [] ls hcx
