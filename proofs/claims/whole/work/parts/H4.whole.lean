set_option maxHeartbeats 8000000 in
set_option maxRecDepth 100000 in
theorem whole_start {p : Program} {e : Env} {s : State} {m : MethodId} {below : List Frame} {meth : Method} {c : Code} (l : Launch) (hflags : l.flags = flags0) {b L : Nat} {xs : Nat → Int32} (hL : L ≤ 3072) (C0 : lw_At p s m meth c b L xs) : W p l e room_1 s m #[Value.ref b] below meth c s.heap [] 0 0 (lw_Z below #[Value.ref b] s) (entryFrame m ([Value.ref b] : List Value).toArray 4) := by
  obtain ⟨hx, hb, hr, hml, hown, hts, hX, hbl, hlocks, hgv⟩ := id C0
  have htg : ∀ w ∈ lwg, w.before #[Value.ref b] s = true := fun w hw => hts w (lwg_in hw)
  obtain ⟨D, hkn⟩ := kn_all htg
  obtain ⟨cI, cB, hK⟩ := ka_all htg hkn
  obtain ⟨a1, a2, hs1, hs2, hs3⟩ := str_all hts hgv
  have hA : ∀ q : Nat, s.heap.size ≤ q → (fun q : Nat => s.heap.size ≤ q) q := fun _ h => h
  have hS : va_S (fun q : Nat => s.heap.size ≤ q) s.heap s.heap [] := va_S.rf
  have hP : va_P D vwCl [] s.heap := fun k q h => by simp at h
  have hD : va_D (fun q : Nat => s.heap.size ≤ q) [] := ⟨fun i j p q h => by simp at h, fun k q h => by simp at h⟩
  have hl := lv_entry ([.ref b]) (n := 4) (Nat.le_of_ble_eq_true rfl)
  rw [lg_entry_eq]
  generalize (lg_sl ([.ref b]) ++ List.replicate (4 - (lg_sl ([.ref b])).length) Slot.unset).toArray = ls at hl ⊢
  have hl : lv_has ls 4 [(0, .ref b)] := hl
  have CF : CallFix p m c code 4 s #[Value.ref b] lwg RL := ⟨hx, hb, hml, hown, htg⟩
  obtain ⟨T11, t11, n1, n2, n3, n4, n5, n6⟩ := nokX11
  refine va_new (ci := 11) (fs := dfX11) hx hb htg n2 t11 n3 hown (htg _ ll_7) (htg _ n4) (htg _ n5) hK hP hD hS hA n1 n6 (Nat.le_of_ble_eq_true rfl) (Nat.le_of_ble_eq_true rfl) dL_law_0 (fun h1 H1 hP1 hD1 hS1 => ?_)
  refine lv_dup hx hb dL_law_3 rfl ?_
  have e1 : ([] ++ [(h1, .inr (11, dfX11))] : va_W)[0]? = some (h1, .inr (11, dfX11)) := rfl
  have up1 : ∀ a, va_A [(h1, .inr (11, dfX11))] H1.size a → s.heap.size ≤ a := fun a ha => by
    rcases ha with ⟨i, e2, hi⟩ | ha
    · have hi1 : i < 1 := (List.getElem?_eq_some_iff.mp hi).1
      have : i = 0 := by omega
      subst this
      have h2 : (h1, (.inr (11, dfX11) : va_E)) = (a, e2) := Option.some.inj hi
      rw [← (Prod.mk.inj h2).1]
      exact hD1.2 0 _ e1
    · have := hS1.1; omega
  have cb1 := callB_of (mc := 75) (ms := 6627) (rm := rmi 3 75 6627) (R := room_1) 0 htg (wsY_good l_L_9.2.1) (ws' := lwg) rfl rfl rfl (htg _ l_L_9.2.2.1) (htg _ l_L_9.1) l_L_9.2.2.2 ⟨Nat.le_of_ble_eq_true rfl, Nat.le_of_ble_eq_true rfl⟩
  refine va_callv (va_runI (b := h1) (As := []) (rest := [.ref h1]) CF (c_X11 (D := D) (cI := cI) (cB := cB) l h1 H1.size) ⟨cb1, rfl, htg _ in_X11_init⟩ ⟨blindI, fun U hU hW => ⟨rfl, by rw [hU], by rw [hU]; exact hP1, va_K.moved hW.alike hK⟩⟩ rfl rfl hl.1 rfl (lv_room (Nat.le_of_ble_eq_true rfl)) dL_law_4 ⟨Nat.le_of_ble_eq_true rfl, Nat.le_of_ble_eq_true rfl⟩) hS1 (fun a _ ha => up1 a ha) up1 (fun q1 t1 H2 locs2 ht1 hvm1 hw1 hB1 hz1 hk1 hS2 => ?_)
  obtain ⟨hP2, hD2⟩ := hB1
  rw [ht1] at hP2
  obtain ⟨hP3, hD3⟩ := wjoin (ws := []) hP1 hD1 hk1 up1 hP2 hD2
  have hP3 : va_P D vwCl (wq q1 (eX11 cI cB [] q1)) H2 := hP3
  have hD3 : va_D (fun q : Nat => s.heap.size ≤ q) (wq q1 (eX11 cI cB [] q1)) := hD3
  have hq1 : q1 0 = h1 := hw1
  refine lv_astore_n (lv' := [(1, .ref h1), (0, .ref b)]) hx hb dL_law_7 rfl hl (by decide) rfl (fun ls hl => ?_)
  obtain ⟨T12, t12, m1, m2, m3, m4, m5, m6⟩ := nokX12
  refine va_new (ci := 12) (fs := dfX12) hx hb htg m2 t12 m3 hown (htg _ ll_10) (htg _ m4) (htg _ m5) hK hP3 hD3 hS2 hA m1 m6 (Nat.le_of_ble_eq_true rfl) (Nat.le_of_ble_eq_true rfl) dL_law_8 (fun h2 H3 hP4 hD4 hS3 => ?_)
  refine lv_dup hx hb dL_law_11 rfl ?_
  have wl : (wq q1 (eX11 cI cB [] q1)).length = 76 := by rw [wq_len]; rfl
  have e2 : (wq q1 (eX11 cI cB [] q1) ++ [(h2, .inr (12, dfX12))])[76]? = some (h2, .inr (12, dfX12)) := by rw [List.getElem?_append_right (by omega), wl]; rfl
  have up2 : ∀ a, va_A [(h2, .inr (12, dfX12))] H3.size a → s.heap.size ≤ a := fun a ha => by
    rcases ha with ⟨i, e3, hi⟩ | ha
    · have hi1 : i < 1 := (List.getElem?_eq_some_iff.mp hi).1
      have : i = 0 := by omega
      subst this
      have h3 : (h2, (.inr (12, dfX12) : va_E)) = (a, e3) := Option.some.inj hi
      rw [← (Prod.mk.inj h3).1]
      exact hD4.2 76 _ e2
    · have := hS3.1; omega
  have hP5 : va_P D vwCl [(h2, .inr (12, dfX12))] H3 := fun i x hx2 => by
    have hi : i < 1 := (List.getElem?_eq_some_iff.mp hx2).1
    have : i = 0 := by omega
    subst this
    have hx3 : x = (h2, .inr (12, dfX12)) := (Option.some.inj hx2).symm
    rw [hx3]
    exact hP4 76 _ e2
  have cb2 := callB_of (mc := 47) (ms := 7986) (rm := rmi 1 47 7986) (R := room_1) 0 htg (wsY_good l_L_12.2.1) (ws' := lwg) rfl rfl rfl (htg _ l_L_12.2.2.1) (htg _ l_L_12.1) l_L_12.2.2.2 ⟨Nat.le_of_ble_eq_true rfl, Nat.le_of_ble_eq_true rfl⟩
  refine va_callv (va_runI (b := h2) (As := []) (rest := [.ref h2]) CF (c_X12 (D := D) (cI := cI) (cB := cB) l h2 H3.size) ⟨cb2, rfl, htg _ in_X12_init⟩ ⟨blindI, fun U hU hW => ⟨rfl, by rw [hU], by rw [hU]; exact hP5, va_K.moved hW.alike hK⟩⟩ rfl rfl hl.1 rfl (lv_room (Nat.le_of_ble_eq_true rfl)) dL_law_12 ⟨Nat.le_of_ble_eq_true rfl, Nat.le_of_ble_eq_true rfl⟩) hS3 (fun a _ ha => up2 a ha) up2 (fun q2 t2 H4 locs4 ht2 hvm2 hw2 hB2 hz2 hk2 hS4 => ?_)
  obtain ⟨hP6, hD6⟩ := hB2
  rw [ht2] at hP6
  obtain ⟨hP7, hD7⟩ := wjoin hP4 hD4 hk2 up2 hP6 hD6
  have hq2 : q2 0 = h2 := hw2
  refine lv_astore_n (lv' := [(2, .ref h2), (1, .ref h1), (0, .ref b)]) hx hb dL_law_15 rfl hl (by decide) rfl (fun ls hl => ?_)
  refine lv_iconst (v := 0) hx hb dL_law_16 (by decide) ?_
  refine lv_istore_n (lv' := [(3, .int 0), (2, .ref h2), (1, .ref h1), (0, .ref b)]) hx hb dL_law_17 rfl hl (by decide) rfl (fun ls hl => ?_)
  refine va_forget (fun q hq => hS4.2.2 q hq) ?_
  rw [ww_0 D cI cB q1 q2 a1 a2 b] at hP7 hD7
  obtain ⟨g, hg⟩ : ∃ g, gC D cI cB q1 q2 a1 a2 b = g := ⟨_, rfl⟩
  rw [hg] at hP7 hD7
  have g1 : g.1 = D := by rw [← hg]; rfl
  have gw : ∀ k, k < 124 → ∃ x, (ww g M0)[k]? = some (cgA g k, x) := fun k hk => by
    have hl2 := lay_len
    have h9 : k < lay.length := by omega
    exact ⟨_, ww_at g M0 (List.getElem?_eq_getElem h9)⟩
  have gup : ∀ k, k < 124 → s.heap.size ≤ cgA g k := fun k hk => by
    obtain ⟨x, hx9⟩ := gw k hk
    exact hD7.2 k _ hx9
  have gin : ∀ i j, i < 124 → j < 124 → cgA g i = cgA g j → i = j := fun i j hi hj he => by
    obtain ⟨x, hx9⟩ := gw i hi
    obtain ⟨y, hy9⟩ := gw j hj
    exact hD7.1 i j _ _ hx9 hy9 he
  have gnb : ∀ q, Aw g q → s.heap.size ≤ q := fun q hq => by
    obtain ⟨k, k1, k2⟩ := hq
    rw [k2]; exact gup k k1
  have c1001 : cgA g 1001 = a1 := by rw [← hg]; rfl
  have c1002 : cgA g 1002 = a2 := by rw [← hg]; rfl
  have c1003 : cgA g 1003 = b := by rw [← hg]; rfl
  have c0 : cgA g 0 = h1 := by rw [← hg]; exact hq1
  have c76 : cgA g 76 = h2 := by rw [← hg]; exact hq2
  have hty : tysG g = ty2 cI cB := by rw [← hg]; rfl
  have st0 : St0 g s := by
    refine ⟨by rw [g1, hty]; exact hK, gin, nest_all hts, ?_, ?_, ?_⟩
    · rw [c1001]; exact hs1
    · rw [c1001, c1002]; exact hs2.narrow gnb
    · exact hs3.narrow gnb
  have go := law_go (b := b) (L := L) (xs := xs) hL 512 0 0 M0 (by omega) (by omega) (by omega) (by omega) rel_0
  have lvl : lvh g ls 4 [some (.inr 1003), some (.inr 0), some (.inr 76), some (.inl 0)] := by
    have q := lv_sub (l := [(3, .int 0), (2, .ref h2), (1, .ref h1), (0, .ref b)]) hl [3, 2, 1, 0] rfl
    show lv_has ls 4 [(0, .ref (cgA g 1003)), (1, .ref (cgA g 0)), (2, .ref (cgA g 76)), (3, .int (Int32.ofInt 0))]
    rw [c1003, c0, c76]
    exact q
  exact go cm_0 (fun j x hj => by
    match j, hj with
    | 0, hj => cases hj
    | 1, hj => cases hj
    | 2, hj => cases hj
    | 3, hj => cases hj; exact cn_0
    | n + 4, hj => simp at hj) (fun x hx9 => by cases hx9) g p l e s m #[Value.ref b] below meth c H4 [] ls ⟨CF, hr, hlocks, st0, ⟨rfl, hX, hbl, fun z => Nat.not_le.mpr hbl (gnb b z), c1003, gup⟩, by rw [g1]; exact hP7, ⟨hS4.1, fun q h9 h8 => hS4.2.1 q h9 (Nat.not_le.mpr h9), fun q hq => by cases hq⟩, lvl⟩
