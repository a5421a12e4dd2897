set_option maxHeartbeats 4000000 in
theorem ws_mid {p : Program} {e : Env} {s : State} {m : MethodId} {below : List Frame} {meth : Method} {c : Code} (l : Launch) {b L : Nat} {xs : Nat → Int32} (hL : L ≤ 3072) (C0 : lw_At p s m meth c b L xs) {D : va_G} {cI cB : ClassId} {q1 : Nat → Nat} {a1 a2 h1 : Nat} {H2 : Heap} {locs2 : List Loc} {ls : Array Slot} {E1 : List va_E} (hK : va_K D vwCl (ty2 cI cB) s)
    (hs1 : vk_R "GrownInitials$LawReader" 99 "csmhlakdntw" a1 s) (hs2 : vk_S 1 [11] [lbytes] (fun _ => a1) (fun _ => a2) (fun q => s.heap.size ≤ q) s s.heap) (hs3 : va_Z "java/lang/String" "COMPACT_STRINGS" "Z" (.int 1) (fun q => s.heap.size ≤ q) s s.heap)
    (hq1 : q1 0 = h1) (hE1 : eX11 cI cB [] q1 = E1) (hl1 : E1.length = 76) (hP3 : va_P D vwCl (wq q1 E1) H2) (hD3 : va_D (fun q : Nat => s.heap.size ≤ q) (wq q1 E1)) (hS2 : va_S (fun q : Nat => s.heap.size ≤ q) s.heap H2 locs2)
    (hl : lv_has ls 4 [(1, .ref h1), (0, .ref b)]) : W p l e room_1 s m #[Value.ref b] below meth c H2 locs2 76 6642 (lw_Z below #[Value.ref b] s) (F0 m 8 ls []) := by
  obtain ⟨hx, hb, hr, hml, hown, hts, hX, hbl, hlocks, hgv⟩ := id C0
  have htg : ∀ w ∈ lwg, w.before #[Value.ref b] s = true := fun w hw => hts w (lwg_in hw)
  have CF : CallFix p m c code 4 s #[Value.ref b] lwg RL := ⟨hx, hb, hml, hown, htg⟩
  have hA : ∀ q : Nat, s.heap.size ≤ q → (fun q : Nat => s.heap.size ≤ q) q := fun _ h => h
  have hI : ∀ h0 sz : Nat, Met l mX12_init.1 (wsY mX12_init) (rmi 1 47 7986) (PI D cI cB h0 sz 12 dfX12 []) (QI D h0 sz 12 dfX12 (eX12 cI cB [])) 47 7986 (AI h0 sz 12 dfX12) := fun h0 sz => c_X12 l h0 sz
  obtain ⟨T12, t12, m1, m2, m3, m4, m5, m6⟩ := nokX12
  obtain ⟨d12, hd12⟩ : ∃ d, dfX12 = d := ⟨_, rfl⟩
  obtain ⟨f12, hf12⟩ : ∃ f, eX12 cI cB [] = f := ⟨_, rfl⟩
  rw [hd12] at m6
  rw [hd12, hf12] at hI
  refine va_new (ci := 12) (fs := d12) hx hb htg m2 t12 m3 hown (htg _ ll_10) (htg _ m4) (htg _ m5) hK hP3 hD3 hS2 hA m1 m6 (Nat.le_of_ble_eq_true rfl) (Nat.le_of_ble_eq_true rfl) dL_law_8 (fun h2 H3 hP4 hD4 hS3 => ?_)
  refine lv_dup hx hb dL_law_11 rfl ?_
  have wl : (wq q1 E1).length = 76 := by rw [wq_len]; exact hl1
  have e2 : (wq q1 E1 ++ [(h2, .inr (12, d12))])[76]? = some (h2, .inr (12, d12)) := by rw [List.getElem?_append_right (by omega), wl]; rfl
  have up2 : ∀ a, va_A [(h2, .inr (12, d12))] H3.size a → s.heap.size ≤ a := fun a ha => by
    rcases ha with ⟨i, e3, hi⟩ | ha
    · have hi1 : i < 1 := (List.getElem?_eq_some_iff.mp hi).1
      have : i = 0 := by omega
      subst this
      have h3 : (h2, (.inr (12, d12) : va_E)) = (a, e3) := Option.some.inj hi
      rw [← (Prod.mk.inj h3).1]
      exact hD4.2 76 _ e2
    · have := hS3.1; omega
  have hP5 : va_P D vwCl [(h2, .inr (12, d12))] H3 := fun i x hx2 => by
    have hi : i < 1 := (List.getElem?_eq_some_iff.mp hx2).1
    have : i = 0 := by omega
    subst this
    have hx3 : x = (h2, .inr (12, d12)) := (Option.some.inj hx2).symm
    rw [hx3]
    exact hP4 76 _ e2
  have cb2 := callB_of (mc := 47) (ms := 7986) (rm := rmi 1 47 7986) (R := room_1) 0 htg (wsY_good l_L_12.2.1) (ws' := lwg) rfl rfl rfl (htg _ l_L_12.2.2.1) (htg _ l_L_12.1) l_L_12.2.2.2 ⟨Nat.le_of_ble_eq_true rfl, Nat.le_of_ble_eq_true rfl⟩
  refine va_callv (va_runI (b := h2) (As := []) (rest := [.ref h2]) CF (hI h2 H3.size) ⟨cb2, rfl, htg _ in_X12_init⟩ ⟨blindI, fun U hU hW => ⟨rfl, by rw [hU], by rw [hU]; exact hP5, va_K.moved hW.alike hK⟩⟩ rfl rfl hl.1 rfl (lv_room (Nat.le_of_ble_eq_true rfl)) dL_law_12 ⟨Nat.le_of_ble_eq_true rfl, Nat.le_of_ble_eq_true rfl⟩) hS3 (fun a _ ha => up2 a ha) up2 (fun q2 t2 H4 locs4 ht2 hvm2 hw2 hB2 hz2 hk2 hS4 => ?_)
  obtain ⟨hP6, hD6⟩ := hB2
  rw [ht2] at hP6
  obtain ⟨hP7, hD7⟩ := wjoin hP4 hD4 hk2 up2 hP6 hD6
  have hq2 : q2 0 = h2 := hw2
  refine lv_astore_n (lv' := [(2, .ref h2), (1, .ref h1), (0, .ref b)]) hx hb dL_law_15 rfl hl (by decide) rfl (fun ls hl => ?_)
  refine lv_iconst (v := Int32.ofInt 0) hx hb dL_law_16 rfl ?_
  refine lv_istore_n (lv' := [(3, .int (Int32.ofInt 0)), (2, .ref h2), (1, .ref h1), (0, .ref b)]) hx hb dL_law_17 rfl hl (by decide) rfl (fun ls hl => ?_)
  rw [← hE1, ← hf12, ww_0 D cI cB q1 q2 a1 a2 b] at hP7 hD7
  exact ws_go l hL C0 hK hs1 hs2 hs3 hq1 hq2 hP7 hD7 hS4 hl
