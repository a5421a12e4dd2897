set_option maxHeartbeats 4000000 in
theorem whole_start {p : Program} {e : Env} {s : State} {m : MethodId} {below : List Frame} {meth : Method} {c : Code} (l : Launch) (hflags : l.flags = flags0) {b L : Nat} {xs : Nat → Int32} (hL : L ≤ 3072) (C0 : lw_At p s m meth c b L xs) : W p l e room_1 s m #[Value.ref b] below meth c s.heap [] 0 0 (lw_Z below #[Value.ref b] s) (entryFrame m ([Value.ref b] : List Value).toArray 4) := by
  obtain ⟨hx, hb, hr, hml, hown, hts, hX, hbl, hlocks, hgv⟩ := id C0
  have htg : ∀ w ∈ lwg, w.before #[Value.ref b] s = true := fun w hw => hts w (lwg_in hw)
  obtain ⟨D, hkn⟩ := kn_all htg
  obtain ⟨cI, cB, hK⟩ := ka_all htg hkn
  obtain ⟨a1, a2, hs1, hs2, hs3⟩ := str_all hts hgv
  have hA : ∀ q : Nat, s.heap.size ≤ q → (fun q : Nat => s.heap.size ≤ q) q := fun _ h => h
  have hS : va_S (fun q : Nat => s.heap.size ≤ q) s.heap s.heap [] := va_S.rf
  have hP : va_P D vwCl [] s.heap := fun k q h => by simp at h
  have hD : va_D (fun q : Nat => s.heap.size ≤ q) [] := ⟨fun i j p q h => by simp at h, fun k q h => by simp at h⟩
  have hl := lv_entry ([.ref b]) (n := 4) (Nat.le_of_ble_eq_true rfl)
  rw [lg_entry_eq]
  generalize (lg_sl ([.ref b]) ++ List.replicate (4 - (lg_sl ([.ref b])).length) Slot.unset).toArray = ls at hl ⊢
  have hl : lv_has ls 4 [(0, .ref b)] := hl
  have CF : CallFix p m c code 4 s #[Value.ref b] lwg RL := ⟨hx, hb, hml, hown, htg⟩
  have hI : ∀ h0 sz : Nat, Met l mX11_init.1 (wsY mX11_init) (rmi 3 75 6627) (PI D cI cB h0 sz 11 dfX11 []) (QI D h0 sz 11 dfX11 (eX11 cI cB [])) 75 6627 (AI h0 sz 11 dfX11) := fun h0 sz => c_X11 l h0 sz
  obtain ⟨T11, t11, n1, n2, n3, n4, n5, n6⟩ := nokX11
  have ln : ∀ q, (eX11 cI cB [] q).length = 76 := fun q => rfl
  obtain ⟨d11, hd11⟩ : ∃ d, dfX11 = d := ⟨_, rfl⟩
  obtain ⟨f11, hf11⟩ : ∃ f, eX11 cI cB [] = f := ⟨_, rfl⟩
  rw [hd11] at n6
  rw [hd11, hf11] at hI
  rw [hf11] at ln
  refine va_new (ci := 11) (fs := d11) hx hb htg n2 t11 n3 hown (htg _ ll_7) (htg _ n4) (htg _ n5) hK hP hD hS hA n1 n6 (Nat.le_of_ble_eq_true rfl) (Nat.le_of_ble_eq_true rfl) dL_law_0 (fun h1 H1 hP1 hD1 hS1 => ?_)
  refine lv_dup hx hb dL_law_3 rfl ?_
  have e1 : ([] ++ [(h1, .inr (11, d11))] : va_W)[0]? = some (h1, .inr (11, d11)) := rfl
  have up1 : ∀ a, va_A [(h1, .inr (11, d11))] H1.size a → s.heap.size ≤ a := fun a ha => by
    rcases ha with ⟨i, e2, hi⟩ | ha
    · have hi1 : i < 1 := (List.getElem?_eq_some_iff.mp hi).1
      have : i = 0 := by omega
      subst this
      have h2 : (h1, (.inr (11, d11) : va_E)) = (a, e2) := Option.some.inj hi
      rw [← (Prod.mk.inj h2).1]
      exact hD1.2 0 _ e1
    · have := hS1.1; omega
  have cb1 := callB_of (mc := 75) (ms := 6627) (rm := rmi 3 75 6627) (R := room_1) 0 htg (wsY_good l_L_9.2.1) (ws' := lwg) rfl rfl rfl (htg _ l_L_9.2.2.1) (htg _ l_L_9.1) l_L_9.2.2.2 ⟨Nat.le_of_ble_eq_true rfl, Nat.le_of_ble_eq_true rfl⟩
  refine va_callv (va_runI (b := h1) (As := []) (rest := [.ref h1]) CF (hI h1 H1.size) ⟨cb1, rfl, htg _ in_X11_init⟩ ⟨blindI, fun U hU hW => ⟨rfl, by rw [hU], by rw [hU]; exact hP1, va_K.moved hW.alike hK⟩⟩ rfl rfl hl.1 rfl (lv_room (Nat.le_of_ble_eq_true rfl)) dL_law_4 ⟨Nat.le_of_ble_eq_true rfl, Nat.le_of_ble_eq_true rfl⟩) hS1 (fun a _ ha => up1 a ha) up1 (fun q1 t1 H2 locs2 ht1 hvm1 hw1 hB1 hz1 hk1 hS2 => ?_)
  obtain ⟨hP2, hD2⟩ := hB1
  rw [ht1] at hP2
  obtain ⟨hP3, hD3⟩ := wjoin (ws := []) hP1 hD1 hk1 up1 hP2 hD2
  rw [List.nil_append] at hP3 hD3
  have hq1 : q1 0 = h1 := hw1
  refine lv_astore_n (lv' := [(1, .ref h1), (0, .ref b)]) hx hb dL_law_7 rfl hl (by decide) rfl (fun ls hl => ?_)
  exact ws_mid l hL C0 hK hs1 hs2 hs3 hq1 (by rw [hf11]) (ln q1) hP3 hD3 hS2 hl
