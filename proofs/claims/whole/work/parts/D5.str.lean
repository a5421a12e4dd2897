/-! ===== the constant text of the law's letters ===== -/
theorem fS_9 : Cond.fieldLink "java/lang/String" 9 "java/lang/String" "value" "[B" ∈ lwg := lwg_of (List.mem_of_getElem? (i := 1729) (by decide +kernel)) (by decide +kernel)
theorem fS_15 : Cond.fieldLink "java/lang/String" 15 "java/lang/String" "coder" "B" ∈ lwg := lwg_of (List.mem_of_getElem? (i := 1728) (by decide +kernel)) (by decide +kernel)
theorem fS_38 : Cond.fieldLink "java/lang/String" 38 "java/lang/String" "COMPACT_STRINGS" "Z" ∈ lwg := lwg_of (List.mem_of_getElem? (i := 561) (by decide +kernel)) (by decide +kernel)
theorem a_getSs {K : Kx} {pc : Nat} {ls : List (Option AV)} {st : List AV} {M : Me} (hd : decode K.1.2.1 pc = .ok (.getstatic 38, 3)) (ho : K.1.1.cls = "java/lang/String") (k : Go K (pc + 3) ls (.inl 1 :: st) M) : Go K pc ls st M := by
  intro hM hl hs g p l e s m args below meth c H locs la C
  exact va_gets C.1.1 C.1.2.1 C.2.2.2.1.2.2.2.2.2 C.2.2.2.2.2.2.1 (by rw [← ho]; exact C.1.2.2.2.1) (C.1.2.2.2.2 _ fS_38) (fun _ h => h) hd (k hM hl (hs.consI (by unfold cn; omega)) g p l e s m args below meth c H locs la C)
theorem a_getSv {K : Kx} {pc : Nat} {ls : List (Option AV)} {st : List AV} {M : Me} (hd : decode K.1.2.1 pc = .ok (.getfield 9, 3)) (ho : K.1.1.cls = "java/lang/String") (k : Go K (pc + 3) ls (.inr 1002 :: st) M) : Go K pc ls (.inr 1001 :: st) M := by
  intro hM hl hs g p l e s m args below meth c H locs la C
  exact vk_getf C.1.1 C.1.2.1 (C.2.2.2.1.2.2.2.2.1.1 0 (by decide)).2.2.1 C.2.2.2.2.2.2.1 (by rw [← ho]; exact C.1.2.2.2.1) (C.1.2.2.2.2 _ fS_9) (fun _ h => h) hd (k hM hl hs.tl.consR g p l e s m args below meth c H locs la C)
theorem a_getSc {K : Kx} {pc : Nat} {ls : List (Option AV)} {st : List AV} {M : Me} (hd : decode K.1.2.1 pc = .ok (.getfield 15, 3)) (ho : K.1.1.cls = "java/lang/String") (k : Go K (pc + 3) ls (.inl 0 :: st) M) : Go K pc ls (.inr 1001 :: st) M := by
  intro hM hl hs g p l e s m args below meth c H locs la C
  exact vk_getf C.1.1 C.1.2.1 (C.2.2.2.1.2.2.2.2.1.1 0 (by decide)).2.1 C.2.2.2.2.2.2.1 (by rw [← ho]; exact C.1.2.2.2.1) (C.1.2.2.2.2 _ fS_15) (fun _ h => h) hd (k hM hl (hs.tl.consI cn_0) g p l e s m args below meth c H locs la C)
theorem a_alenS {K : Kx} {pc : Nat} {ls : List (Option AV)} {st : List AV} {M : Me} (hd : decode K.1.2.1 pc = .ok (.arraylength, 1)) (k : Go K (pc + 1) ls (.inl 11 :: st) M) : Go K pc ls (.inr 1002 :: st) M := by
  intro hM hl hs g p l e s m args below meth c H locs la C
  exact va_tlen C.1.1 C.1.2.1 (C.2.2.2.1.2.2.2.2.1.1 0 (by decide)).2.2.2 C.2.2.2.2.2.2.1 (v := Int32.ofInt 11) rfl hd (k hM hl (hs.tl.consI (by unfold cn; omega)) g p l e s m args below meth c H locs la C)
def sb (i : Int) : Int := if i = 0 then 99 else if i = 1 then 115 else if i = 2 then 109 else if i = 3 then 104 else if i = 4 then 108 else if i = 5 then 97 else if i = 6 then 107 else if i = 7 then 100 else if i = 8 then 110 else if i = 9 then 116 else 119
theorem sby_at : ∀ n : Nat, n < 11 → (lbytes.getD n 0) = Int32.ofInt (sb (n : Int)) := by decide
theorem sb_cn (i : Int) : cn (sb i) := by
  unfold sb cn
  repeat' split
  all_goals omega
theorem a_baldS {K : Kx} {pc : Nat} {ls : List (Option AV)} {st : List AV} {M : Me} {i : Int} (hd : decode K.1.2.1 pc = .ok (.baload, 1)) (h0 : 0 ≤ i) (h1 : i < 11) (k : Go K (pc + 1) ls (.inl (sb i) :: st) M) : Go K pc ls (.inl i :: .inr 1002 :: st) M := by
  intro hM hl hs g p l e s m args below meth c H locs la C
  refine va_tb C.1.1 C.1.2.1 (C.2.2.2.1.2.2.2.2.1.1 0 (by decide)).2.2.2 C.2.2.2.2.2.2.1 (cn_in hs.hd h0 h1) (v := .int (Int32.ofInt (sb i))) ?_ hd (k hM hl (hs.tl.tl.consI (sb_cn i)) g p l e s m args below meth c H locs la C)
  rw [cn_clamp hs.hd]
  have e2 := sby_at i.toNat (by omega)
  rw [show ((i.toNat : Nat) : Int) = i by omega] at e2
  show Value.int (lbytes.getD i.toNat 0) = Value.int (Int32.ofInt (sb i))
  rw [e2]
theorem a_iretB {d : Nat} {y : Mi} {Q : Int → Me → Prop} {pc : Nat} {ls : List (Option AV)} {x : Int} {M : Me} (hd : decode y.2.1 pc = .ok (.ireturn, 1)) (hr : y.2.2.2 = some .byte) (h01 : x = 0 ∨ x = 1) (hq : Q x M) : Go (km d y Q) pc ls [.inl x] M := by
  intro hM hl hs g p l e s m args below meth c H locs la C
  have hn : narrow .byte (.int (Int32.ofInt x)) = .int (Int32.ofInt x) := by
    rcases h01 with rfl | rfl
    · decide
    · decide
  refine W.zret (ty := .byte) C.1.1 C.1.2.1 (C.2.1.trans hr) hn (fun t ht hW => ?_) C.2.2.2.2.2.2.1.2.2 hd C.2.2.1
  show QxM g y.2.2.2 Q args s _ t
  rw [hr]
  exact ⟨⟨_, (x, M), rfl, ⟨rfl, hs.hd, hM, hq⟩, by dsimp only; rw [ht]; exact C.2.2.2.2.2.1⟩, C.2.2.2.2.2.2.1.F ht⟩
theorem a_callVs {K : Kx} {pc : Nat} {ls : List (Option AV)} {st : List AV} {M : Me} {idx d : Nat} {y : Mi} {ty : FieldType} (as : List AV) (hd : decode K.1.2.1 pc = .ok (.invokevirtual idx, 3)) (hc : COK K.1.1.cls idx y as.length) (hin : Cond.instanceMethod y.1 ∈ lwg) (hse : Cond.selects y.1.cls y.1 y.1 ∈ lwg) (hy : y.1.cls = "java/lang/String") (hr : y.2.2.2 = some ty) (hR : (rmd d).frames + 1 ≤ K.2.1.frames ∧ 8 + (y.2.2.1 + 11) + (rmd d).locals ≤ K.2.1.locals) (hf : K.2.2.1 ≤ K.2.1.cells ∧ K.2.2.2.1 ≤ K.2.1.slots) (h8 : st.length ≤ 8) (h : Calls d y (.inr 1001 :: as) M (fun r M' => Go K (pc + 3) ls (.inl r :: st) M')) : Go K pc ls (as.reverse ++ .inr 1001 :: st) M := by
  intro hM hl hs g p l e s m args below meth c H locs la C
  have hA := CLs.args (as := as) (st := .inr 1001 :: st) hs
  have hAs : CLs (Sum.inr 1001 :: as) := hA.1.consR
  have hst : CLs st := hA.2.tl
  have hM1 := h hM hAs g l
  rw [hr] at hM1
  have cb := callB_of (mc := 0) (ms := 0) (rm := rmd d) (R := K.2.1) as.length C.1.2.2.2.2 (wsY_good hc.2.1) (ws' := lwg) rfl rfl rfl (C.1.2.2.2.2 _ hc.2.2.1) (C.1.2.2.2.2 _ hc.1) hc.2.2.2 hR
  have hrc : ∃ cell : Cell, H[cgA g 1001]? = some cell ∧ cell.vm.isStatics = false ∧ s.vm.findClass y.1.cls = some cell.cls := by
    rw [hy]
    exact vk_recv (i := 0) C.2.2.2.1.2.2.2.2.1 (by decide) C.2.2.2.2.2.2.1
  have hrun := va_runV (H := H) (cells := K.2.2.1) (slots := K.2.2.2.1) (g := F0 m pc la ((as.reverse ++ .inr 1001 :: st).map (cv g))) (As := as.map (cv g)) (rest := st.map (cv g)) C.1 hM1 ⟨cb, C.1.2.2.2.2 _ hin, C.1.2.2.2.2 _ hse⟩ ⟨PcM_blind g _ M, hrc, fun U hU hW => C.pre (.inr 1001 :: as) U hU hW⟩ rfl (by simp) C.2.2.2.2.2.2.2.1 (by simp [cv]) (lv_room (st_room g st h8)) hd ⟨hf.1, hf.2⟩ (below := below) (meth := meth) (locs := locs) (e := e)
  refine va_calli (a := (Value.ref (cgA g 1001) :: as.map (cv g)).toArray) (A1 := Aw g) hrun C.2.2.2.2.2.2.1 (fun q _ h => h) (fun q h => h) ?_
  intro r u t H1 locs1 ht hvm hp hB hz hk hS1
  rw [ht] at hB
  obtain ⟨rfl, q1, q2, q3⟩ := hp
  exact q3 q2 hl (hst.consI q1) g p l e s m args below meth c H1 locs1 la ⟨C.1, C.2.1, C.2.2.1, C.2.2.2.1, C.2.2.2.2.1, hB, hS1, C.2.2.2.2.2.2.2⟩
