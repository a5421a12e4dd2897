theorem a_iretI {d : Nat} {y : Mi} {Q : Int → Me → Prop} {pc : Nat} {ls : List (Option AV)} {x : Int} {M : Me} (hd : decode y.2.1 pc = .ok (.ireturn, 1)) (hr : y.2.2.2 = some .int) (hq : Q x M) : Go (km d y Q) pc ls [.inl x] M := by
  intro hM hl hs g p l e s m args below meth c H locs la C
  refine W.zret (ty := .int) C.1.1 C.1.2.1 (C.2.1.trans hr) rfl (fun t ht hW => ?_) C.2.2.2.2.2.2.1.2.2 hd C.2.2.1
  show QxM g y.2.2.2 Q args s _ t
  rw [hr]
  exact ⟨⟨_, (x, M), rfl, ⟨rfl, hs.hd, hM, hq⟩, by dsimp only; rw [ht]; exact C.2.2.2.2.2.1⟩, C.2.2.2.2.2.2.1.F ht⟩
theorem a_iretZ {d : Nat} {y : Mi} {Q : Int → Me → Prop} {pc : Nat} {ls : List (Option AV)} {x : Int} {M : Me} (hd : decode y.2.1 pc = .ok (.ireturn, 1)) (hr : y.2.2.2 = some .boolean) (h01 : x = 0 ∨ x = 1) (hq : Q x M) : Go (km d y Q) pc ls [.inl x] M := by
  intro hM hl hs g p l e s m args below meth c H locs la C
  refine W.zret (ty := .boolean) C.1.1 C.1.2.1 (C.2.1.trans hr) (fitsZ_spec (Or.inr ⟨rfl, h01⟩)).1 (fun t ht hW => ?_) C.2.2.2.2.2.2.1.2.2 hd C.2.2.1
  show QxM g y.2.2.2 Q args s _ t
  rw [hr]
  exact ⟨⟨_, (x, M), rfl, ⟨rfl, hs.hd, hM, hq⟩, by dsimp only; rw [ht]; exact C.2.2.2.2.2.1⟩, C.2.2.2.2.2.2.1.F ht⟩
theorem a_ret {d : Nat} {y : Mi} {Q : Int → Me → Prop} {pc : Nat} {ls : List (Option AV)} {M : Me} (hd : decode y.2.1 pc = .ok (.return_, 1)) (hr : y.2.2.2 = none) (hq : Q 0 M) : Go (km d y Q) pc ls [] M := by
  intro hM hl hs g p l e s m args below meth c H locs la C
  refine W.vret C.1.1 C.1.2.1 (C.2.1.trans hr) (fun t ht hW => ?_) C.2.2.2.2.2.2.1.2.2 hd C.2.2.1
  show QxM g y.2.2.2 Q args s _ t
  rw [hr]
  exact ⟨⟨M, rfl, ⟨hM, hq⟩, by dsimp only; rw [ht]; exact C.2.2.2.2.2.1⟩, C.2.2.2.2.2.2.1.F ht⟩
def COK (own : String) (idx : Nat) (y : Mi) (n : Nat) : Prop := Cond.methodLink own idx y.1 ∈ lwg ∧ Cond.code y.1 y.2.1 y.2.2.1 y.2.2.2 ∈ lwg ∧ Cond.initialized y.1.cls ∈ lwg ∧ (y.1.cls ≠ "java/lang/invoke/MethodHandle" ∧ y.1.cls ≠ "java/lang/invoke/VarHandle" ∧ (parseMethodDescriptor y.1.desc).map (fun d => d.parameters.length) = some n)
def COKN (own : String) (idx : Nat) (y : Mi) (n : Nat) : Prop := (∃ host, Cond.methodLinkNest own idx y.1 host ∈ lw_tbl) ∧ Cond.code y.1 y.2.1 y.2.2.1 y.2.2.2 ∈ lwg ∧ Cond.initialized y.1.cls ∈ lwg ∧ (y.1.cls ≠ "java/lang/invoke/MethodHandle" ∧ y.1.cls ≠ "java/lang/invoke/VarHandle" ∧ (parseMethodDescriptor y.1.desc).map (fun d => d.parameters.length) = some n)
theorem wsY_good {y : Mi} (h : Cond.code y.1 y.2.1 y.2.2.1 y.2.2.2 ∈ lwg) : GoodIn lwg (wsY y) := by
  intro w hw
  have hm : w ∈ lwg := by
    rcases List.mem_cons.mp hw with e | e
    · rw [e]; exact h
    · exact e
  exact ⟨hm, good_of_word (List.mem_filter.mp hm).2⟩
theorem st_room (g : Cfg) (st : List AV) (h : st.length ≤ 8) : ((st.map (cv g)).map fun v => v.category).sum ≤ 8 := by
  have : ((st.map (cv g)).map fun v => v.category).sum = st.length := by
    clear h
    induction st with
    | nil => rfl
    | cons a r ih => simp only [List.map_cons, List.sum_cons, List.length_cons, cv_cat, ih]; omega
  omega
theorem PcM_blind (g : Cfg) (as : List AV) (M : Me) : FrameBlind (PcM g as M) := fun a U fr mk q => ⟨q.1, q.2.1, q.2.2.calling fr mk a⟩
theorem Cx.pre {K : Kx} {g : Cfg} {p : Program} {s : State} {m : MethodId} {args : Array Value} {meth : Method} {c : Code} {H : Heap} {locs : List Loc} {la : Array Slot} {ls : List (Option AV)} {M : Me} (C : Cx K g p s m args meth c H locs la ls M) (as : List AV) : ∀ U : State, U.heap = H → s.WarmedH U.vm → PcM g as M (as.map (cv g)).toArray U := by
  intro U hU hW
  refine ⟨rfl, by rw [hU]; exact C.2.2.2.2.2.1, C.2.2.2.1.moved hW (fun q h1 h2 => ?_)⟩
  rw [hU]
  exact C.2.2.2.2.2.2.1.2.1 q h1 h2
theorem CLs.args {as st : List AV} (h : CLs (as.reverse ++ st)) : CLs as ∧ CLs st := ⟨fun x hx => h x (List.mem_append_left _ (List.mem_reverse.mpr hx)), fun x hx => h x (List.mem_append_right _ hx)⟩
theorem a_callVi {K : Kx} {pc : Nat} {ls : List (Option AV)} {st : List AV} {M : Me} {idx d : Nat} {y : Mi} {ty : FieldType} (as : List AV) (hd : decode K.1.2.1 pc = .ok (.invokevirtual idx, 3)) (hc : COK K.1.1.cls idx y as.length) {o ci : Nat} {T : u_T} {N : Nat} {ss : List (Option Nat)} (hin : Cond.instanceMethod y.1 ∈ lwg) (hse : Cond.selects y.1.cls y.1 y.1 ∈ lwg) (ho : lay[o]? = some (.inr (ci, ss))) (hcl : vwCl[ci]? = some (y.1.cls, T, N)) (hr : y.2.2.2 = some ty) (hR : (rmd d).frames + 1 ≤ K.2.1.frames ∧ 8 + (y.2.2.1 + 11) + (rmd d).locals ≤ K.2.1.locals) (hf : K.2.2.1 ≤ K.2.1.cells ∧ K.2.2.2.1 ≤ K.2.1.slots) (h8 : st.length ≤ 8) (h : Calls d y (.inr o :: as) M (fun r M' => Go K (pc + 3) ls (.inl r :: st) M')) : Go K pc ls (as.reverse ++ .inr o :: st) M := by
  intro hM hl hs g p l e s m args below meth c H locs la C
  have hA := CLs.args (as := as) (st := .inr o :: st) hs
  have hAs : CLs (Sum.inr o :: as) := hA.1.consR
  have hst : CLs st := hA.2.tl
  have hM1 := h hM hAs g l
  rw [hr] at hM1
  have cb := callB_of (mc := 0) (ms := 0) (rm := rmd d) (R := K.2.1) as.length C.1.2.2.2.2 (wsY_good hc.2.1) (ws' := lwg) rfl rfl rfl (C.1.2.2.2.2 _ hc.2.2.1) (C.1.2.2.2.2 _ hc.1) hc.2.2.2 hR
  have hrun := va_runV (H := H) (cells := K.2.2.1) (slots := K.2.2.2.1) (g := F0 m pc la ((as.reverse ++ .inr o :: st).map (cv g))) (As := as.map (cv g)) (rest := st.map (cv g)) C.1 hM1 ⟨cb, C.1.2.2.2.2 _ hin, C.1.2.2.2.2 _ hse⟩ ⟨PcM_blind g _ M, va_recv C.2.2.2.1.1 C.2.2.2.2.2.1 hcl (ww_at g M ho), fun U hU hW => C.pre (.inr o :: as) U hU hW⟩ rfl (by simp) C.2.2.2.2.2.2.2.1 (by simp [cv]) (lv_room (st_room g st h8)) hd ⟨hf.1, hf.2⟩ (below := below) (meth := meth) (locs := locs) (e := e)
  refine va_calli (a := (Value.ref (cgA g o) :: as.map (cv g)).toArray) (A1 := Aw g) hrun C.2.2.2.2.2.2.1 (fun q _ h => h) (fun q h => h) ?_
  intro r u t H1 locs1 ht hvm hp hB hz hk hS1
  rw [ht] at hB
  obtain ⟨rfl, q1, q2, q3⟩ := hp
  exact q3 q2 hl (hst.consI q1) g p l e s m args below meth c H1 locs1 la ⟨C.1, C.2.1, C.2.2.1, C.2.2.2.1, C.2.2.2.2.1, hB, hS1, C.2.2.2.2.2.2.2⟩
theorem a_callVv {K : Kx} {pc : Nat} {ls : List (Option AV)} {st : List AV} {M : Me} {idx d : Nat} {y : Mi} (as : List AV) (hd : decode K.1.2.1 pc = .ok (.invokevirtual idx, 3)) (hc : COK K.1.1.cls idx y as.length) {o ci : Nat} {T : u_T} {N : Nat} {ss : List (Option Nat)} (hin : Cond.instanceMethod y.1 ∈ lwg) (hse : Cond.selects y.1.cls y.1 y.1 ∈ lwg) (ho : lay[o]? = some (.inr (ci, ss))) (hcl : vwCl[ci]? = some (y.1.cls, T, N)) (hr : y.2.2.2 = none) (hR : (rmd d).frames + 1 ≤ K.2.1.frames ∧ 8 + (y.2.2.1 + 11) + (rmd d).locals ≤ K.2.1.locals) (hf : K.2.2.1 ≤ K.2.1.cells ∧ K.2.2.2.1 ≤ K.2.1.slots) (h8 : st.length ≤ 8) (h : Calls d y (.inr o :: as) M (fun r M' => Go K (pc + 3) ls st M')) : Go K pc ls (as.reverse ++ .inr o :: st) M := by
  intro hM hl hs g p l e s m args below meth c H locs la C
  have hA := CLs.args (as := as) (st := .inr o :: st) hs
  have hAs : CLs (Sum.inr o :: as) := hA.1.consR
  have hst : CLs st := hA.2.tl
  have hM1 := h hM hAs g l
  rw [hr] at hM1
  have cb := callB_of (mc := 0) (ms := 0) (rm := rmd d) (R := K.2.1) as.length C.1.2.2.2.2 (wsY_good hc.2.1) (ws' := lwg) rfl rfl rfl (C.1.2.2.2.2 _ hc.2.2.1) (C.1.2.2.2.2 _ hc.1) hc.2.2.2 hR
  have hrun := va_runV (H := H) (cells := K.2.2.1) (slots := K.2.2.2.1) (g := F0 m pc la ((as.reverse ++ .inr o :: st).map (cv g))) (As := as.map (cv g)) (rest := st.map (cv g)) C.1 hM1 ⟨cb, C.1.2.2.2.2 _ hin, C.1.2.2.2.2 _ hse⟩ ⟨PcM_blind g _ M, va_recv C.2.2.2.1.1 C.2.2.2.2.2.1 hcl (ww_at g M ho), fun U hU hW => C.pre (.inr o :: as) U hU hW⟩ rfl (by simp) C.2.2.2.2.2.2.2.1 (by simp [cv]) (lv_room (st_room g st h8)) hd ⟨hf.1, hf.2⟩ (below := below) (meth := meth) (locs := locs) (e := e)
  refine va_callv (a := (Value.ref (cgA g o) :: as.map (cv g)).toArray) (A1 := Aw g) hrun C.2.2.2.2.2.2.1 (fun q _ h => h) (fun q h => h) ?_
  intro u t H1 locs1 ht hvm hp hB hz hk hS1
  rw [ht] at hB
  exact hp.2 hp.1 hl hst g p l e s m args below meth c H1 locs1 la ⟨C.1, C.2.1, C.2.2.1, C.2.2.2.1, C.2.2.2.2.1, hB, hS1, C.2.2.2.2.2.2.2⟩
theorem a_callSi {K : Kx} {pc : Nat} {ls : List (Option AV)} {st : List AV} {M : Me} {idx d : Nat} {y : Mi} {ty : FieldType} (as : List AV) (hd : decode K.1.2.1 pc = .ok (.invokestatic idx, 3)) (hc : COK K.1.1.cls idx y as.length) (hsta : Cond.static y.1 ∈ lwg) (hr : y.2.2.2 = some ty) (hR : (rmd d).frames + 1 ≤ K.2.1.frames ∧ 8 + (y.2.2.1 + 11) + (rmd d).locals ≤ K.2.1.locals) (hf : K.2.2.1 ≤ K.2.1.cells ∧ K.2.2.2.1 ≤ K.2.1.slots) (h8 : st.length ≤ 8) (h : Calls d y as M (fun r M' => Go K (pc + 3) ls (.inl r :: st) M')) : Go K pc ls (as.reverse ++ st) M := by
  intro hM hl hs g p l e s m args below meth c H locs la C
  have hA := CLs.args (as := as) (st := st) hs
  have hAs : CLs as := hA.1
  have hst : CLs st := hA.2
  have hM1 := h hM hAs g l
  rw [hr] at hM1
  have cb := callB_of (mc := 0) (ms := 0) (rm := rmd d) (R := K.2.1) as.length C.1.2.2.2.2 (wsY_good hc.2.1) (ws' := lwg) rfl rfl rfl (C.1.2.2.2.2 _ hc.2.2.1) (C.1.2.2.2.2 _ hc.1) hc.2.2.2 hR
  have hrun := va_runS (H := H) (cells := K.2.2.1) (slots := K.2.2.2.1) (g := F0 m pc la ((as.reverse ++ st).map (cv g))) (As := as.map (cv g)) (rest := st.map (cv g)) C.1 hM1 ⟨cb, C.1.2.2.2.2 _ hsta⟩ ⟨PcM_blind g _ M, fun U hU hW => C.pre as U hU hW⟩ rfl (by simp) C.2.2.2.2.2.2.2.1 (by simp [cv]) (lv_room (st_room g st h8)) hd ⟨hf.1, hf.2⟩ (below := below) (meth := meth) (locs := locs) (e := e)
  refine va_calli (a := (as.map (cv g)).toArray) (A1 := Aw g) hrun C.2.2.2.2.2.2.1 (fun q _ h => h) (fun q h => h) ?_
  intro r u t H1 locs1 ht hvm hp hB hz hk hS1
  rw [ht] at hB
  obtain ⟨rfl, q1, q2, q3⟩ := hp
  exact q3 q2 hl (hst.consI q1) g p l e s m args below meth c H1 locs1 la ⟨C.1, C.2.1, C.2.2.1, C.2.2.2.1, C.2.2.2.2.1, hB, hS1, C.2.2.2.2.2.2.2⟩
theorem a_callSv {K : Kx} {pc : Nat} {ls : List (Option AV)} {st : List AV} {M : Me} {idx d : Nat} {y : Mi} (as : List AV) (hd : decode K.1.2.1 pc = .ok (.invokestatic idx, 3)) (hc : COK K.1.1.cls idx y as.length) (hsta : Cond.static y.1 ∈ lwg) (hr : y.2.2.2 = none) (hR : (rmd d).frames + 1 ≤ K.2.1.frames ∧ 8 + (y.2.2.1 + 11) + (rmd d).locals ≤ K.2.1.locals) (hf : K.2.2.1 ≤ K.2.1.cells ∧ K.2.2.2.1 ≤ K.2.1.slots) (h8 : st.length ≤ 8) (h : Calls d y as M (fun r M' => Go K (pc + 3) ls st M')) : Go K pc ls (as.reverse ++ st) M := by
  intro hM hl hs g p l e s m args below meth c H locs la C
  have hA := CLs.args (as := as) (st := st) hs
  have hAs : CLs as := hA.1
  have hst : CLs st := hA.2
  have hM1 := h hM hAs g l
  rw [hr] at hM1
  have cb := callB_of (mc := 0) (ms := 0) (rm := rmd d) (R := K.2.1) as.length C.1.2.2.2.2 (wsY_good hc.2.1) (ws' := lwg) rfl rfl rfl (C.1.2.2.2.2 _ hc.2.2.1) (C.1.2.2.2.2 _ hc.1) hc.2.2.2 hR
  have hrun := va_runS (H := H) (cells := K.2.2.1) (slots := K.2.2.2.1) (g := F0 m pc la ((as.reverse ++ st).map (cv g))) (As := as.map (cv g)) (rest := st.map (cv g)) C.1 hM1 ⟨cb, C.1.2.2.2.2 _ hsta⟩ ⟨PcM_blind g _ M, fun U hU hW => C.pre as U hU hW⟩ rfl (by simp) C.2.2.2.2.2.2.2.1 (by simp [cv]) (lv_room (st_room g st h8)) hd ⟨hf.1, hf.2⟩ (below := below) (meth := meth) (locs := locs) (e := e)
  refine va_callv (a := (as.map (cv g)).toArray) (A1 := Aw g) hrun C.2.2.2.2.2.2.1 (fun q _ h => h) (fun q h => h) ?_
  intro u t H1 locs1 ht hvm hp hB hz hk hS1
  rw [ht] at hB
  exact hp.2 hp.1 hl hst g p l e s m args below meth c H1 locs1 la ⟨C.1, C.2.1, C.2.2.1, C.2.2.2.1, C.2.2.2.2.1, hB, hS1, C.2.2.2.2.2.2.2⟩
theorem a_callNi {K : Kx} {pc : Nat} {ls : List (Option AV)} {st : List AV} {M : Me} {idx d : Nat} {y : Mi} {ty : FieldType} (as : List AV) (hd : decode K.1.2.1 pc = .ok (.invokestatic idx, 3)) (hc : COKN K.1.1.cls idx y as.length) (hsta : Cond.static y.1 ∈ lwg) (hr : y.2.2.2 = some ty) (hR : (rmd d).frames + 1 ≤ K.2.1.frames ∧ 8 + (y.2.2.1 + 11) + (rmd d).locals ≤ K.2.1.locals) (hf : K.2.2.1 ≤ K.2.1.cells ∧ K.2.2.2.1 ≤ K.2.1.slots) (h8 : st.length ≤ 8) (h : Calls d y as M (fun r M' => Go K (pc + 3) ls (.inl r :: st) M')) : Go K pc ls (as.reverse ++ st) M := by
  intro hM hl hs g p l e s m args below meth c H locs la C
  have hA := CLs.args (as := as) (st := st) hs
  have hAs : CLs as := hA.1
  have hst : CLs st := hA.2
  have hM1 := h hM hAs g l
  rw [hr] at hM1
  obtain ⟨host, hlk⟩ := hc.1
  have hNw : va_Nw (.methodLinkNest K.1.1.cls idx y.1 host) s := C.2.2.2.1.2.2.1 _ hlk rfl
  have cb := va_cnB (mc := 0) (ms := 0) (rm := rmd d) (R := K.2.1) as.length C.1.2.2.2.2 (wsY_good hc.2.1) (ws' := lwg) rfl rfl rfl hNw (C.1.2.2.2.2 _ hc.2.2.1) hc.2.2.2 hR
  have hrun := va_runSN (H := H) (cells := K.2.2.1) (slots := K.2.2.2.1) (g := F0 m pc la ((as.reverse ++ st).map (cv g))) (As := as.map (cv g)) (rest := st.map (cv g)) C.1 hM1 ⟨cb, C.1.2.2.2.2 _ hsta, trivial⟩ ⟨PcM_blind g _ M, fun U hU hW => C.pre as U hU hW⟩ rfl (by simp) C.2.2.2.2.2.2.2.1 (by simp [cv]) (lv_room (st_room g st h8)) hd ⟨hf.1, hf.2⟩ (below := below) (meth := meth) (locs := locs) (e := e)
  refine va_calli (a := (as.map (cv g)).toArray) (A1 := Aw g) hrun C.2.2.2.2.2.2.1 (fun q _ h => h) (fun q h => h) ?_
  intro r u t H1 locs1 ht hvm hp hB hz hk hS1
  rw [ht] at hB
  obtain ⟨rfl, q1, q2, q3⟩ := hp
  exact q3 q2 hl (hst.consI q1) g p l e s m args below meth c H1 locs1 la ⟨C.1, C.2.1, C.2.2.1, C.2.2.2.1, C.2.2.2.2.1, hB, hS1, C.2.2.2.2.2.2.2⟩
theorem a_mmax {K : Kx} {pc : Nat} {ls : List (Option AV)} {st : List AV} {M : Me} {idx : Nat} {x y : Int} (hd : decode K.1.2.1 pc = .ok (.invokestatic idx, 3)) (hlk : Cond.methodLink K.1.1.cls idx Lib.Math.max.name ∈ lwg) (hsta : Cond.static Lib.Math.max.name ∈ lwg) (hini : Cond.initialized "java/lang/Math" ∈ lwg) (hco : Cond.code Lib.Math.max.name Lib.Math.max.code 2 (some .int) ∈ lwg) (hR : 1 ≤ K.2.1.frames ∧ 21 ≤ K.2.1.locals) (hf : K.2.2.1 ≤ K.2.1.cells ∧ K.2.2.2.1 ≤ K.2.1.slots) (h8 : st.length ≤ 8) (k : Go K (pc + 3) ls (.inl (max x y) :: st) M) : Go K pc ls (.inl y :: .inl x :: st) M := by
  intro hM hl hs g p l e s m args below meth c H locs la C
  have hx := hs.tl.hd
  have hy := hs.hd
  have h9 := st_room g st h8
  refine va_mmax C.1.1 C.1.2.1 (C.1.2.2.1.trans C.2.2.2.2.2.2.2.1.symm) C.1.2.2.2.1 (C.1.2.2.2.2 _ hlk) (C.1.2.2.2.2 _ hsta) (C.1.2.2.2.2 _ hini) (C.1.2.2.2.2 _ hco) hR.1 (by omega) hf.1 hf.2 hd ?_
  have h := k hM hl (hs.tl.tl.consI (by unfold cn at hx hy ⊢; omega)) g p l e s m args below meth c H locs la C
  simp only [cn_lt hx hy, cn_lt hy hx, cn_le hx hy, cn_le hy hx] at *
  simp only [List.map_cons, cv] at h
  first
    | (rw [← apply_ite Int32.ofInt]; rw [show (if x < y then y else x) = max x y by omega]; exact h)
    | (rw [← apply_ite Int32.ofInt]; rw [show (if x < y then x else y) = max x y by omega]; exact h)
    | (rw [← apply_ite Int32.ofInt]; rw [show (if y < x then x else y) = max x y by omega]; exact h)
    | (rw [← apply_ite Int32.ofInt]; rw [show (if y < x then y else x) = max x y by omega]; exact h)
    | (rw [← apply_ite Int32.ofInt]; rw [show (if x ≤ y then x else y) = max x y by omega]; exact h)
    | (rw [← apply_ite Int32.ofInt]; rw [show (if y ≤ x then x else y) = max x y by omega]; exact h)
theorem a_mmin {K : Kx} {pc : Nat} {ls : List (Option AV)} {st : List AV} {M : Me} {idx : Nat} {x y : Int} (hd : decode K.1.2.1 pc = .ok (.invokestatic idx, 3)) (hlk : Cond.methodLink K.1.1.cls idx Lib.Math.min.name ∈ lwg) (hsta : Cond.static Lib.Math.min.name ∈ lwg) (hini : Cond.initialized "java/lang/Math" ∈ lwg) (hco : Cond.code Lib.Math.min.name Lib.Math.min.code 2 (some .int) ∈ lwg) (hR : 1 ≤ K.2.1.frames ∧ 21 ≤ K.2.1.locals) (hf : K.2.2.1 ≤ K.2.1.cells ∧ K.2.2.2.1 ≤ K.2.1.slots) (h8 : st.length ≤ 8) (k : Go K (pc + 3) ls (.inl (min x y) :: st) M) : Go K pc ls (.inl y :: .inl x :: st) M := by
  intro hM hl hs g p l e s m args below meth c H locs la C
  have hx := hs.tl.hd
  have hy := hs.hd
  have h9 := st_room g st h8
  refine va_mmin C.1.1 C.1.2.1 (C.1.2.2.1.trans C.2.2.2.2.2.2.2.1.symm) C.1.2.2.2.1 (C.1.2.2.2.2 _ hlk) (C.1.2.2.2.2 _ hsta) (C.1.2.2.2.2 _ hini) (C.1.2.2.2.2 _ hco) hR.1 (by omega) hf.1 hf.2 hd ?_
  have h := k hM hl (hs.tl.tl.consI (by unfold cn at hx hy ⊢; omega)) g p l e s m args below meth c H locs la C
  simp only [cn_lt hx hy, cn_lt hy hx, cn_le hx hy, cn_le hy hx] at *
  simp only [List.map_cons, cv] at h
  first
    | (rw [← apply_ite Int32.ofInt]; rw [show (if x < y then y else x) = min x y by omega]; exact h)
    | (rw [← apply_ite Int32.ofInt]; rw [show (if x < y then x else y) = min x y by omega]; exact h)
    | (rw [← apply_ite Int32.ofInt]; rw [show (if y < x then x else y) = min x y by omega]; exact h)
    | (rw [← apply_ite Int32.ofInt]; rw [show (if y < x then y else x) = min x y by omega]; exact h)
    | (rw [← apply_ite Int32.ofInt]; rw [show (if x ≤ y then x else y) = min x y by omega]; exact h)
    | (rw [← apply_ite Int32.ofInt]; rw [show (if y ≤ x then x else y) = min x y by omega]; exact h)
