/-! ===== the law's own frame ===== -/
def lw_P (b : Addr) (xs : List Int32) (args : Array Value) (s : State) : Prop := args = #[.ref b] ∧ s.IntsAt b xs ∧ xs.length ≤ 3072 ∧ (Jvm.Cond.and given_1 narrow_1).before args s = true
def lw_Q (_ : Array Value) (s : State) (o : Outcome) (t : State) : Prop := o = .returned (some (.int 1)) ∧ Framed s o t [] 600000 7302250
def lw_Z (below : List Frame) (a : Array Value) (s : State) : State → Prop := fun t => ∃ o, t.status = .running ∧ Ended t below o ∧ lw_Q a s o t
def R_law : String := "GrownInitialsLaw"
theorem lw_ret {p : Program} {l : Launch} {e : Env} {s : State} {m : MethodId} {below : List Frame} {meth : Method} {c : Code} {b : Nat} (hx : p.tables.exec = Jvm.exec) (hb : c.code = code) (hr : meth.sig.returnType = ret) (hlocks : meth.locks = false) {pc : Nat} {H : Heap} {ls : Array Slot} (hdg : decode code pc = .ok (.ireturn, 1)) : W p l e room_1 s m #[Value.ref b] below meth c H [] 600000 7302250 (lw_Z below #[Value.ref b] s) (F0 m pc ls [.int 1]) := by
  intro T hT X
  obtain ⟨fs, hret, hrun, hended, hW, hframe⟩ := X.leave (v := some (.int 1)) (hlocks := hlocks) (fun h => by rw [hr] at h; cases h)
  have hmeth' : T.vm.method? m = some meth := X.method'
  refine ⟨T.setFrames fs, ?_, .returned (some (.int 1)), hrun, hended, rfl, ⟨_, rfl⟩, hW, hframe⟩
  jvm_step X.here [X.here.top, hx, hb, hdg, hmeth', hr, ret, narrow_b1]
  (try refine ⟨rfl, ?_⟩); (try refine ⟨rfl, ?_⟩)
  first | (intro acts; rw [hret _ acts rfl rfl rfl]) | rw [hret _ _ rfl rfl rfl]
  exact Steps.refl _
def lw_At (p : Program) (s : State) (m : MethodId) (meth : Method) (c : Code) (b L : Nat) (xs : Nat → Int32) : Prop :=
  p.tables.exec = Jvm.exec ∧ c.code = code ∧ meth.sig.returnType = ret ∧ c.maxLocals = 4 ∧ s.vm.findClass R_law = some m.cls ∧ (∀ w ∈ lw_tbl, w.before #[Value.ref b] s = true) ∧ va_X b L xs s s.heap ∧ b < s.heap.size ∧ meth.locks = false ∧ (Jvm.Cond.and given_1 narrow_1).before #[Value.ref b] s = true
def sx (xs : Nat → Int32) (i : Int) : Int := (xs i.toNat).toInt
def KL (b L : Nat) (xs : Nat → Int32) : Kx := ((yL_law, code, 4, ret), room_1, 124, 14694, (fun _ below args s => lw_Z below args s), (fun g args s => args = #[Value.ref b] ∧ va_X b L xs s s.heap ∧ b < s.heap.size ∧ ¬ Aw g b ∧ cgA g 1003 = b ∧ ∀ k, k < 124 → s.heap.size ≤ cgA g k))
theorem a_lsld {b L : Nat} {xs : Nat → Int32} {pc : Nat} {ls : List (Option AV)} {st : List AV} {M : Me} {i : Int} (hd : decode (KL b L xs).1.2.1 pc = .ok (.iaload, 1)) (h0 : 0 ≤ i) (h1 : i < (L : Int)) (k : Go (KL b L xs) (pc + 1) ls (.inl (sx xs i) :: st) M) : Go (KL b L xs) pc ls (.inl i :: .inr 1003 :: st) M := by
  intro hM hl hs g p l e s m args below meth c H locs la C
  obtain ⟨x1, x2, x3, x4, x5, x6⟩ := C.2.2.2.2.1
  have r := k hM hl (hs.tl.tl.consI (cn_of32 _)) g p l e s m args below meth c H locs la C
  simp only [List.map_cons, cv, sx, ofInt_of32] at r
  simp only [List.map_cons, cv, x5]
  refine va_sld C.1.1 C.1.2.1 x2 x3 x4 C.2.2.2.2.2.2.1 (cn_in hs.hd h0 h1) hd ?_
  rw [cn_clamp hs.hd]
  exact r
theorem a_lslen {b L : Nat} {xs : Nat → Int32} {pc : Nat} {ls : List (Option AV)} {st : List AV} {M : Me} (hL : L ≤ 3072) (hd : decode (KL b L xs).1.2.1 pc = .ok (.arraylength, 1)) (k : Go (KL b L xs) (pc + 1) ls (.inl (L : Int) :: st) M) : Go (KL b L xs) pc ls (.inr 1003 :: st) M := by
  intro hM hl hs g p l e s m args below meth c H locs la C
  obtain ⟨x1, x2, x3, x4, x5, x6⟩ := C.2.2.2.2.1
  have r := k hM hl (hs.tl.consI (by unfold cn; omega)) g p l e s m args below meth c H locs la C
  simp only [List.map_cons, cv] at r
  simp only [List.map_cons, cv, x5]
  exact va_slen C.1.1 C.1.2.1 x2 x3 x4 C.2.2.2.2.2.2.1 hd r
theorem a_lret {b L : Nat} {xs : Nat → Int32} {pc : Nat} {ls : List (Option AV)} {x : Int} {M : Me} (hd : decode (KL b L xs).1.2.1 pc = .ok (.ireturn, 1)) (hx : x = 1) : Go (KL b L xs) pc ls [.inl x] M := by
  intro hM hl hs g p l e s m args below meth c H locs la C
  obtain ⟨x1, x2, x3, x4, x5, x6⟩ := C.2.2.2.2.1
  subst hx
  subst x1
  refine va_forget (fun q hq => ?_) (W.widen (k := 600000) (n := 7302250) (Nat.le_of_ble_eq_true rfl) (Nat.le_of_ble_eq_true rfl) (lw_ret C.1.1 C.1.2.1 C.2.1 C.2.2.1 hd))
  obtain ⟨k, k1, k2⟩ := C.2.2.2.2.2.2.1.2.2 q hq
  rw [k2]
  exact x6 k k1
