/-! ===== what is known of the machine's tables, and the judgements ===== -/
def lbytes : List Int32 := [99, 115, 109, 104, 108, 97, 107, 100, 110, 116, 119]
def StrK (g : Cfg) (s : State) : Prop := vk_R "GrownInitials$LawReader" 99 "csmhlakdntw" (cgA g 1001) s ∧ vk_S 1 [11] [lbytes] (fun _ => cgA g 1001) (fun _ => cgA g 1002) (Aw g) s s.heap ∧ va_Z "java/lang/String" "COMPACT_STRINGS" "Z" (.int 1) (Aw g) s s.heap
def lwg : List Cond := lw_tbl.filter goodWord
theorem lwg_of {w : Cond} (h : w ∈ lw_tbl) (hg : goodWord w = true) : w ∈ lwg := List.mem_filter.mpr ⟨h, hg⟩
theorem lwg_in {w : Cond} (h : w ∈ lwg) : w ∈ lw_tbl := (List.mem_filter.mp h).1
def isNest : Cond → Bool
  | .fieldLinkNest .. => true
  | .methodLinkNest .. => true
  | _ => false
def NestK (s : State) : Prop := ∀ w ∈ lw_tbl, isNest w = true → va_Nw w s
theorem NestK.warm {s U : State} (h : NestK s) (hW : s.WarmedH U.vm) : NestK U := by
  intro w hw hn
  have h1 := h w hw hn
  unfold isNest at hn
  split at hn
  · exact va_Nw.warmF hW h1
  · exact va_Nw.warmM hW h1
  · cases hn
theorem NestK.same {s U : State} (h : NestK s) (hv : s.vm = U.vm) : NestK U := by
  intro w hw hn
  have h1 := h w hw hn
  unfold isNest at hn
  split at hn
  · exact va_Nw.same rfl hv h1
  · exact va_Nw.same rfl hv h1
  · cases hn
def tysG (g : Cfg) : List (ClassId × FieldType) := [(g.2.1, .int), (g.2.2.1, .byte)]
def St0 (g : Cfg) (s : State) : Prop := va_K g.1 vwCl (tysG g) s ∧ (∀ i j, i < 124 → j < 124 → cgA g i = cgA g j → i = j) ∧ NestK s ∧ StrK g s
theorem St0.moved {g : Cfg} {s U : State} (h : St0 g s) (hW : s.WarmedH U.vm) (hk : ∀ q : Nat, q < s.heap.size → ¬ Aw g q → U.heap[q]? = s.heap[q]?) : St0 g U := by
  obtain ⟨h1, h2, hn, h3, h4, h5⟩ := h
  exact ⟨va_K.moved hW.alike h1, h2, hn.warm hW, vk_R.warm hW h3, (vk_S.moved hW.alike h4).kept hk, (va_Z.moved hW.alike h5).kept hk⟩
theorem St0.calling {g : Cfg} {U : State} (h : St0 g U) (fr : JFrame) (mk : MethodId) (a : Array Value) : St0 g (U.calling fr mk a) := by
  obtain ⟨h1, h2, hn, h3, h4, h5⟩ := h
  exact ⟨va_K.moved (u := U) (U := U.calling fr mk a) (Vm.Alike.refl U.vm) h1, h2, hn.same rfl, vk_R.same (u := U) rfl h3, vk_S.moved (u := U) (U := U.calling fr mk a) (Vm.Alike.refl U.vm) h4, va_Z.moved (u := U) (U := U.calling fr mk a) (Vm.Alike.refl U.vm) h5⟩
abbrev Mi : Type := MethodName × ByteArray × Nat × Option FieldType
abbrev Kx : Type := Mi × Room × Nat × Nat × (Cfg → List Frame → Array Value → State → State → Prop) × (Cfg → Array Value → State → Prop)
def CLs (st : List AV) : Prop := ∀ x : Int, Sum.inl x ∈ st → cn x
def CLl (ls : List (Option AV)) : Prop := ∀ (j : Nat) (x : Int), ls[j]? = some (some (.inl x)) → cn x
theorem CLs.consI {st : List AV} (h : CLs st) {x : Int} (hx : cn x) : CLs (.inl x :: st) := by
  intro y hy
  rcases List.mem_cons.mp hy with e | e
  · cases e; exact hx
  · exact h y e
theorem CLs.consR {st : List AV} (h : CLs st) {k : Nat} : CLs (.inr k :: st) := by
  intro y hy
  rcases List.mem_cons.mp hy with e | e
  · cases e
  · exact h y e
theorem CLs.tl {st : List AV} {v : AV} (h : CLs (v :: st)) : CLs st := fun y hy => h y (List.mem_cons_of_mem _ hy)
theorem CLs.hd {st : List AV} {x : Int} (h : CLs (.inl x :: st)) : cn x := h x List.mem_cons_self
theorem CLl.put {ls : List (Option AV)} (h : CLl ls) {i : Nat} {v : AV} (hv : ∀ x, v = .inl x → cn x) : CLl (ls.set i (some v)) := by
  intro j x hj
  by_cases e : j = i
  · subst e
    by_cases hl : j < ls.length
    · rw [List.getElem?_set_self hl] at hj
      simp only [Option.some.injEq] at hj
      exact hv x hj
    · rw [List.getElem?_eq_none (by simpa using hl)] at hj
      cases hj
  · rw [List.getElem?_set_ne (fun q => e q.symm)] at hj
    exact h j x hj
def Cx (K : Kx) (g : Cfg) (p : Program) (s : State) (m : MethodId) (args : Array Value) (meth : Method) (c : Code) (H : Heap) (locs : List Loc) (la : Array Slot) (ls : List (Option AV)) (M : Me) : Prop :=
  CallFix p m c K.1.2.1 K.1.2.2.1 s args lwg K.1.1.cls ∧ meth.sig.returnType = K.1.2.2.2 ∧ meth.locks = false ∧ St0 g s ∧ K.2.2.2.2.2 g args s ∧ va_P g.1 vwCl (ww g M) H ∧ va_S (Aw g) s.heap H locs ∧ lvh g la K.1.2.2.1 ls
def Go (K : Kx) (pc : Nat) (ls : List (Option AV)) (st : List AV) (M : Me) : Prop :=
  CM M → CLl ls → CLs st → ∀ (g : Cfg) (p : Program) (l : Launch) (e : Env) (s : State) (m : MethodId) (args : Array Value) (below : List Frame) (meth : Method) (c : Code) (H : Heap) (locs : List Loc) (la : Array Slot),
    Cx K g p s m args meth c H locs la ls M → W p l e K.2.1 s m args below meth c H locs K.2.2.1 K.2.2.2.1 (K.2.2.2.2.1 g below args s) (F0 m pc la (st.map (cv g)))
/-! ===== contracts ===== -/
def PcM (g : Cfg) (as : List AV) (M : Me) : Array Value → State → Prop := va_Pc (as.map (cv g)) (fun U => va_P g.1 vwCl (ww g M) U.heap ∧ St0 g U)
def QxM (g : Cfg) (ret : Option FieldType) (Q : Int → Me → Prop) : Array Value → State → Outcome → State → Prop := match ret with
  | none => va_Qv (fun u : Me => CM u ∧ Q 0 u) (fun u t => va_P g.1 vwCl (ww g u) t.heap) (Aw g)
  | some _ => va_Qi (fun r (u : Int × Me) => r = Int32.ofInt u.1 ∧ cn u.1 ∧ CM u.2 ∧ Q u.1 u.2) (fun u t => va_P g.1 vwCl (ww g u.2) t.heap) (Aw g)
def rmd (d : Nat) : Room := { frames := d, cells := 0, slots := 0, locals := 64 * d }
def wsY (y : Mi) : List Cond := .code y.1 y.2.1 y.2.2.1 y.2.2.2 :: lwg
def Calls (d : Nat) (y : Mi) (as : List AV) (M : Me) (Q : Int → Me → Prop) : Prop :=
  CM M → CLs as → ∀ (g : Cfg) (l : Launch), Met l y.1 (wsY y) (rmd d) (PcM g as M) (QxM g y.2.2.2 Q) 0 0 (Aw g)
def km (d : Nat) (y : Mi) (Q : Int → Me → Prop) : Kx := (y, rmd d, 0, 0, (fun g below args s => MQ below (QxM g y.2.2.2 Q) args s 0 0 (Aw g)), (fun _ _ _ => True))
theorem Calls.of {d : Nat} {y : Mi} {as : List AV} {M : Me} {Q : Int → Me → Prop} (hp : plainName y.1.cls = true) (hn : as.length ≤ y.2.2.1) (h : Go (km d y Q) 0 (as.map some ++ List.replicate (y.2.2.1 - as.length) none) [] M) : Calls d y as M Q := by
  intro hM hA g l
  refine Met.ofW (cc := y.2.1) (maxL := y.2.2.1) (ret := y.2.2.2) (ws' := lwg) hp rfl ?_
  intro p e s m args below meth c s₁ B hml hv
  obtain ⟨rfl, hP, hS0⟩ := hv
  have hts := atoms_spec (ws := wsY y) B.pre
  have hown := findClass_of_methodNamed B.named
  rw [lg_entry_eq]
  refine h hM ?_ (fun x hx => by cases hx) g p l e s m _ below meth c s.heap [] _ ⟨⟨B.exec, B.bytes, hml, hown, fun w hw => hts w (List.mem_cons_of_mem _ hw)⟩, B.returns, B.notSynchronized, hS0, trivial, hP, va_S.rf, lvh.entry g as hn⟩
  intro j x hj
  refine hA x ?_
  by_cases hl : j < as.length
  · rw [List.getElem?_append_left (by simpa using hl)] at hj
    exact List.mem_of_getElem? (by simpa using hj)
  · rw [List.getElem?_append_right (by simpa using hl)] at hj
    simp [List.getElem?_replicate] at hj
theorem Go.known {K : Kx} {pc : Nat} {ls : List (Option AV)} {st : List AV} {M : Me} (h : CM M → CLl ls → CLs st → Go K pc ls st M) : Go K pc ls st M := fun a b c => h a b c a b c
theorem Calls.known {d : Nat} {y : Mi} {as : List AV} {M : Me} {Q : Int → Me → Prop} (h : CM M → CLs as → Calls d y as M Q) : Calls d y as M Q := fun a b => h a b a b
