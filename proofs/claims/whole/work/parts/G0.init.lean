/-! ===== constructors: a world that grows ===== -/
abbrev SV : Type := Nat ⊕ Value
def sv (q : Nat → Nat) (x : SV) : Value := match x with
  | .inl j => .ref (q j)
  | .inr v => v
def wq (q : Nat → Nat) (es : List va_E) : va_W := es.mapIdx (fun i e => (q i, e))
theorem wq_at (q : Nat → Nat) (es : List va_E) (i : Nat) : (wq q es)[i]? = (es[i]?).map (fun e => (q i, e)) := by simp [wq, List.getElem?_mapIdx]
theorem wq_len (q : Nat → Nat) (es : List va_E) : (wq q es).length = es.length := by simp [wq]
theorem wq_app {q1 q q2 : Nat → Nat} {es es2 : List va_E} {n : Nat} (hl : es.length = n) (h1 : ∀ i, i < n → q1 i = q i) (h2 : ∀ i, i < es2.length → q1 (n + i) = q2 i) : wq q1 (es ++ es2) = wq q es ++ wq q2 es2 := by
  apply List.ext_getElem?
  intro i
  rw [wq_at]
  by_cases h : i < n
  · rw [List.getElem?_append_left (by omega), List.getElem?_append_left (by rw [wq_len]; omega), wq_at, h1 i h]
  · rw [List.getElem?_append_right (by omega), List.getElem?_append_right (by rw [wq_len]; omega), wq_at, wq_len, hl]
    by_cases h3 : i - n < es2.length
    · have := h2 (i - n) h3
      rw [show n + (i - n) = i by omega] at this
      rw [this]
    · rw [List.getElem?_eq_none (by omega)]; rfl
theorem wq_set0 (q : Nat → Nat) (e e' : va_E) (r : List va_E) : (wq q (e :: r)).set 0 (q 0, e') = wq q (e' :: r) := by simp [wq, List.mapIdx_cons]
theorem wq_set1 (q : Nat → Nat) (e e' : va_E) (r : List va_E) : (wq q (e :: r)).set 1 (q 1, e') = wq q (e :: r.set 0 e') := by
  cases r with
  | nil => simp [wq, List.mapIdx_cons]
  | cons a r => simp [wq, List.mapIdx_cons]
abbrev ty2 (cI cB : ClassId) : List (ClassId × FieldType) := [(cI, .int), (cB, .byte)]
def AI (h0 sz ci : Nat) (d : List Value) : Nat → Prop := va_A [(h0, .inr (ci, d))] sz
def PI (D : va_G) (cI cB : ClassId) (h0 sz ci : Nat) (d as : List Value) : Array Value → State → Prop := va_Pc (.ref h0 :: as) (fun U => U.heap.size = sz ∧ va_P D vwCl [(h0, .inr (ci, d))] U.heap ∧ va_K D vwCl (ty2 cI cB) U)
def QI (D : va_G) (h0 sz ci : Nat) (d : List Value) (E : (Nat → Nat) → List va_E) : Array Value → State → Outcome → State → Prop := va_Qv (fun q : Nat → Nat => q 0 = h0) (fun q t => va_P D vwCl (wq q (E q)) t.heap ∧ va_D (AI h0 sz ci d) (wq q (E q))) (AI h0 sz ci d)
def rmi (dp mc ms : Nat) : Room := { frames := dp, cells := mc, slots := ms, locals := 64 * dp }
def InitC (dp mc ms : Nat) (y : Mi) (ci : Nat) (d as : List Value) (D : va_G) (cI cB : ClassId) (E : (Nat → Nat) → List va_E) : Prop := ∀ (l : Launch) (h0 sz : Nat), Met l y.1 (wsY y) (rmi dp mc ms) (PI D cI cB h0 sz ci d as) (QI D h0 sz ci d E) mc ms (AI h0 sz ci d)
abbrev KI : Type := Mi × Room × va_G × (ClassId × ClassId) × (Nat × Nat × Nat) × (List Value × List Value) × ((Nat → Nat) → List va_E) × Nat × Nat
def GIn (K : KI) (pc : Nat) (st : List SV) (n : Nat) (fs : (Nat → Nat) → List Value) (rest : (Nat → Nat) → List va_E) (cl sl : Nat) : Prop :=
  (∀ q q' : Nat → Nat, (∀ i, i < n → q i = q' i) → fs q = fs q' ∧ rest q = rest q') → (∀ q, (rest q).length + 1 = n) → (∀ q, (fs q).length = K.2.2.2.2.2.1.1.length) → (∀ j, Sum.inl j ∈ st → j < n) →
  ∀ (q : Nat → Nat) (p : Program) (l : Launch) (e : Env) (s : State) (m : MethodId) (args : Array Value) (below : List Frame) (meth : Method) (c : Code) (H : Heap) (locs : List Loc) (la : Array Slot),
    q 0 = K.2.2.2.2.1.2.1 → CallFix p m c K.1.2.1 K.1.2.2.1 s args lwg K.1.1.cls → meth.sig.returnType = none → meth.locks = false → meth.name = "<init>" → s.heap.size = K.2.2.2.2.1.2.2 → va_K K.2.2.1 vwCl (ty2 K.2.2.2.1.1 K.2.2.2.1.2) s →
    va_P K.2.2.1 vwCl (wq q (.inr (K.2.2.2.2.1.1, fs q) :: rest q)) H → va_D (AI K.2.2.2.2.1.2.1 K.2.2.2.2.1.2.2 K.2.2.2.2.1.1 K.2.2.2.2.2.1.1) (wq q (.inr (K.2.2.2.2.1.1, fs q) :: rest q)) → va_S (AI K.2.2.2.2.1.2.1 K.2.2.2.2.1.2.2 K.2.2.2.2.1.1 K.2.2.2.2.2.1.1) s.heap H locs →
    lv_has la K.1.2.2.1 (lv_args 0 (.ref K.2.2.2.2.1.2.1 :: K.2.2.2.2.2.1.2)) →
    W p l e K.2.1 s m args below meth c H locs cl sl (MQ below (QI K.2.2.1 K.2.2.2.2.1.2.1 K.2.2.2.2.1.2.2 K.2.2.2.2.1.1 K.2.2.2.2.2.1.1 K.2.2.2.2.2.2.1) args s K.2.2.2.2.2.2.2.1 K.2.2.2.2.2.2.2.2 (AI K.2.2.2.2.1.2.1 K.2.2.2.2.1.2.2 K.2.2.2.2.1.1 K.2.2.2.2.2.1.1)) (F0 m pc la (st.map (sv q)))
theorem InitC.of {dp mc ms ci : Nat} {y : Mi} {d as : List Value} {D : va_G} {cI cB : ClassId} {E : (Nat → Nat) → List va_E} (hp : plainName y.1.cls = true) (hr : y.2.2.2 = none) (hi : y.1.name = "<init>") (hl : ∀ h0 : Nat, (lg_sl (.ref h0 :: as)).length ≤ y.2.2.1) (h : ∀ h0 sz : Nat, GIn (y, rmi dp mc ms, D, (cI, cB), (ci, h0, sz), (d, as), E, mc, ms) 0 [] 1 (fun _ => d) (fun _ => []) 0 0) : InitC dp mc ms y ci d as D cI cB E := by
  intro l h0 sz
  refine Met.ofW (cc := y.2.1) (maxL := y.2.2.1) (ret := y.2.2.2) (ws' := lwg) hp rfl ?_
  intro p e s m args below meth c s₁ B hml hv
  obtain ⟨rfl, hsz, hP, hK⟩ := hv
  have hts := atoms_spec (ws := wsY y) B.pre
  have hown := findClass_of_methodNamed B.named
  have hin : meth.name = y.1.name := (name_of_methodNamed B.named B.method).1
  have hlv := lv_entry (.ref h0 :: as) (n := y.2.2.1) (hl h0)
  rw [lg_entry_eq]
  have hD : va_D (AI h0 sz ci d) (wq (fun _ => h0) [.inr (ci, d)]) := by
    refine ⟨fun i j a b hi hj _ => ?_, fun k a hk => ?_⟩
    · rw [wq_at] at hi hj
      have hi' : i < 1 := by
        rcases Nat.lt_or_ge i 1 with z | z
        · exact z
        · rw [List.getElem?_eq_none (by simpa using z)] at hi; cases hi
      have hj' : j < 1 := by
        rcases Nat.lt_or_ge j 1 with z | z
        · exact z
        · rw [List.getElem?_eq_none (by simpa using z)] at hj; cases hj
      omega
    · rw [wq_at] at hk
      have hk' : k < 1 := by
        rcases Nat.lt_or_ge k 1 with z | z
        · exact z
        · rw [List.getElem?_eq_none (by simpa using z)] at hk; cases hk
      have : k = 0 := by omega
      subst this
      have ha : a = (h0, .inr (ci, d)) := (Option.some.inj hk).symm
      rw [ha]
      exact Or.inl ⟨0, .inr (ci, d), rfl⟩
  exact h h0 sz (fun _ _ _ => ⟨rfl, rfl⟩) (fun _ => rfl) (fun _ => rfl) (fun j hj => by cases hj) (fun _ => h0) p l e s m _ below meth c s.heap [] _ rfl ⟨B.exec, B.bytes, hml, hown, fun w hw => hts w (List.mem_cons_of_mem _ hw)⟩ (B.returns.trans hr) B.notSynchronized (hin.trans hi) hsz hK hP hD va_S.rf hlv
theorem st_same {q q' : Nat → Nat} {n : Nat} {st : List SV} (h : ∀ i, i < n → q i = q' i) (hs : ∀ j, Sum.inl j ∈ st → j < n) : st.map (sv q) = st.map (sv q') := by
  refine List.map_congr_left (fun x hx => ?_)
  cases x with
  | inl j => simp only [sv]; rw [h j (hs j hx)]
  | inr v => rfl
theorem i_aload0 {K : KI} {pc n cl sl : Nat} {st : List SV} {fs : (Nat → Nat) → List Value} {rest : (Nat → Nat) → List va_E} (hd : decode K.1.2.1 pc = .ok (.aload_n 0, 1)) (k : GIn K (pc + 1) (.inl 0 :: st) n fs rest cl sl) : GIn K pc st n fs rest cl sl := by
  intro a1 a2 a3 a4 q p l e s m args below meth c H locs la h0 C hr hk hin hsz hK hP hD hS hl
  have a2q := a2 q
  have r := k a1 a2 a3 (fun j hj => by
    rcases List.mem_cons.mp hj with z | z
    · have : j = 0 := Sum.inl.inj z
      omega
    · exact a4 j z) q p l e s m args below meth c H locs la h0 C hr hk hin hsz hK hP hD hS hl
  refine lv_aload_n C.1 C.2.1 hd rfl (lv_at hl 0 rfl) ?_
  simp only [List.map_cons, sv, h0] at r
  exact r
theorem i_aloadk {K : KI} {pc n cl sl i a : Nat} {kk : _root_.Fin 4} {st : List SV} {fs : (Nat → Nat) → List Value} {rest : (Nat → Nat) → List va_E} (hd : decode K.1.2.1 pc = .ok (.aload_n kk, 1)) (hi : (kk : Nat) = i) (ha : (lv_args 0 (.ref K.2.2.2.2.1.2.1 :: K.2.2.2.2.2.1.2))[i]? = some (i, .ref a)) (k : GIn K (pc + 1) (.inr (.ref a) :: st) n fs rest cl sl) : GIn K pc st n fs rest cl sl := by
  intro a1 a2 a3 a4 q p l e s m args below meth c H locs la h0 C hr hk hin hsz hK hP hD hS hl
  exact lv_aload_n C.1 C.2.1 hd hi (lv_at hl i ha) (k a1 a2 a3 (fun j hj => by
    rcases List.mem_cons.mp hj with z | z
    · cases z
    · exact a4 j z) q p l e s m args below meth c H locs la h0 C hr hk hin hsz hK hP hD hS hl)
theorem oi_in : Cond.instanceMethod Lib.objectInit ∈ lwg := lwg_of (List.mem_of_getElem? (i := 124) (by decide +kernel)) (by decide +kernel)
theorem oi_cd : Cond.code Lib.objectInit ⟨#[0xb1]⟩ 1 none ∈ lwg := lwg_of (List.mem_of_getElem? (i := 125) (by decide +kernel)) (by decide +kernel)
theorem i_obj {K : KI} {pc n cl sl idx : Nat} {fs : (Nat → Nat) → List Value} {rest : (Nat → Nat) → List va_E} (hd : decode K.1.2.1 pc = .ok (.invokespecial idx, 3)) (hw : Cond.methodLink K.1.1.cls idx Lib.objectInit ∈ lwg) (hf : 1 ≤ K.2.1.frames ∧ 12 ≤ K.2.1.locals) (k : GIn K (pc + 3) [] n fs rest cl sl) : GIn K pc [.inl 0] n fs rest cl sl := by
  intro a1 a2 a3 a4 q p l e s m args below meth c H locs la h0 C hr hk hin hsz hK hP hD hS hl
  refine W.objInit C.1 C.2.1 C.2.2.2.1 (C.2.2.2.2 _ hw) (C.2.2.2.2 _ oi_in) (C.2.2.2.2 _ oi_cd) rfl (by rw [C.2.2.1]; exact hl.1) (rest := []) rfl hd hf.1 (by show 2 * 0 + 0 + 12 ≤ _; exact hf.2) ?_
  exact k a1 a2 a3 (fun j hj => by cases hj) q p l e s m args below meth c H locs la h0 C hr hk hin hsz hK hP hD hS hl
theorem i_push {K : KI} {pc pc' n cl sl : Nat} {st : List SV} {v : Int} {fs : (Nat → Nat) → List Value} {rest : (Nat → Nat) → List va_E} (k : GIn K pc' (.inr (.int (Int32.ofInt v)) :: st) n fs rest cl sl)
    (hp : ∀ (p : Program) (l : Launch) (e : Env) (s : State) (m : MethodId) (args : Array Value) (below : List Frame) (meth : Method) (c : Code) (H : Heap) (locs : List Loc) (la : Array Slot) (Q : State → Prop) (rs : List Value), p.tables.exec = Jvm.exec → c.code = K.1.2.1 → W p l e K.2.1 s m args below meth c H locs cl sl Q (F0 m pc' la (.int (Int32.ofInt v) :: rs)) → W p l e K.2.1 s m args below meth c H locs cl sl Q (F0 m pc la rs)) : GIn K pc st n fs rest cl sl := by
  intro a1 a2 a3 a4 q p l e s m args below meth c H locs la h0 C hr hk hin hsz hK hP hD hS hl
  exact hp p l e s m args below meth c H locs la _ _ C.1 C.2.1 (k a1 a2 a3 (fun j hj => by
    rcases List.mem_cons.mp hj with z | z
    · cases z
    · exact a4 j z) q p l e s m args below meth c H locs la h0 C hr hk hin hsz hK hP hD hS hl)
theorem i_iconst {K : KI} {pc n cl sl : Nat} {st : List SV} {v : Int} {fs : (Nat → Nat) → List Value} {rest : (Nat → Nat) → List va_E} (hd : decode K.1.2.1 pc = .ok (.iconst v, 1)) (k : GIn K (pc + 1) (.inr (.int (Int32.ofInt v)) :: st) n fs rest cl sl) : GIn K pc st n fs rest cl sl :=
  i_push k (fun _ _ _ _ _ _ _ _ _ _ _ _ _ _ hx hb kk => lv_iconst hx hb hd rfl kk)
theorem i_bipush {K : KI} {pc n cl sl : Nat} {st : List SV} {v : Int} {fs : (Nat → Nat) → List Value} {rest : (Nat → Nat) → List va_E} (hd : decode K.1.2.1 pc = .ok (.bipush v, 2)) (hv : (Int8.ofInt v).toInt32 = Int32.ofInt v) (k : GIn K (pc + 2) (.inr (.int (Int32.ofInt v)) :: st) n fs rest cl sl) : GIn K pc st n fs rest cl sl :=
  i_push k (fun _ _ _ _ _ _ _ _ _ _ _ _ _ _ hx hb kk => lv_bipush hx hb hd hv kk)
theorem i_sipush {K : KI} {pc n cl sl : Nat} {st : List SV} {v : Int} {fs : (Nat → Nat) → List Value} {rest : (Nat → Nat) → List va_E} (hd : decode K.1.2.1 pc = .ok (.sipush v, 3)) (hv : (Int16.ofInt v).toInt32 = Int32.ofInt v) (k : GIn K (pc + 3) (.inr (.int (Int32.ofInt v)) :: st) n fs rest cl sl) : GIn K pc st n fs rest cl sl :=
  i_push k (fun _ _ _ _ _ _ _ _ _ _ _ _ _ _ hx hb kk => lv_sipush hx hb hd hv kk)
theorem i_dup {K : KI} {pc n cl sl : Nat} {j : Nat} {st : List SV} {fs : (Nat → Nat) → List Value} {rest : (Nat → Nat) → List va_E} (hd : decode K.1.2.1 pc = .ok (.dup, 1)) (k : GIn K (pc + 1) (.inl j :: .inl j :: st) n fs rest cl sl) : GIn K pc (.inl j :: st) n fs rest cl sl := by
  intro a1 a2 a3 a4 q p l e s m args below meth c H locs la h0 C hr hk hin hsz hK hP hD hS hl
  exact lv_dup C.1 C.2.1 hd rfl (k a1 a2 a3 (fun i hi => by
    rcases List.mem_cons.mp hi with z | z
    · rw [z] at hi; exact a4 i (by rw [z]; exact List.mem_cons_self)
    · exact a4 i z) q p l e s m args below meth c H locs la h0 C hr hk hin hsz hK hP hD hS hl)
/-- a new cell behind the others -/
theorem gi_new {K : KI} {pc n cl sl : Nat} {x : va_E} {st : List SV} {fs : (Nat → Nat) → List Value} {rest : (Nat → Nat) → List va_E} (k : GIn K pc (.inl n :: st) (n + 1) fs (fun q => rest q ++ [x]) cl sl)
    (a1 : ∀ q q' : Nat → Nat, (∀ i, i < n → q i = q' i) → fs q = fs q' ∧ rest q = rest q') (a2 : ∀ q, (rest q).length + 1 = n) (a3 : ∀ q, (fs q).length = K.2.2.2.2.2.1.1.length) (a4 : ∀ j, Sum.inl j ∈ st → j < n)
    (q : Nat → Nat) (p : Program) (l : Launch) (e : Env) (s : State) (m : MethodId) (args : Array Value) (below : List Frame) (meth : Method) (c : Code) (H : Heap) (locs : List Loc) (la : Array Slot) (h0 : q 0 = K.2.2.2.2.1.2.1) (C : CallFix p m c K.1.2.1 K.1.2.2.1 s args lwg K.1.1.cls) (hr : meth.sig.returnType = none) (hk : meth.locks = false) (hin : meth.name = "<init>") (hsz : s.heap.size = K.2.2.2.2.1.2.2) (hK : va_K K.2.2.1 vwCl (ty2 K.2.2.2.1.1 K.2.2.2.1.2) s) (a : Nat)
    (hP : va_P K.2.2.1 vwCl (wq q (.inr (K.2.2.2.2.1.1, fs q) :: rest q) ++ [(a, x)]) H) (hD : va_D (AI K.2.2.2.2.1.2.1 K.2.2.2.2.1.2.2 K.2.2.2.2.1.1 K.2.2.2.2.2.1.1) (wq q (.inr (K.2.2.2.2.1.1, fs q) :: rest q) ++ [(a, x)])) (hS : va_S (AI K.2.2.2.2.1.2.1 K.2.2.2.2.1.2.2 K.2.2.2.2.1.1 K.2.2.2.2.2.1.1) s.heap H locs) (hl : lv_has la K.1.2.2.1 (lv_args 0 (.ref K.2.2.2.2.1.2.1 :: K.2.2.2.2.2.1.2))) :
    W p l e K.2.1 s m args below meth c H locs cl sl (MQ below (QI K.2.2.1 K.2.2.2.2.1.2.1 K.2.2.2.2.1.2.2 K.2.2.2.2.1.1 K.2.2.2.2.2.1.1 K.2.2.2.2.2.2.1) args s K.2.2.2.2.2.2.2.1 K.2.2.2.2.2.2.2.2 (AI K.2.2.2.2.1.2.1 K.2.2.2.2.1.2.2 K.2.2.2.2.1.1 K.2.2.2.2.2.1.1)) (F0 m pc la (.ref a :: st.map (sv q))) := by
  have a2q := a2 q
  obtain ⟨q1, hq1⟩ : ∃ q1 : Nat → Nat, q1 = fun i => if i = n then a else q i := ⟨_, rfl⟩
  have qo : ∀ i, i < n → q1 i = q i := fun i hi => by rw [hq1]; simp only; rw [if_neg (by omega)]
  have qn : q1 n = a := by rw [hq1]; simp only [if_true]
  obtain ⟨f1, r1⟩ := a1 q1 q qo
  have ew : wq q1 (.inr (K.2.2.2.2.1.1, fs q1) :: (rest q1 ++ [x])) = wq q (.inr (K.2.2.2.2.1.1, fs q) :: rest q) ++ [(a, x)] := by
    rw [f1, r1]
    have := wq_app (q1 := q1) (q := q) (q2 := fun _ => a) (es := .inr (K.2.2.2.2.1.1, fs q) :: rest q) (es2 := [x]) (n := n) (by simp only [List.length_cons]; exact a2q) qo (fun i hi => by
      have : i = 0 := by simp only [List.length_cons, List.length_nil] at hi; omega
      subst this
      exact qn)
    exact this
  have r := k (fun u u' hu => by
      obtain ⟨z1, z2⟩ := a1 u u' (fun i hi => hu i (by omega))
      exact ⟨z1, by simp only; rw [z2]⟩) (fun u => by have := a2 u; simp only [List.length_append, List.length_cons, List.length_nil]; omega) a3 (fun j hj => by
      rcases List.mem_cons.mp hj with z | z
      · have : j = n := Sum.inl.inj z
        omega
      · have := a4 j z; omega) q1 p l e s m args below meth c H locs la (by rw [qo 0 (by omega)]; exact h0) C hr hk hin hsz hK (by rw [ew]; exact hP) (by rw [ew]; exact hD) hS hl
  simp only [List.map_cons, sv, qn] at r
  rw [st_same qo a4] at r
  exact r
theorem ai_up {h0 sz ci : Nat} {d : List Value} {s : State} (hsz : s.heap.size = sz) : ∀ q : Nat, s.heap.size ≤ q → AI h0 sz ci d q := fun q h => Or.inr (by omega)
theorem wa_I : Cond.arrayClass .int ∈ lwg := lwg_of (List.mem_of_getElem? (i := 151) (by decide +kernel)) (by decide +kernel)
theorem wa_B : Cond.arrayClass .byte ∈ lwg := lwg_of (List.mem_of_getElem? (i := 686) (by decide +kernel)) (by decide +kernel)
theorem i_newaI {K : KI} {pc n cl sl N : Nat} {v : Int} {st : List SV} {fs : (Nat → Nat) → List Value} {rest : (Nat → Nat) → List va_E} (hd : decode K.1.2.1 pc = .ok (.newarray .int, 2)) (hv : ¬ Int32.ofInt v < 0) (hN : (Int32.ofInt v).toNatClampNeg = N) (hby : N * componentBytes .int ≤ 536870912) (hc : cl + 1 ≤ K.2.1.cells ∧ sl + N ≤ K.2.1.slots) (k : GIn K (pc + 2) (.inl n :: st) (n + 1) fs (fun q => rest q ++ [.inl (K.2.2.2.1.1, N, .inl (fun _ => Int32.ofInt 0))]) (cl + 1) (sl + N)) : GIn K pc (.inr (.int (Int32.ofInt v)) :: st) n fs rest cl sl := by
  intro a1 a2 a3 a4 q p l e s m args below meth c H locs la h0 C hr hk hin hsz hK hP hD hS hl
  refine va_newa C.1 C.2.1 (atype := .int) (C.2.2.2.2 _ wa_I) rfl hK hP hD hS (ai_up hsz) (a0 := (N, .inl (fun _ => Int32.ofInt 0))) (fun cA => rfl) hv hN hby hc.1 hc.2 hd (fun a cA H1 hK1 hP1 hD1 hS1 => ?_)
  have e1 := (hK1.2 0 (K.2.2.2.1.1, .int) rfl).2
  have e2 := (hK1.2 2 (cA, .int) rfl).2
  have e3 : K.2.2.2.1.1 = cA := Option.some.inj (e1.symm.trans e2)
  subst e3
  exact gi_new k a1 a2 a3 (fun j hj => a4 j (List.mem_cons_of_mem _ hj)) q p l e s m args below meth c H1 locs la h0 C hr hk hin hsz hK a hP1 hD1 hS1 hl
theorem i_newaB {K : KI} {pc n cl sl N : Nat} {v : Int} {st : List SV} {fs : (Nat → Nat) → List Value} {rest : (Nat → Nat) → List va_E} (hd : decode K.1.2.1 pc = .ok (.newarray .byte, 2)) (hv : ¬ Int32.ofInt v < 0) (hN : (Int32.ofInt v).toNatClampNeg = N) (hby : N * componentBytes .byte ≤ 536870912) (hc : cl + 1 ≤ K.2.1.cells ∧ sl + N ≤ K.2.1.slots) (k : GIn K (pc + 2) (.inl n :: st) (n + 1) fs (fun q => rest q ++ [.inl (K.2.2.2.1.2, N, .inl (fun _ => Int32.ofInt 0))]) (cl + 1) (sl + N)) : GIn K pc (.inr (.int (Int32.ofInt v)) :: st) n fs rest cl sl := by
  intro a1 a2 a3 a4 q p l e s m args below meth c H locs la h0 C hr hk hin hsz hK hP hD hS hl
  refine va_newa C.1 C.2.1 (atype := .byte) (C.2.2.2.2 _ wa_B) rfl hK hP hD hS (ai_up hsz) (a0 := (N, .inl (fun _ => Int32.ofInt 0))) (fun cA => rfl) hv hN hby hc.1 hc.2 hd (fun a cA H1 hK1 hP1 hD1 hS1 => ?_)
  have e1 := (hK1.2 1 (K.2.2.2.1.2, .byte) rfl).2
  have e2 := (hK1.2 2 (cA, .byte) rfl).2
  have e3 : K.2.2.2.1.2 = cA := Option.some.inj (e1.symm.trans e2)
  subst e3
  exact gi_new k a1 a2 a3 (fun j hj => a4 j (List.mem_cons_of_mem _ hj)) q p l e s m args below meth c H1 locs la h0 C hr hk hin hsz hK a hP1 hD1 hS1 hl
def NOK (ci N : Nat) (C : String) (d : List Value) : Prop := ∃ (T : u_T) (ty : Nat → FieldType), vwCl[ci]? = some (C, T, N) ∧ (∀ w ∈ u_ws C T N, w ∈ lwg) ∧ (∀ j, j < N → parseFieldDescriptor (T j).2.2.1 = some (ty j)) ∧ Cond.instantiable C N ∈ lwg ∧ Cond.initialized C ∈ lwg ∧ ∀ j, j < N → defaultValue (ty j) = vp_V d j
theorem i_new {K : KI} {pc n cl sl idx ci N : Nat} {C' : String} {d : List Value} {st : List SV} {fs : (Nat → Nat) → List Value} {rest : (Nat → Nat) → List va_E} (hd : decode K.1.2.1 pc = .ok (.new idx, 3)) (hw : Cond.classLink K.1.1.cls idx C' ∈ lwg) (ho : NOK ci N C' d) (hc : cl + 1 ≤ K.2.1.cells ∧ sl + N ≤ K.2.1.slots) (k : GIn K (pc + 3) (.inl n :: st) (n + 1) fs (fun q => rest q ++ [.inr (ci, d)]) (cl + 1) (sl + N)) : GIn K pc st n fs rest cl sl := by
  intro a1 a2 a3 a4 q p l e s m args below meth c H locs la h0 C hr hk hin hsz hK hP hD hS hl
  obtain ⟨T, ty, o1, o2, o3, o4, o5, o6⟩ := ho
  refine va_new C.1 C.2.1 C.2.2.2.2 o2 ty o3 C.2.2.2.1 (C.2.2.2.2 _ hw) (C.2.2.2.2 _ o4) (C.2.2.2.2 _ o5) hK hP hD hS (ai_up hsz) o1 o6 hc.1 hc.2 hd (fun a H1 hP1 hD1 hS1 => ?_)
  exact gi_new k a1 a2 a3 a4 q p l e s m args below meth c H1 locs la h0 C hr hk hin hsz hK a hP1 hD1 hS1 hl
def GOK (own : String) (idx ci k : Nat) (fin : Bool) (ty : FieldType) : Prop := ∃ (C : String) (T : u_T) (N : Nat) (ty0 : Nat → FieldType), vwCl[ci]? = some (C, T, N) ∧ k < N ∧ (∀ w ∈ u_ws C T N, w ∈ lwg) ∧ (∀ j, j < N → parseFieldDescriptor (T j).2.2.1 = some (ty0 j)) ∧ (∀ a, a < N → ∀ b, b < N → a ≠ b → (T a).2.1 ≠ (T b).2.1) ∧ Cond.fieldLink own idx (T k).1 (T k).2.1 (T k).2.2.1 ∈ lwg ∧ (T k).2.2.2 = fin ∧ ty0 k = ty ∧ (T k).1 = own
theorem i_put {K : KI} {pc n cl sl idx k : Nat} {fin : Bool} {ty : FieldType} {x : SV} {st : List SV} {fs : (Nat → Nat) → List Value} {rest : (Nat → Nat) → List va_E} (hd : decode K.1.2.1 pc = .ok (.putfield idx, 3)) (hf : GOK K.1.1.cls idx K.2.2.2.2.1.1 k fin ty) (hz : ∀ q, narrow ty (sv q x) = sv q x ∧ fits ty (sv q x) = true) (hkl : k < K.2.2.2.2.2.1.1.length) (kk : GIn K (pc + 3) st n (fun q => (fs q).set k (sv q x)) rest cl sl) : GIn K pc (x :: .inl 0 :: st) n fs rest cl sl := by
  intro a1 a2 a3 a4 q p l e s m args below meth c H locs la h0 C hr hk hin hsz hK hP hD hS hl
  obtain ⟨Cn, T, N, ty0, f1, f2, f3, f4, f5, f6, f7, f8, f9⟩ := hf
  have hty : parseFieldDescriptor (T k).2.2.1 = some ty := by rw [f4 k f2, f8]
  have he : (wq q (.inr (K.2.2.2.2.1.1, fs q) :: rest q))[0]? = some (q 0, .inr (K.2.2.2.2.1.1, fs q)) := by rw [wq_at]; rfl
  have key : ∀ (H1 : Heap) (locs1 : List Loc), va_P K.2.2.1 vwCl ((wq q (.inr (K.2.2.2.2.1.1, fs q) :: rest q)).set 0 (q 0, .inr (K.2.2.2.2.1.1, (fs q).set k (sv q x)))) H1 → va_D (AI K.2.2.2.2.1.2.1 K.2.2.2.2.1.2.2 K.2.2.2.2.1.1 K.2.2.2.2.2.1.1) ((wq q (.inr (K.2.2.2.2.1.1, fs q) :: rest q)).set 0 (q 0, .inr (K.2.2.2.2.1.1, (fs q).set k (sv q x)))) → va_S (AI K.2.2.2.2.1.2.1 K.2.2.2.2.1.2.2 K.2.2.2.2.1.1 K.2.2.2.2.2.1.1) s.heap H1 locs1 → W p l e K.2.1 s m args below meth c H1 locs1 cl sl (MQ below (QI K.2.2.1 K.2.2.2.2.1.2.1 K.2.2.2.2.1.2.2 K.2.2.2.2.1.1 K.2.2.2.2.2.1.1 K.2.2.2.2.2.2.1) args s K.2.2.2.2.2.2.2.1 K.2.2.2.2.2.2.2.2 (AI K.2.2.2.2.1.2.1 K.2.2.2.2.1.2.2 K.2.2.2.2.1.1 K.2.2.2.2.2.1.1)) (F0 m (pc + 3) la (st.map (sv q))) := by
    intro H1 locs1 b1 b2 b3
    rw [wq_set0] at b1 b2
    refine kk (fun u u' hu => ?_) a2 (fun u => by rw [List.length_set]; exact a3 u) (fun j hj => a4 j (List.mem_cons_of_mem _ (List.mem_cons_of_mem _ hj))) q p l e s m args below meth c H1 locs1 la h0 C hr hk hin hsz hK b1 b2 b3 hl
    obtain ⟨z1, z2⟩ := a1 u u' hu
    refine ⟨?_, z2⟩
    have : sv u x = sv u' x := by
      cases x with
      | inl j => simp only [sv]; rw [hu j (a4 j List.mem_cons_self)]
      | inr v => rfl
    simp only
    rw [z1, this]
  have hlen : k < (fs q).length := by rw [a3 q]; exact hkl
  cases fin with
  | false => exact va_put C.1 C.2.1 C.2.2.2.2 f3 ty0 f4 f5 C.2.2.2.1 hK hP hD hS 0 he f1 k f2 (C.2.2.2.2 _ f6) (fun x h => h) f7 hty (hz q).1 (hz q).2 hlen hd key
  | true => exact va_putF C.1 C.2.1 C.2.2.2.2 f3 ty0 f4 f5 C.2.2.2.1 hK hP hD hS 0 he f1 k f2 (C.2.2.2.2 _ f6) (fun x h => h) f7 hin f9 hty (hz q).1 (hz q).2 hlen hd key
theorem i_get {K : KI} {pc n cl sl idx k j : Nat} {fin : Bool} {ty : FieldType} {st : List SV} {fs : (Nat → Nat) → List Value} {rest : (Nat → Nat) → List va_E} (hd : decode K.1.2.1 pc = .ok (.getfield idx, 3)) (hf : GOK K.1.1.cls idx K.2.2.2.2.1.1 k fin ty) (hv : ∀ q, (fs q)[k]? = some (.ref (q j))) (hj : j < n) (kk : GIn K (pc + 3) (.inl j :: st) n fs rest cl sl) : GIn K pc (.inl 0 :: st) n fs rest cl sl := by
  intro a1 a2 a3 a4 q p l e s m args below meth c H locs la h0 C hr hk hin hsz hK hP hD hS hl
  obtain ⟨Cn, T, N, ty0, f1, f2, f3, f4, f5, f6, f7, f8, f9⟩ := hf
  have he : (wq q (.inr (K.2.2.2.2.1.1, fs q) :: rest q))[0]? = some (q 0, .inr (K.2.2.2.2.1.1, fs q)) := by rw [wq_at]; rfl
  exact va_get C.1 C.2.1 C.2.2.2.2 f3 C.2.2.2.1 hK hP 0 he f1 k f2 (C.2.2.2.2 _ f6) (fun x h => h) (hv q) hd (kk a1 a2 a3 (fun i hi => by
    rcases List.mem_cons.mp hi with z | z
    · have : i = j := Sum.inl.inj z
      omega
    · exact a4 i (List.mem_cons_of_mem _ z)) q p l e s m args below meth c H locs la h0 C hr hk hin hsz hK hP hD hS hl)
theorem i_iast {K : KI} {pc n cl sl N : Nat} {v i : Int} {f f' : Nat → Int32} {st : List SV} {fs : (Nat → Nat) → List Value} {rest : (Nat → Nat) → List va_E} (hd : decode K.1.2.1 pc = .ok (.iastore, 1)) (hr0 : ∀ q, (rest q)[0]? = some (.inl (K.2.2.2.1.1, N, .inl f))) (hi : vp_in (Int32.ofInt i) N) (hf : upd f (Int32.ofInt i).toNatClampNeg (Int32.ofInt v) = f') (k : GIn K (pc + 1) st n fs (fun q => (rest q).set 0 (.inl (K.2.2.2.1.1, N, .inl f'))) cl sl) : GIn K pc (.inr (.int (Int32.ofInt v)) :: .inr (.int (Int32.ofInt i)) :: .inl 1 :: st) n fs rest cl sl := by
  intro a1 a2 a3 a4 q p l e s m args below meth c H locs la h0 C hr hk hin hsz hK hP hD hS hl
  subst hf
  have he : (wq q (.inr (K.2.2.2.2.1.1, fs q) :: rest q))[1]? = some (q 1, .inl (K.2.2.2.1.1, N, .inl f)) := by
    rw [wq_at, List.getElem?_cons_succ, hr0 q]; rfl
  refine va_iast C.1 C.2.1 hK hP hD hS 1 0 he rfl hi hd (fun H1 locs1 b1 b2 b3 => ?_)
  rw [wq_set1] at b1 b2
  exact k (fun u u' hu => by
    obtain ⟨z1, z2⟩ := a1 u u' hu
    exact ⟨z1, by simp only; rw [z2]⟩) (fun u => by simp only [List.length_set]; exact a2 u) a3 (fun j hj => a4 j (List.mem_cons_of_mem _ (List.mem_cons_of_mem _ (List.mem_cons_of_mem _ hj)))) q p l e s m args below meth c H1 locs1 la h0 C hr hk hin hsz hK b1 b2 b3 hl
theorem i_ret {y : Mi} {R : Room} {D : va_G} {cc : ClassId × ClassId} {ix : Nat × Nat × Nat} {da : List Value × List Value} {E : (Nat → Nat) → List va_E} {mc ms pc n : Nat} {fs : (Nat → Nat) → List Value} {rest : (Nat → Nat) → List va_E} (hd : decode y.2.1 pc = .ok (.return_, 1)) (hE : ∀ q, .inr (ix.1, fs q) :: rest q = E q) : GIn (y, R, D, cc, ix, da, E, mc, ms) pc [] n fs rest mc ms := by
  intro a1 a2 a3 a4 q p l e s m args below meth c H locs la h0 C hr hk hin hsz hK hP hD hS hl
  refine W.vret C.1 C.2.1 hr (fun t ht hW => ⟨⟨q, rfl, h0, ?_, ?_⟩, hS.F ht⟩) hS.2.2 hd hk
  · dsimp only
    rw [ht, ← hE q]; exact hP
  · dsimp only
    rw [← hE q]; exact hD
theorem i_call {K : KI} {pc n0 n1 cl sl idx dp mc ms ci : Nat} {y : Mi} {d : List Value} {xs st : List SV} {E : List Value → (Nat → Nat) → List va_E} {fs : (Nat → Nat) → List Value} {r : (Nat → Nat) → List va_E} (hd : decode K.1.2.1 pc = .ok (.invokespecial idx, 3)) (hc : COK K.1.1.cls idx y xs.length) (hyn : y.1.name = "<init>") (hyr : y.2.2.2 = none) (hyi : Cond.instanceMethod y.1 ∈ lwg)
    (hI : ∀ q : Nat → Nat, InitC dp mc ms y ci d (xs.map (sv q)) K.2.2.1 K.2.2.2.1.1 K.2.2.2.1.2 (E (xs.map (sv q)))) (hlen : ∀ as q, (E as q).length = n1) (hn1 : 1 ≤ n1) (hdep : ∀ as (q q' : Nat → Nat), (∀ i, i < n1 → q i = q' i) → E as q = E as q')
    (hR : dp + 1 ≤ K.2.1.frames ∧ 8 + (y.2.2.1 + 11) + 64 * dp ≤ K.2.1.locals) (hcl : cl + mc ≤ K.2.1.cells ∧ sl + ms ≤ K.2.1.slots) (h8 : ∀ q, ((st.map (sv q)).map fun v => v.category).sum ≤ 8)
    (k : GIn K (pc + 3) st (n0 + n1) fs (fun q => r q ++ E (xs.map (sv q)) (fun i => q (n0 + i))) (cl + mc) (sl + ms)) : GIn K pc (xs.reverse ++ .inl n0 :: st) (n0 + 1) fs (fun q => r q ++ [.inr (ci, d)]) cl sl := by
  intro a1 a2 a3 a4 q p l e s m args below meth c H locs la h0 C hr hk hin hsz hK hP hD hS hl
  have a2q : (r q).length + 1 = n0 := by have := a2 q; simp only [List.length_append, List.length_cons, List.length_nil] at this; omega
  have he : (wq q (.inr (K.2.2.2.2.1.1, fs q) :: (r q ++ [.inr (ci, d)])))[n0]? = some (q n0, .inr (ci, d)) := by
    rw [wq_at, show n0 = (n0 - 1) + 1 by omega, List.getElem?_cons_succ, List.getElem?_append_right (by omega), show n0 - 1 - (r q).length = 0 by omega]
    rfl
  have hP0 : va_P K.2.2.1 vwCl [(q n0, .inr (ci, d))] H := fun i x hx => by
    have hi : i < 1 := (List.getElem?_eq_some_iff.mp hx).1
    have : i = 0 := by omega
    subst this
    have hx2 : x = (q n0, .inr (ci, d)) := (Option.some.inj hx).symm
    rw [hx2]
    exact hP n0 _ he
  have hup : ∀ a, AI (q n0) H.size ci d a → AI K.2.2.2.2.1.2.1 K.2.2.2.2.1.2.2 K.2.2.2.2.1.1 K.2.2.2.2.2.1.1 a := fun a ha => by
    rcases ha with ⟨i, e2, hi⟩ | ha
    · have hi1 : i < 1 := (List.getElem?_eq_some_iff.mp hi).1
      have : i = 0 := by omega
      subst this
      have h2 : (q n0, (.inr (ci, d) : va_E)) = (a, e2) := Option.some.inj hi
      rw [← (Prod.mk.inj h2).1]
      exact hD.2 n0 _ he
    · exact Or.inr (by have := hS.1; omega)
  have hM := hI q l (q n0) H.size
  have cb := callB_of (mc := mc) (ms := ms) (rm := rmi dp mc ms) (R := K.2.1) xs.length C.2.2.2.2 (wsY_good hc.2.1) (ws' := lwg) rfl rfl rfl (C.2.2.2.2 _ hc.2.2.1) (C.2.2.2.2 _ hc.1) hc.2.2.2 hR
  rw [hyr] at cb
  refine va_callv (va_runI (b := q n0) (As := xs.map (sv q)) (rest := st.map (sv q)) C hM ⟨cb, hyn, C.2.2.2.2 _ hyi⟩ ⟨fun a U g mk z => ?_, fun U hU hW => ⟨rfl, by rw [hU], by rw [hU]; exact hP0, va_K.moved hW.alike hK⟩⟩ rfl (by simp) hl.1 (by simp [sv]) (lv_room (h8 q)) hd hcl) hS (fun a _ ha => hup a ha) hup (fun u t H1 locs1 ht hvm hw hB hz1 hk1 hS1 => ?_)
  · obtain ⟨z0, z1, z2, z3⟩ := z
    exact ⟨z0, z1, z2, va_K.moved (u := U) (U := U.calling g mk a) (Vm.Alike.refl U.vm) z3⟩
  obtain ⟨hP1, hD1⟩ := hB
  rw [ht] at hP1
  have hu0 : u 0 = q n0 := hw
  obtain ⟨q1, hq1⟩ : ∃ q1 : Nat → Nat, q1 = fun i => if i < n0 then q i else u (i - n0) := ⟨_, rfl⟩
  have qo : ∀ i, i < n0 → q1 i = q i := fun i hi => by rw [hq1]; simp only; rw [if_pos hi]
  have qn : ∀ i, q1 (n0 + i) = u i := fun i => by rw [hq1]; simp only; rw [if_neg (by omega), show n0 + i - n0 = i by omega]
  have qo1 : ∀ i, i < n0 + 1 → q1 i = q i := fun i hi => by
    by_cases z : i < n0
    · exact qo i z
    · have : i = n0 + 0 := by omega
      rw [this, qn 0, hu0]
      rfl
  obtain ⟨f1, r1⟩ := a1 q1 q qo1
  have r1' : r q1 = r q := by
    simp only at r1
    exact List.append_inj_left' r1 rfl
  have a4x : ∀ j, Sum.inl j ∈ xs → j < n0 + 1 := fun j hj => a4 j (List.mem_append_left _ (List.mem_reverse.mpr hj))
  have a4s : ∀ j, Sum.inl j ∈ st → j < n0 + 1 := fun j hj => a4 j (List.mem_append_right _ (List.mem_cons_of_mem _ hj))
  have ex : xs.map (sv q1) = xs.map (sv q) := st_same qo1 a4x
  have ef : (fun i => q1 (n0 + i)) = u := funext qn
  have ew : wq q1 (.inr (K.2.2.2.2.1.1, fs q1) :: (r q1 ++ E (xs.map (sv q1)) (fun i => q1 (n0 + i)))) = wq q (.inr (K.2.2.2.2.1.1, fs q) :: r q) ++ wq u (E (xs.map (sv q)) u) := by
    rw [f1, r1', ex, ef]
    exact wq_app (q1 := q1) (q := q) (q2 := u) (es := .inr (K.2.2.2.2.1.1, fs q) :: r q) (n := n0) (by simp only [List.length_cons]; exact a2q) qo (fun i _ => qn i)
  have ewq : wq q (.inr (K.2.2.2.2.1.1, fs q) :: (r q ++ [.inr (ci, d)])) = wq q (.inr (K.2.2.2.2.1.1, fs q) :: r q) ++ [(q n0, .inr (ci, d))] := by
    have := wq_app (q1 := q) (q := q) (q2 := fun _ => q n0) (es := .inr (K.2.2.2.2.1.1, fs q) :: r q) (es2 := [.inr (ci, d)]) (n := n0) (by simp only [List.length_cons]; exact a2q) (fun _ _ => rfl) (fun i hi => by
      have : i = 0 := by simp only [List.length_cons, List.length_nil] at hi; omega
      subst this
      rfl)
    exact this
  have wl : (wq q (.inr (K.2.2.2.2.1.1, fs q) :: r q)).length = n0 := by rw [wq_len]; simp only [List.length_cons]; exact a2q
  have old : ∀ i x, (wq q (.inr (K.2.2.2.2.1.1, fs q) :: r q))[i]? = some x → i < n0 ∧ (wq q (.inr (K.2.2.2.2.1.1, fs q) :: (r q ++ [.inr (ci, d)])))[i]? = some x ∧ ¬ AI (q n0) H.size ci d x.1 := fun i x hx => by
    have hi : i < n0 := by have := (List.getElem?_eq_some_iff.mp hx).1; omega
    have hx2 : (wq q (.inr (K.2.2.2.2.1.1, fs q) :: (r q ++ [.inr (ci, d)])))[i]? = some x := by rw [ewq, List.getElem?_append_left (by omega)]; exact hx
    refine ⟨hi, hx2, fun ha => ?_⟩
    rcases ha with ⟨i2, e2, h2⟩ | ha
    · have hi1 : i2 < 1 := (List.getElem?_eq_some_iff.mp h2).1
      have : i2 = 0 := by omega
      subst this
      have h3 : (q n0, (.inr (ci, d) : va_E)) = (x.1, e2) := Option.some.inj h2
      have := hD.1 i n0 x _ hx2 he (Prod.mk.inj h3).1.symm
      omega
    · have := (hP i x hx2).lt
      omega
  have hPn : va_P K.2.2.1 vwCl (wq q (.inr (K.2.2.2.2.1.1, fs q) :: r q) ++ wq u (E (xs.map (sv q)) u)) H1 := by
    refine va_P.app (fun i x hx => ?_) hP1
    obtain ⟨h1, h2, h3⟩ := old i x hx
    exact (hP i x h2).kept (hk1 x.1 (hP i x h2).lt h3)
  have spl : ∀ i x, (wq q (.inr (K.2.2.2.2.1.1, fs q) :: r q) ++ wq u (E (xs.map (sv q)) u))[i]? = some x → (i < n0 ∧ (wq q (.inr (K.2.2.2.2.1.1, fs q) :: r q))[i]? = some x) ∨ (n0 ≤ i ∧ (wq u (E (xs.map (sv q)) u))[i - n0]? = some x) := fun i x hx => by
    by_cases z : i < n0
    · rw [List.getElem?_append_left (by omega)] at hx
      exact Or.inl ⟨z, hx⟩
    · rw [List.getElem?_append_right (by omega), wl] at hx
      exact Or.inr ⟨by omega, hx⟩
  have hDn : va_D (AI K.2.2.2.2.1.2.1 K.2.2.2.2.1.2.2 K.2.2.2.2.1.1 K.2.2.2.2.2.1.1) (wq q (.inr (K.2.2.2.2.1.1, fs q) :: r q) ++ wq u (E (xs.map (sv q)) u)) := by
    refine ⟨fun i j x z hx hz hxz => ?_, fun i x hx => ?_⟩
    · rcases spl i x hx with ⟨b1, b2⟩ | ⟨b1, b2⟩ <;> rcases spl j z hz with ⟨c1, c2⟩ | ⟨c1, c2⟩
      · exact hD.1 i j x z (old i x b2).2.1 (old j z c2).2.1 hxz
      · exact absurd (by rw [hxz]; exact hD1.2 _ z c2) (old i x b2).2.2
      · exact absurd (by rw [← hxz]; exact hD1.2 _ x b2) (old j z c2).2.2
      · have := hD1.1 _ _ x z b2 c2 hxz
        omega
    · rcases spl i x hx with ⟨b1, b2⟩ | ⟨b1, b2⟩
      · exact hD.2 i x (old i x b2).2.1
      · exact hup _ (hD1.2 _ x b2)
  have rr := k (fun w w' hw2 => by
      obtain ⟨z1, z2⟩ := a1 w w' (fun i hi => hw2 i (by omega))
      have z3 : r w = r w' := by simp only at z2; exact List.append_inj_left' z2 rfl
      have z4 : xs.map (sv w) = xs.map (sv w') := st_same (n := n0 + 1) (fun i hi => hw2 i (by omega)) a4x
      refine ⟨z1, ?_⟩
      simp only
      rw [z3, z4, hdep _ (fun i => w (n0 + i)) (fun i => w' (n0 + i)) (fun i hi => hw2 (n0 + i) (by omega))]) (fun w => by
      have := a2 w
      simp only [List.length_append, List.length_cons, List.length_nil, hlen] at this ⊢
      omega) a3 (fun j hj => by have := a4s j hj; omega) q1 p l e s m args below meth c H1 locs1 la (by rw [qo 0 (by omega)]; exact h0) C hr hk hin hsz hK (by rw [ew]; exact hPn) (by rw [ew]; exact hDn) hS1 hl
  rw [st_same (n := n0 + 1) qo1 a4s] at rr
  exact rr
theorem i_norm {K : KI} {pc n cl sl : Nat} {st : List SV} {fs fs2 : (Nat → Nat) → List Value} {rest rest2 : (Nat → Nat) → List va_E} (h1 : ∀ q, fs q = fs2 q) (h2 : ∀ q, rest q = rest2 q) (k : GIn K pc st n fs2 rest2 cl sl) : GIn K pc st n fs rest cl sl := by
  have e1 : fs = fs2 := funext h1
  have e2 : rest = rest2 := funext h2
  rw [e1, e2]
  exact k
