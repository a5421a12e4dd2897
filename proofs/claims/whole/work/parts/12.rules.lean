theorem a_iconst {K : Kx} {pc : Nat} {ls : List (Option AV)} {st : List AV} {M : Me} {n : Int} (hd : decode K.1.2.1 pc = .ok (.iconst n, 1)) (hn : cn n) (k : Go K (pc + 1) ls (.inl n :: st) M) : Go K pc ls st M := by
  intro hM hl hs g p l e s m args below meth c H locs la C
  exact lv_iconst C.1.1 C.1.2.1 hd rfl (k hM hl (hs.consI hn) g p l e s m args below meth c H locs la C)
theorem a_bipush {K : Kx} {pc : Nat} {ls : List (Option AV)} {st : List AV} {M : Me} {n : Int} (hd : decode K.1.2.1 pc = .ok (.bipush n, 2)) (hn : (Int8.ofInt n).toInt32 = Int32.ofInt n) (hc : cn n) (k : Go K (pc + 2) ls (.inl n :: st) M) : Go K pc ls st M := by
  intro hM hl hs g p l e s m args below meth c H locs la C
  exact lv_bipush C.1.1 C.1.2.1 hd hn (k hM hl (hs.consI hc) g p l e s m args below meth c H locs la C)
theorem a_sipush {K : Kx} {pc : Nat} {ls : List (Option AV)} {st : List AV} {M : Me} {n : Int} (hd : decode K.1.2.1 pc = .ok (.sipush n, 3)) (hn : (Int16.ofInt n).toInt32 = Int32.ofInt n) (hc : cn n) (k : Go K (pc + 3) ls (.inl n :: st) M) : Go K pc ls st M := by
  intro hM hl hs g p l e s m args below meth c H locs la C
  exact lv_sipush C.1.1 C.1.2.1 hd hn (k hM hl (hs.consI hc) g p l e s m args below meth c H locs la C)
theorem a_ldc {K : Kx} {pc : Nat} {ls : List (Option AV)} {st : List AV} {M : Me} {i : Nat} {n : Int} {w : Int32} (hd : decode K.1.2.1 pc = .ok (.ldc i, 2)) (hw : Cond.constant K.1.1.cls i w ∈ lwg) (hn : Int32.ofInt n = w) (hc : cn n) (k : Go K (pc + 2) ls (.inl n :: st) M) : Go K pc ls st M := by
  intro hM hl hs g p l e s m args below meth c H locs la C
  subst hn
  exact lv_ldc C.1.1 C.1.2.1 C.1.2.2.2.1 (C.1.2.2.2.2 _ hw) hd (k hM hl (hs.consI hc) g p l e s m args below meth c H locs la C)
theorem a_ldc_w {K : Kx} {pc : Nat} {ls : List (Option AV)} {st : List AV} {M : Me} {i : Nat} {n : Int} {w : Int32} (hd : decode K.1.2.1 pc = .ok (.ldc_w i, 3)) (hw : Cond.constant K.1.1.cls i w ∈ lwg) (hn : Int32.ofInt n = w) (hc : cn n) (k : Go K (pc + 3) ls (.inl n :: st) M) : Go K pc ls st M := by
  intro hM hl hs g p l e s m args below meth c H locs la C
  subst hn
  exact lv_ldcw C.1.1 C.1.2.1 C.1.2.2.2.1 (C.1.2.2.2.2 _ hw) hd (k hM hl (hs.consI hc) g p l e s m args below meth c H locs la C)
theorem a_iload {K : Kx} {pc : Nat} {ls : List (Option AV)} {st : List AV} {M : Me} {i : Nat} {x : Int} (hd : decode K.1.2.1 pc = .ok (.iload i, 2)) (hx : ls[i]? = some (some (.inl x))) (k : Go K (pc + 2) ls (.inl x :: st) M) : Go K pc ls st M := by
  intro hM hl hs g p l e s m args below meth c H locs la C
  exact lv_iload C.1.1 C.1.2.1 hd (C.2.2.2.2.2.2.2.at hx) (k hM hl (hs.consI (hl i x hx)) g p l e s m args below meth c H locs la C)
theorem a_iload_n {K : Kx} {pc : Nat} {ls : List (Option AV)} {st : List AV} {M : Me} {n : Fin 4} {x : Int} (hd : decode K.1.2.1 pc = .ok (.iload_n n, 1)) (hx : ls[(n : Nat)]? = some (some (.inl x))) (k : Go K (pc + 1) ls (.inl x :: st) M) : Go K pc ls st M := by
  intro hM hl hs g p l e s m args below meth c H locs la C
  exact lv_iload_n C.1.1 C.1.2.1 hd rfl (C.2.2.2.2.2.2.2.at hx) (k hM hl (hs.consI (hl _ x hx)) g p l e s m args below meth c H locs la C)
theorem a_aload {K : Kx} {pc : Nat} {ls : List (Option AV)} {st : List AV} {M : Me} {i x : Nat} (hd : decode K.1.2.1 pc = .ok (.aload i, 2)) (hx : ls[i]? = some (some (.inr x))) (k : Go K (pc + 2) ls (.inr x :: st) M) : Go K pc ls st M := by
  intro hM hl hs g p l e s m args below meth c H locs la C
  exact lv_aload C.1.1 C.1.2.1 hd (C.2.2.2.2.2.2.2.at hx) (k hM hl hs.consR g p l e s m args below meth c H locs la C)
theorem a_aload_n {K : Kx} {pc : Nat} {ls : List (Option AV)} {st : List AV} {M : Me} {n : Fin 4} {x : Nat} (hd : decode K.1.2.1 pc = .ok (.aload_n n, 1)) (hx : ls[(n : Nat)]? = some (some (.inr x))) (k : Go K (pc + 1) ls (.inr x :: st) M) : Go K pc ls st M := by
  intro hM hl hs g p l e s m args below meth c H locs la C
  exact lv_aload_n C.1.1 C.1.2.1 hd rfl (C.2.2.2.2.2.2.2.at hx) (k hM hl hs.consR g p l e s m args below meth c H locs la C)
theorem a_istore {K : Kx} {pc : Nat} {ls : List (Option AV)} {st : List AV} {M : Me} {i : Nat} {x : Int} (hd : decode K.1.2.1 pc = .ok (.istore i, 2)) (hi : i < K.1.2.2.1) (k : Go K (pc + 2) (ls.set i (some (.inl x))) st M) : Go K pc ls (.inl x :: st) M := by
  intro hM hl hs g p l e s m args below meth c H locs la C
  refine lv_istore C.1.1 C.1.2.1 hd C.2.2.2.2.2.2.2 hi rfl (fun la' h' => ?_)
  exact k hM (hl.put (fun y e => by cases e; exact hs.hd)) hs.tl g p l e s m args below meth c H locs la' ⟨C.1, C.2.1, C.2.2.1, C.2.2.2.1, C.2.2.2.2.1, C.2.2.2.2.2.1, C.2.2.2.2.2.2.1, lvh.put (v := .inl x) h'⟩
theorem a_istore_n {K : Kx} {pc : Nat} {ls : List (Option AV)} {st : List AV} {M : Me} {n : Fin 4} {x : Int} (hd : decode K.1.2.1 pc = .ok (.istore_n n, 1)) (hi : (n : Nat) < K.1.2.2.1) (k : Go K (pc + 1) (ls.set (n : Nat) (some (.inl x))) st M) : Go K pc ls (.inl x :: st) M := by
  intro hM hl hs g p l e s m args below meth c H locs la C
  refine lv_istore_n C.1.1 C.1.2.1 hd rfl C.2.2.2.2.2.2.2 hi rfl (fun la' h' => ?_)
  exact k hM (hl.put (fun y e => by cases e; exact hs.hd)) hs.tl g p l e s m args below meth c H locs la' ⟨C.1, C.2.1, C.2.2.1, C.2.2.2.1, C.2.2.2.2.1, C.2.2.2.2.2.1, C.2.2.2.2.2.2.1, lvh.put (v := .inl x) h'⟩
theorem a_iinc {K : Kx} {pc : Nat} {ls : List (Option AV)} {st : List AV} {M : Me} {i : Nat} {x n : Int} (hd : decode K.1.2.1 pc = .ok (.iinc i n, 3)) (hx : ls[i]? = some (some (.inl x))) (hc : cn (x + n)) (hi : i < K.1.2.2.1) (k : Go K (pc + 3) (ls.set i (some (.inl (x + n)))) st M) : Go K pc ls st M := by
  intro hM hl hs g p l e s m args below meth c H locs la C
  obtain ⟨kk, hkk⟩ := List.getElem?_of_mem (lvf_mem g ls 0 i (.inl x) hx)
  rw [Nat.zero_add] at hkk
  refine lv_iinc C.1.1 C.1.2.1 hd C.2.2.2.2.2.2.2 hkk (Int32.ofInt_add x n).symm hi rfl (fun la' h' => ?_)
  exact k hM (hl.put (fun y e => by cases e; exact hc)) hs g p l e s m args below meth c H locs la' ⟨C.1, C.2.1, C.2.2.1, C.2.2.2.1, C.2.2.2.2.1, C.2.2.2.2.2.1, C.2.2.2.2.2.2.1, lvh.put (v := .inl (x + n)) h'⟩
theorem a_iadd {K : Kx} {pc : Nat} {ls : List (Option AV)} {st : List AV} {M : Me} {x y : Int} (hd : decode K.1.2.1 pc = .ok (.iadd, 1)) (hc : cn (x + y)) (k : Go K (pc + 1) ls (.inl (x + y) :: st) M) : Go K pc ls (.inl y :: .inl x :: st) M := by
  intro hM hl hs g p l e s m args below meth c H locs la C
  refine lv_iadd C.1.1 C.1.2.1 hd ?_
  rw [← Int32.ofInt_add]
  exact k hM hl (hs.tl.tl.consI hc) g p l e s m args below meth c H locs la C
theorem a_isub {K : Kx} {pc : Nat} {ls : List (Option AV)} {st : List AV} {M : Me} {x y : Int} (hd : decode K.1.2.1 pc = .ok (.isub, 1)) (hc : cn (x - y)) (k : Go K (pc + 1) ls (.inl (x - y) :: st) M) : Go K pc ls (.inl y :: .inl x :: st) M := by
  intro hM hl hs g p l e s m args below meth c H locs la C
  refine lv_isub C.1.1 C.1.2.1 hd ?_
  rw [← Int32.ofInt_sub]
  exact k hM hl (hs.tl.tl.consI hc) g p l e s m args below meth c H locs la C
theorem a_imul {K : Kx} {pc : Nat} {ls : List (Option AV)} {st : List AV} {M : Me} {x y : Int} (hd : decode K.1.2.1 pc = .ok (.imul, 1)) (hc : cn (x * y)) (k : Go K (pc + 1) ls (.inl (x * y) :: st) M) : Go K pc ls (.inl y :: .inl x :: st) M := by
  intro hM hl hs g p l e s m args below meth c H locs la C
  refine lv_imul C.1.1 C.1.2.1 hd ?_
  rw [← Int32.ofInt_mul]
  exact k hM hl (hs.tl.tl.consI hc) g p l e s m args below meth c H locs la C
theorem a_ineg {K : Kx} {pc : Nat} {ls : List (Option AV)} {st : List AV} {M : Me} {x : Int} (hd : decode K.1.2.1 pc = .ok (.ineg, 1)) (hc : cn (-x)) (k : Go K (pc + 1) ls (.inl (-x) :: st) M) : Go K pc ls (.inl x :: st) M := by
  intro hM hl hs g p l e s m args below meth c H locs la C
  refine lv_ineg C.1.1 C.1.2.1 hd ?_
  rw [← Int32.ofInt_neg]
  exact k hM hl (hs.tl.consI hc) g p l e s m args below meth c H locs la C
def wr (x : Int) : Int := (Int32.ofInt x).toInt
theorem cn_wr (x : Int) : cn (wr x) := cn_of32 _
theorem wr_id {x : Int} (h : cn x) : wr x = x := cn_toInt h
theorem ofInt_wr (x : Int) : Int32.ofInt (wr x) = Int32.ofInt x := ofInt_of32 _
def band (x y : Int) : Int := (Int32.ofInt x &&& Int32.ofInt y).toInt
def bor (x y : Int) : Int := (Int32.ofInt x ||| Int32.ofInt y).toInt
def bxor (x y : Int) : Int := (Int32.ofInt x ^^^ Int32.ofInt y).toInt
def bshl (x y : Int) : Int := (Int32.ofInt x <<< (Int32.ofInt y &&& 31)).toInt
def bshr (x y : Int) : Int := (Int32.ofInt x >>> (Int32.ofInt y &&& 31)).toInt
def bdiv (x y : Int) : Int := (Int32.ofInt x / Int32.ofInt y).toInt
def brem (x y : Int) : Int := (Int32.ofInt x - Int32.ofInt x / Int32.ofInt y * Int32.ofInt y).toInt
def bchr (x : Int) : Int := ((Int32.ofInt x).toUInt32 % 65536).toInt32.toInt
def bbyt (x : Int) : Int := (Int32.ofInt x).toInt8.toInt32.toInt
theorem a_iand {K : Kx} {pc : Nat} {ls : List (Option AV)} {st : List AV} {M : Me} {x y : Int} (hd : decode K.1.2.1 pc = .ok (.iand, 1)) (k : Go K (pc + 1) ls (.inl (band x y) :: st) M) : Go K pc ls (.inl y :: .inl x :: st) M := by
  intro hM hl hs g p l e s m args below meth c H locs la C
  refine lv_iand C.1.1 C.1.2.1 hd ?_
  have h := k hM hl (hs.tl.tl.consI (cn_of32 _)) g p l e s m args below meth c H locs la C
  simp only [List.map_cons, cv, band, ofInt_of32] at h
  exact h
theorem a_ior {K : Kx} {pc : Nat} {ls : List (Option AV)} {st : List AV} {M : Me} {x y : Int} (hd : decode K.1.2.1 pc = .ok (.ior, 1)) (k : Go K (pc + 1) ls (.inl (bor x y) :: st) M) : Go K pc ls (.inl y :: .inl x :: st) M := by
  intro hM hl hs g p l e s m args below meth c H locs la C
  refine lv_ior C.1.1 C.1.2.1 hd ?_
  have h := k hM hl (hs.tl.tl.consI (cn_of32 _)) g p l e s m args below meth c H locs la C
  simp only [List.map_cons, cv, bor, ofInt_of32] at h
  exact h
theorem a_ixor {K : Kx} {pc : Nat} {ls : List (Option AV)} {st : List AV} {M : Me} {x y : Int} (hd : decode K.1.2.1 pc = .ok (.ixor, 1)) (k : Go K (pc + 1) ls (.inl (bxor x y) :: st) M) : Go K pc ls (.inl y :: .inl x :: st) M := by
  intro hM hl hs g p l e s m args below meth c H locs la C
  refine lv_ixor C.1.1 C.1.2.1 hd ?_
  have h := k hM hl (hs.tl.tl.consI (cn_of32 _)) g p l e s m args below meth c H locs la C
  simp only [List.map_cons, cv, bxor, ofInt_of32] at h
  exact h
theorem a_ishl {K : Kx} {pc : Nat} {ls : List (Option AV)} {st : List AV} {M : Me} {x y : Int} (hd : decode K.1.2.1 pc = .ok (.ishl, 1)) (k : Go K (pc + 1) ls (.inl (bshl x y) :: st) M) : Go K pc ls (.inl y :: .inl x :: st) M := by
  intro hM hl hs g p l e s m args below meth c H locs la C
  refine lv_ishl C.1.1 C.1.2.1 hd ?_
  have h := k hM hl (hs.tl.tl.consI (cn_of32 _)) g p l e s m args below meth c H locs la C
  simp only [List.map_cons, cv, bshl, ofInt_of32] at h
  exact h
theorem a_ishr {K : Kx} {pc : Nat} {ls : List (Option AV)} {st : List AV} {M : Me} {x y : Int} (hd : decode K.1.2.1 pc = .ok (.ishr, 1)) (k : Go K (pc + 1) ls (.inl (bshr x y) :: st) M) : Go K pc ls (.inl y :: .inl x :: st) M := by
  intro hM hl hs g p l e s m args below meth c H locs la C
  refine lv_ishr C.1.1 C.1.2.1 hd ?_
  have h := k hM hl (hs.tl.tl.consI (cn_of32 _)) g p l e s m args below meth c H locs la C
  simp only [List.map_cons, cv, bshr, ofInt_of32] at h
  exact h
theorem a_idiv {K : Kx} {pc : Nat} {ls : List (Option AV)} {st : List AV} {M : Me} {x y : Int} (hd : decode K.1.2.1 pc = .ok (.idiv, 1)) (h0 : y ≠ 0) (k : Go K (pc + 1) ls (.inl (bdiv x y) :: st) M) : Go K pc ls (.inl y :: .inl x :: st) M := by
  intro hM hl hs g p l e s m args below meth c H locs la C
  refine lv_idiv C.1.1 C.1.2.1 hd ?_ ?_
  · intro h
    exact h0 ((cn_eq hs.hd cn_0).mp (by rw [h]; rfl))
  · have h := k hM hl (hs.tl.tl.consI (cn_of32 _)) g p l e s m args below meth c H locs la C
    simp only [List.map_cons, cv, bdiv, ofInt_of32] at h
    exact h
theorem a_irem {K : Kx} {pc : Nat} {ls : List (Option AV)} {st : List AV} {M : Me} {x y : Int} (hd : decode K.1.2.1 pc = .ok (.irem, 1)) (h0 : y ≠ 0) (k : Go K (pc + 1) ls (.inl (brem x y) :: st) M) : Go K pc ls (.inl y :: .inl x :: st) M := by
  intro hM hl hs g p l e s m args below meth c H locs la C
  refine lv_irem C.1.1 C.1.2.1 hd ?_ ?_
  · intro h
    exact h0 ((cn_eq hs.hd cn_0).mp (by rw [h]; rfl))
  · have h := k hM hl (hs.tl.tl.consI (cn_of32 _)) g p l e s m args below meth c H locs la C
    simp only [List.map_cons, cv, brem, ofInt_of32] at h
    exact h
theorem a_iaddw {K : Kx} {pc : Nat} {ls : List (Option AV)} {st : List AV} {M : Me} {x y : Int} (hd : decode K.1.2.1 pc = .ok (.iadd, 1)) (k : Go K (pc + 1) ls (.inl (wr (x + y)) :: st) M) : Go K pc ls (.inl y :: .inl x :: st) M := by
  intro hM hl hs g p l e s m args below meth c H locs la C
  refine lv_iadd C.1.1 C.1.2.1 hd ?_
  have h := k hM hl (hs.tl.tl.consI (cn_wr _)) g p l e s m args below meth c H locs la C
  simp only [List.map_cons, cv, ofInt_wr, Int32.ofInt_add] at h
  exact h
theorem a_isubw {K : Kx} {pc : Nat} {ls : List (Option AV)} {st : List AV} {M : Me} {x y : Int} (hd : decode K.1.2.1 pc = .ok (.isub, 1)) (k : Go K (pc + 1) ls (.inl (wr (x - y)) :: st) M) : Go K pc ls (.inl y :: .inl x :: st) M := by
  intro hM hl hs g p l e s m args below meth c H locs la C
  refine lv_isub C.1.1 C.1.2.1 hd ?_
  have h := k hM hl (hs.tl.tl.consI (cn_wr _)) g p l e s m args below meth c H locs la C
  simp only [List.map_cons, cv, ofInt_wr, Int32.ofInt_sub] at h
  exact h
theorem a_imulw {K : Kx} {pc : Nat} {ls : List (Option AV)} {st : List AV} {M : Me} {x y : Int} (hd : decode K.1.2.1 pc = .ok (.imul, 1)) (k : Go K (pc + 1) ls (.inl (wr (x * y)) :: st) M) : Go K pc ls (.inl y :: .inl x :: st) M := by
  intro hM hl hs g p l e s m args below meth c H locs la C
  refine lv_imul C.1.1 C.1.2.1 hd ?_
  have h := k hM hl (hs.tl.tl.consI (cn_wr _)) g p l e s m args below meth c H locs la C
  simp only [List.map_cons, cv, ofInt_wr, Int32.ofInt_mul] at h
  exact h
theorem a_i2c {K : Kx} {pc : Nat} {ls : List (Option AV)} {st : List AV} {M : Me} {x : Int} (hd : decode K.1.2.1 pc = .ok (.i2c, 1)) (k : Go K (pc + 1) ls (.inl (bchr x) :: st) M) : Go K pc ls (.inl x :: st) M := by
  intro hM hl hs g p l e s m args below meth c H locs la C
  refine lv_i2c C.1.1 C.1.2.1 hd rfl ?_
  have h := k hM hl (hs.tl.consI (cn_of32 _)) g p l e s m args below meth c H locs la C
  simp only [List.map_cons, cv, bchr, ofInt_of32] at h
  exact h
theorem a_i2b {K : Kx} {pc : Nat} {ls : List (Option AV)} {st : List AV} {M : Me} {x : Int} (hd : decode K.1.2.1 pc = .ok (.i2b, 1)) (k : Go K (pc + 1) ls (.inl (bbyt x) :: st) M) : Go K pc ls (.inl x :: st) M := by
  intro hM hl hs g p l e s m args below meth c H locs la C
  refine lv_i2b C.1.1 C.1.2.1 hd rfl ?_
  have h := k hM hl (hs.tl.consI (cn_of32 _)) g p l e s m args below meth c H locs la C
  simp only [List.map_cons, cv, bbyt, ofInt_of32] at h
  exact h
theorem a_dup {K : Kx} {pc : Nat} {ls : List (Option AV)} {st : List AV} {M : Me} {v : AV} (hd : decode K.1.2.1 pc = .ok (.dup, 1)) (k : Go K (pc + 1) ls (v :: v :: st) M) : Go K pc ls (v :: st) M := by
  intro hM hl hs g p l e s m args below meth c H locs la C
  refine lv_dup C.1.1 C.1.2.1 hd (cv_cat g v) ?_
  exact k hM hl (fun y hy => hs y (by rcases List.mem_cons.mp hy with e | e; · rw [e]; exact List.mem_cons_self
                                      · exact e)) g p l e s m args below meth c H locs la C
theorem a_pop {K : Kx} {pc : Nat} {ls : List (Option AV)} {st : List AV} {M : Me} {v : AV} (hd : decode K.1.2.1 pc = .ok (.pop, 1)) (k : Go K (pc + 1) ls st M) : Go K pc ls (v :: st) M := by
  intro hM hl hs g p l e s m args below meth c H locs la C
  exact lv_pop C.1.1 C.1.2.1 hd (cv_cat g v) (k hM hl hs.tl g p l e s m args below meth c H locs la C)
theorem a_dup2 {K : Kx} {pc : Nat} {ls : List (Option AV)} {st : List AV} {M : Me} {v w : AV} (hd : decode K.1.2.1 pc = .ok (.dup2, 1)) (k : Go K (pc + 1) ls (v :: w :: v :: w :: st) M) : Go K pc ls (v :: w :: st) M := by
  intro hM hl hs g p l e s m args below meth c H locs la C
  refine lv_dup2_11 C.1.1 C.1.2.1 hd (cv_cat g v) (cv_cat g w) ?_
  refine k hM hl (fun y hy => hs y ?_) g p l e s m args below meth c H locs la C
  simp only [List.mem_cons] at hy ⊢
  rcases hy with h | h | h | h | h
  · exact Or.inl h
  · exact Or.inr (Or.inl h)
  · exact Or.inl h
  · exact Or.inr (Or.inl h)
  · exact Or.inr (Or.inr h)
theorem a_icmp_eq {K : Kx} {pc : Nat} {ls : List (Option AV)} {st : List AV} {M : Me} {x y off : Int} (tgt : Nat) (hd : decode K.1.2.1 pc = .ok (.if_icmp .eq off, 3)) (ht : (pc : Int) + off = (tgt : Int)) (k : (x = y → Go K tgt ls st M) ∧ (x ≠ y → Go K (pc + 3) ls st M)) : Go K pc ls (.inl y :: .inl x :: st) M := by
  intro hM hl hs g p l e s m args below meth c H locs la C
  have hy := hs.hd
  have hx := hs.tl.hd
  refine lv_icmp_eq C.1.1 C.1.2.1 hd ht (fun h => ?_) (fun h => ?_)
  · exact k.1 (by first | (simp only [ge_iff_le, gt_iff_lt, cn_eq hx hy, cn_eq hy hx, cn_lt hx hy, cn_le hx hy, cn_lt hy hx, cn_le hy hx, ne_eq] at h ⊢; first | exact h | omega) | (simp only [cn_eq hx hy, cn_lt hx hy, cn_le hx hy, cn_lt hy hx, cn_le hy hx, ge_iff_le, gt_iff_lt, ne_eq, Decidable.not_not] at h ⊢; omega)) hM hl hs.tl.tl g p l e s m args below meth c H locs la C
  · exact k.2 (by first | (simp only [ge_iff_le, gt_iff_lt, cn_eq hx hy, cn_eq hy hx, cn_lt hx hy, cn_le hx hy, cn_lt hy hx, cn_le hy hx, ne_eq] at h ⊢; first | exact h | omega) | (simp only [cn_eq hx hy, cn_lt hx hy, cn_le hx hy, cn_lt hy hx, cn_le hy hx, ge_iff_le, gt_iff_lt, ne_eq, Decidable.not_not] at h ⊢; omega)) hM hl hs.tl.tl g p l e s m args below meth c H locs la C
theorem a_if_eq {K : Kx} {pc : Nat} {ls : List (Option AV)} {st : List AV} {M : Me} {x off : Int} (tgt : Nat) (hd : decode K.1.2.1 pc = .ok (.ifCond .eq off, 3)) (ht : (pc : Int) + off = (tgt : Int)) (k : (x = 0 → Go K tgt ls st M) ∧ (x ≠ 0 → Go K (pc + 3) ls st M)) : Go K pc ls (.inl x :: st) M := by
  intro hM hl hs g p l e s m args below meth c H locs la C
  have hx := hs.hd
  have hy : cn 0 := cn_0
  have e0 : (0 : Int32) = Int32.ofInt 0 := rfl
  refine lv_if_eq C.1.1 C.1.2.1 hd ht (fun h => ?_) (fun h => ?_)
  · rw [e0] at h
    exact k.1 (by first | (simp only [ge_iff_le, gt_iff_lt, cn_eq hx hy, cn_eq hy hx, cn_lt hx hy, cn_le hx hy, cn_lt hy hx, cn_le hy hx, ne_eq] at h ⊢; first | exact h | omega) | (simp only [cn_eq hx hy, cn_lt hx hy, cn_le hx hy, cn_lt hy hx, cn_le hy hx, ge_iff_le, gt_iff_lt, ne_eq, Decidable.not_not] at h ⊢; omega)) hM hl hs.tl g p l e s m args below meth c H locs la C
  · rw [e0] at h
    exact k.2 (by first | (simp only [ge_iff_le, gt_iff_lt, cn_eq hx hy, cn_eq hy hx, cn_lt hx hy, cn_le hx hy, cn_lt hy hx, cn_le hy hx, ne_eq] at h ⊢; first | exact h | omega) | (simp only [cn_eq hx hy, cn_lt hx hy, cn_le hx hy, cn_lt hy hx, cn_le hy hx, ge_iff_le, gt_iff_lt, ne_eq, Decidable.not_not] at h ⊢; omega)) hM hl hs.tl g p l e s m args below meth c H locs la C
theorem a_icmp_ne {K : Kx} {pc : Nat} {ls : List (Option AV)} {st : List AV} {M : Me} {x y off : Int} (tgt : Nat) (hd : decode K.1.2.1 pc = .ok (.if_icmp .ne off, 3)) (ht : (pc : Int) + off = (tgt : Int)) (k : (x ≠ y → Go K tgt ls st M) ∧ (x = y → Go K (pc + 3) ls st M)) : Go K pc ls (.inl y :: .inl x :: st) M := by
  intro hM hl hs g p l e s m args below meth c H locs la C
  have hy := hs.hd
  have hx := hs.tl.hd
  refine lv_icmp_ne C.1.1 C.1.2.1 hd ht (fun h => ?_) (fun h => ?_)
  · exact k.1 (by first | (simp only [ge_iff_le, gt_iff_lt, cn_eq hx hy, cn_eq hy hx, cn_lt hx hy, cn_le hx hy, cn_lt hy hx, cn_le hy hx, ne_eq] at h ⊢; first | exact h | omega) | (simp only [cn_eq hx hy, cn_lt hx hy, cn_le hx hy, cn_lt hy hx, cn_le hy hx, ge_iff_le, gt_iff_lt, ne_eq, Decidable.not_not] at h ⊢; omega)) hM hl hs.tl.tl g p l e s m args below meth c H locs la C
  · exact k.2 (by first | (simp only [ge_iff_le, gt_iff_lt, cn_eq hx hy, cn_eq hy hx, cn_lt hx hy, cn_le hx hy, cn_lt hy hx, cn_le hy hx, ne_eq] at h ⊢; first | exact h | omega) | (simp only [cn_eq hx hy, cn_lt hx hy, cn_le hx hy, cn_lt hy hx, cn_le hy hx, ge_iff_le, gt_iff_lt, ne_eq, Decidable.not_not] at h ⊢; omega)) hM hl hs.tl.tl g p l e s m args below meth c H locs la C
theorem a_if_ne {K : Kx} {pc : Nat} {ls : List (Option AV)} {st : List AV} {M : Me} {x off : Int} (tgt : Nat) (hd : decode K.1.2.1 pc = .ok (.ifCond .ne off, 3)) (ht : (pc : Int) + off = (tgt : Int)) (k : (x ≠ 0 → Go K tgt ls st M) ∧ (x = 0 → Go K (pc + 3) ls st M)) : Go K pc ls (.inl x :: st) M := by
  intro hM hl hs g p l e s m args below meth c H locs la C
  have hx := hs.hd
  have hy : cn 0 := cn_0
  have e0 : (0 : Int32) = Int32.ofInt 0 := rfl
  refine lv_if_ne C.1.1 C.1.2.1 hd ht (fun h => ?_) (fun h => ?_)
  · rw [e0] at h
    exact k.1 (by first | (simp only [ge_iff_le, gt_iff_lt, cn_eq hx hy, cn_eq hy hx, cn_lt hx hy, cn_le hx hy, cn_lt hy hx, cn_le hy hx, ne_eq] at h ⊢; first | exact h | omega) | (simp only [cn_eq hx hy, cn_lt hx hy, cn_le hx hy, cn_lt hy hx, cn_le hy hx, ge_iff_le, gt_iff_lt, ne_eq, Decidable.not_not] at h ⊢; omega)) hM hl hs.tl g p l e s m args below meth c H locs la C
  · rw [e0] at h
    exact k.2 (by first | (simp only [ge_iff_le, gt_iff_lt, cn_eq hx hy, cn_eq hy hx, cn_lt hx hy, cn_le hx hy, cn_lt hy hx, cn_le hy hx, ne_eq] at h ⊢; first | exact h | omega) | (simp only [cn_eq hx hy, cn_lt hx hy, cn_le hx hy, cn_lt hy hx, cn_le hy hx, ge_iff_le, gt_iff_lt, ne_eq, Decidable.not_not] at h ⊢; omega)) hM hl hs.tl g p l e s m args below meth c H locs la C
theorem a_icmp_lt {K : Kx} {pc : Nat} {ls : List (Option AV)} {st : List AV} {M : Me} {x y off : Int} (tgt : Nat) (hd : decode K.1.2.1 pc = .ok (.if_icmp .lt off, 3)) (ht : (pc : Int) + off = (tgt : Int)) (k : (x < y → Go K tgt ls st M) ∧ (y ≤ x → Go K (pc + 3) ls st M)) : Go K pc ls (.inl y :: .inl x :: st) M := by
  intro hM hl hs g p l e s m args below meth c H locs la C
  have hy := hs.hd
  have hx := hs.tl.hd
  refine lv_icmp_lt C.1.1 C.1.2.1 hd ht (fun h => ?_) (fun h => ?_)
  · exact k.1 (by first | (simp only [ge_iff_le, gt_iff_lt, cn_eq hx hy, cn_eq hy hx, cn_lt hx hy, cn_le hx hy, cn_lt hy hx, cn_le hy hx, ne_eq] at h ⊢; first | exact h | omega) | (simp only [cn_eq hx hy, cn_lt hx hy, cn_le hx hy, cn_lt hy hx, cn_le hy hx, ge_iff_le, gt_iff_lt, ne_eq, Decidable.not_not] at h ⊢; omega)) hM hl hs.tl.tl g p l e s m args below meth c H locs la C
  · exact k.2 (by first | (simp only [ge_iff_le, gt_iff_lt, cn_eq hx hy, cn_eq hy hx, cn_lt hx hy, cn_le hx hy, cn_lt hy hx, cn_le hy hx, ne_eq] at h ⊢; first | exact h | omega) | (simp only [cn_eq hx hy, cn_lt hx hy, cn_le hx hy, cn_lt hy hx, cn_le hy hx, ge_iff_le, gt_iff_lt, ne_eq, Decidable.not_not] at h ⊢; omega)) hM hl hs.tl.tl g p l e s m args below meth c H locs la C
theorem a_if_lt {K : Kx} {pc : Nat} {ls : List (Option AV)} {st : List AV} {M : Me} {x off : Int} (tgt : Nat) (hd : decode K.1.2.1 pc = .ok (.ifCond .lt off, 3)) (ht : (pc : Int) + off = (tgt : Int)) (k : (x < 0 → Go K tgt ls st M) ∧ (0 ≤ x → Go K (pc + 3) ls st M)) : Go K pc ls (.inl x :: st) M := by
  intro hM hl hs g p l e s m args below meth c H locs la C
  have hx := hs.hd
  have hy : cn 0 := cn_0
  have e0 : (0 : Int32) = Int32.ofInt 0 := rfl
  refine lv_if_lt C.1.1 C.1.2.1 hd ht (fun h => ?_) (fun h => ?_)
  · rw [e0] at h
    exact k.1 (by first | (simp only [ge_iff_le, gt_iff_lt, cn_eq hx hy, cn_eq hy hx, cn_lt hx hy, cn_le hx hy, cn_lt hy hx, cn_le hy hx, ne_eq] at h ⊢; first | exact h | omega) | (simp only [cn_eq hx hy, cn_lt hx hy, cn_le hx hy, cn_lt hy hx, cn_le hy hx, ge_iff_le, gt_iff_lt, ne_eq, Decidable.not_not] at h ⊢; omega)) hM hl hs.tl g p l e s m args below meth c H locs la C
  · rw [e0] at h
    exact k.2 (by first | (simp only [ge_iff_le, gt_iff_lt, cn_eq hx hy, cn_eq hy hx, cn_lt hx hy, cn_le hx hy, cn_lt hy hx, cn_le hy hx, ne_eq] at h ⊢; first | exact h | omega) | (simp only [cn_eq hx hy, cn_lt hx hy, cn_le hx hy, cn_lt hy hx, cn_le hy hx, ge_iff_le, gt_iff_lt, ne_eq, Decidable.not_not] at h ⊢; omega)) hM hl hs.tl g p l e s m args below meth c H locs la C
theorem a_icmp_ge {K : Kx} {pc : Nat} {ls : List (Option AV)} {st : List AV} {M : Me} {x y off : Int} (tgt : Nat) (hd : decode K.1.2.1 pc = .ok (.if_icmp .ge off, 3)) (ht : (pc : Int) + off = (tgt : Int)) (k : (y ≤ x → Go K tgt ls st M) ∧ (x < y → Go K (pc + 3) ls st M)) : Go K pc ls (.inl y :: .inl x :: st) M := by
  intro hM hl hs g p l e s m args below meth c H locs la C
  have hy := hs.hd
  have hx := hs.tl.hd
  refine lv_icmp_ge C.1.1 C.1.2.1 hd ht (fun h => ?_) (fun h => ?_)
  · exact k.1 (by first | (simp only [ge_iff_le, gt_iff_lt, cn_eq hx hy, cn_eq hy hx, cn_lt hx hy, cn_le hx hy, cn_lt hy hx, cn_le hy hx, ne_eq] at h ⊢; first | exact h | omega) | (simp only [cn_eq hx hy, cn_lt hx hy, cn_le hx hy, cn_lt hy hx, cn_le hy hx, ge_iff_le, gt_iff_lt, ne_eq, Decidable.not_not] at h ⊢; omega)) hM hl hs.tl.tl g p l e s m args below meth c H locs la C
  · exact k.2 (by first | (simp only [ge_iff_le, gt_iff_lt, cn_eq hx hy, cn_eq hy hx, cn_lt hx hy, cn_le hx hy, cn_lt hy hx, cn_le hy hx, ne_eq] at h ⊢; first | exact h | omega) | (simp only [cn_eq hx hy, cn_lt hx hy, cn_le hx hy, cn_lt hy hx, cn_le hy hx, ge_iff_le, gt_iff_lt, ne_eq, Decidable.not_not] at h ⊢; omega)) hM hl hs.tl.tl g p l e s m args below meth c H locs la C
theorem a_if_ge {K : Kx} {pc : Nat} {ls : List (Option AV)} {st : List AV} {M : Me} {x off : Int} (tgt : Nat) (hd : decode K.1.2.1 pc = .ok (.ifCond .ge off, 3)) (ht : (pc : Int) + off = (tgt : Int)) (k : (0 ≤ x → Go K tgt ls st M) ∧ (x < 0 → Go K (pc + 3) ls st M)) : Go K pc ls (.inl x :: st) M := by
  intro hM hl hs g p l e s m args below meth c H locs la C
  have hx := hs.hd
  have hy : cn 0 := cn_0
  have e0 : (0 : Int32) = Int32.ofInt 0 := rfl
  refine lv_if_ge C.1.1 C.1.2.1 hd ht (fun h => ?_) (fun h => ?_)
  · rw [e0] at h
    exact k.1 (by first | (simp only [ge_iff_le, gt_iff_lt, cn_eq hx hy, cn_eq hy hx, cn_lt hx hy, cn_le hx hy, cn_lt hy hx, cn_le hy hx, ne_eq] at h ⊢; first | exact h | omega) | (simp only [cn_eq hx hy, cn_lt hx hy, cn_le hx hy, cn_lt hy hx, cn_le hy hx, ge_iff_le, gt_iff_lt, ne_eq, Decidable.not_not] at h ⊢; omega)) hM hl hs.tl g p l e s m args below meth c H locs la C
  · rw [e0] at h
    exact k.2 (by first | (simp only [ge_iff_le, gt_iff_lt, cn_eq hx hy, cn_eq hy hx, cn_lt hx hy, cn_le hx hy, cn_lt hy hx, cn_le hy hx, ne_eq] at h ⊢; first | exact h | omega) | (simp only [cn_eq hx hy, cn_lt hx hy, cn_le hx hy, cn_lt hy hx, cn_le hy hx, ge_iff_le, gt_iff_lt, ne_eq, Decidable.not_not] at h ⊢; omega)) hM hl hs.tl g p l e s m args below meth c H locs la C
theorem a_icmp_gt {K : Kx} {pc : Nat} {ls : List (Option AV)} {st : List AV} {M : Me} {x y off : Int} (tgt : Nat) (hd : decode K.1.2.1 pc = .ok (.if_icmp .gt off, 3)) (ht : (pc : Int) + off = (tgt : Int)) (k : (y < x → Go K tgt ls st M) ∧ (x ≤ y → Go K (pc + 3) ls st M)) : Go K pc ls (.inl y :: .inl x :: st) M := by
  intro hM hl hs g p l e s m args below meth c H locs la C
  have hy := hs.hd
  have hx := hs.tl.hd
  refine lv_icmp_gt C.1.1 C.1.2.1 hd ht (fun h => ?_) (fun h => ?_)
  · exact k.1 (by first | (simp only [ge_iff_le, gt_iff_lt, cn_eq hx hy, cn_eq hy hx, cn_lt hx hy, cn_le hx hy, cn_lt hy hx, cn_le hy hx, ne_eq] at h ⊢; first | exact h | omega) | (simp only [cn_eq hx hy, cn_lt hx hy, cn_le hx hy, cn_lt hy hx, cn_le hy hx, ge_iff_le, gt_iff_lt, ne_eq, Decidable.not_not] at h ⊢; omega)) hM hl hs.tl.tl g p l e s m args below meth c H locs la C
  · exact k.2 (by first | (simp only [ge_iff_le, gt_iff_lt, cn_eq hx hy, cn_eq hy hx, cn_lt hx hy, cn_le hx hy, cn_lt hy hx, cn_le hy hx, ne_eq] at h ⊢; first | exact h | omega) | (simp only [cn_eq hx hy, cn_lt hx hy, cn_le hx hy, cn_lt hy hx, cn_le hy hx, ge_iff_le, gt_iff_lt, ne_eq, Decidable.not_not] at h ⊢; omega)) hM hl hs.tl.tl g p l e s m args below meth c H locs la C
theorem a_if_gt {K : Kx} {pc : Nat} {ls : List (Option AV)} {st : List AV} {M : Me} {x off : Int} (tgt : Nat) (hd : decode K.1.2.1 pc = .ok (.ifCond .gt off, 3)) (ht : (pc : Int) + off = (tgt : Int)) (k : (0 < x → Go K tgt ls st M) ∧ (x ≤ 0 → Go K (pc + 3) ls st M)) : Go K pc ls (.inl x :: st) M := by
  intro hM hl hs g p l e s m args below meth c H locs la C
  have hx := hs.hd
  have hy : cn 0 := cn_0
  have e0 : (0 : Int32) = Int32.ofInt 0 := rfl
  refine lv_if_gt C.1.1 C.1.2.1 hd ht (fun h => ?_) (fun h => ?_)
  · rw [e0] at h
    exact k.1 (by first | (simp only [ge_iff_le, gt_iff_lt, cn_eq hx hy, cn_eq hy hx, cn_lt hx hy, cn_le hx hy, cn_lt hy hx, cn_le hy hx, ne_eq] at h ⊢; first | exact h | omega) | (simp only [cn_eq hx hy, cn_lt hx hy, cn_le hx hy, cn_lt hy hx, cn_le hy hx, ge_iff_le, gt_iff_lt, ne_eq, Decidable.not_not] at h ⊢; omega)) hM hl hs.tl g p l e s m args below meth c H locs la C
  · rw [e0] at h
    exact k.2 (by first | (simp only [ge_iff_le, gt_iff_lt, cn_eq hx hy, cn_eq hy hx, cn_lt hx hy, cn_le hx hy, cn_lt hy hx, cn_le hy hx, ne_eq] at h ⊢; first | exact h | omega) | (simp only [cn_eq hx hy, cn_lt hx hy, cn_le hx hy, cn_lt hy hx, cn_le hy hx, ge_iff_le, gt_iff_lt, ne_eq, Decidable.not_not] at h ⊢; omega)) hM hl hs.tl g p l e s m args below meth c H locs la C
theorem a_icmp_le {K : Kx} {pc : Nat} {ls : List (Option AV)} {st : List AV} {M : Me} {x y off : Int} (tgt : Nat) (hd : decode K.1.2.1 pc = .ok (.if_icmp .le off, 3)) (ht : (pc : Int) + off = (tgt : Int)) (k : (x ≤ y → Go K tgt ls st M) ∧ (y < x → Go K (pc + 3) ls st M)) : Go K pc ls (.inl y :: .inl x :: st) M := by
  intro hM hl hs g p l e s m args below meth c H locs la C
  have hy := hs.hd
  have hx := hs.tl.hd
  refine lv_icmp_le C.1.1 C.1.2.1 hd ht (fun h => ?_) (fun h => ?_)
  · exact k.1 (by first | (simp only [ge_iff_le, gt_iff_lt, cn_eq hx hy, cn_eq hy hx, cn_lt hx hy, cn_le hx hy, cn_lt hy hx, cn_le hy hx, ne_eq] at h ⊢; first | exact h | omega) | (simp only [cn_eq hx hy, cn_lt hx hy, cn_le hx hy, cn_lt hy hx, cn_le hy hx, ge_iff_le, gt_iff_lt, ne_eq, Decidable.not_not] at h ⊢; omega)) hM hl hs.tl.tl g p l e s m args below meth c H locs la C
  · exact k.2 (by first | (simp only [ge_iff_le, gt_iff_lt, cn_eq hx hy, cn_eq hy hx, cn_lt hx hy, cn_le hx hy, cn_lt hy hx, cn_le hy hx, ne_eq] at h ⊢; first | exact h | omega) | (simp only [cn_eq hx hy, cn_lt hx hy, cn_le hx hy, cn_lt hy hx, cn_le hy hx, ge_iff_le, gt_iff_lt, ne_eq, Decidable.not_not] at h ⊢; omega)) hM hl hs.tl.tl g p l e s m args below meth c H locs la C
theorem a_if_le {K : Kx} {pc : Nat} {ls : List (Option AV)} {st : List AV} {M : Me} {x off : Int} (tgt : Nat) (hd : decode K.1.2.1 pc = .ok (.ifCond .le off, 3)) (ht : (pc : Int) + off = (tgt : Int)) (k : (x ≤ 0 → Go K tgt ls st M) ∧ (0 < x → Go K (pc + 3) ls st M)) : Go K pc ls (.inl x :: st) M := by
  intro hM hl hs g p l e s m args below meth c H locs la C
  have hx := hs.hd
  have hy : cn 0 := cn_0
  have e0 : (0 : Int32) = Int32.ofInt 0 := rfl
  refine lv_if_le C.1.1 C.1.2.1 hd ht (fun h => ?_) (fun h => ?_)
  · rw [e0] at h
    exact k.1 (by first | (simp only [ge_iff_le, gt_iff_lt, cn_eq hx hy, cn_eq hy hx, cn_lt hx hy, cn_le hx hy, cn_lt hy hx, cn_le hy hx, ne_eq] at h ⊢; first | exact h | omega) | (simp only [cn_eq hx hy, cn_lt hx hy, cn_le hx hy, cn_lt hy hx, cn_le hy hx, ge_iff_le, gt_iff_lt, ne_eq, Decidable.not_not] at h ⊢; omega)) hM hl hs.tl g p l e s m args below meth c H locs la C
  · rw [e0] at h
    exact k.2 (by first | (simp only [ge_iff_le, gt_iff_lt, cn_eq hx hy, cn_eq hy hx, cn_lt hx hy, cn_le hx hy, cn_lt hy hx, cn_le hy hx, ne_eq] at h ⊢; first | exact h | omega) | (simp only [cn_eq hx hy, cn_lt hx hy, cn_le hx hy, cn_lt hy hx, cn_le hy hx, ge_iff_le, gt_iff_lt, ne_eq, Decidable.not_not] at h ⊢; omega)) hM hl hs.tl g p l e s m args below meth c H locs la C
theorem a_goto {K : Kx} {pc : Nat} {ls : List (Option AV)} {st : List AV} {M : Me} {off : Int} (tgt : Nat) (hd : decode K.1.2.1 pc = .ok (.goto off, 3)) (ht : (pc : Int) + off = (tgt : Int)) (k : Go K tgt ls st M) : Go K pc ls st M := by
  intro hM hl hs g p l e s m args below meth c H locs la C
  exact lv_goto C.1.1 C.1.2.1 hd ht (k hM hl hs g p l e s m args below meth c H locs la C)
theorem a_tableOut {K : Kx} {pc : Nat} {ls : List (Option AV)} {st : List AV} {M : Me} {x dflt lo hi : Int} {offs : Array Int} {len : Nat} (tgt : Nat) (hd : decode K.1.2.1 pc = .ok (.tableswitch dflt lo hi offs, len)) (h : x < lo ∨ hi < x) (ht : (pc : Int) + dflt = (tgt : Int)) (k : Go K tgt ls st M) : Go K pc ls (.inl x :: st) M := by
  intro hM hl hs g p l e s m args below meth c H locs la C
  exact lv_tableOut C.1.1 C.1.2.1 hd (by rw [cn_toInt hs.hd]; exact h) ht (k hM hl hs.tl g p l e s m args below meth c H locs la C)
theorem a_tableIn {K : Kx} {pc : Nat} {ls : List (Option AV)} {st : List AV} {M : Me} {x dflt lo hi off : Int} {offs : Array Int} {len : Nat} (tgt : Nat) (hd : decode K.1.2.1 pc = .ok (.tableswitch dflt lo hi offs, len)) (h1 : ¬ x < lo) (h2 : ¬ hi < x) (ho : offs[(x - lo).toNat]? = some off) (ht : (pc : Int) + off = (tgt : Int)) (k : Go K tgt ls st M) : Go K pc ls (.inl x :: st) M := by
  intro hM hl hs g p l e s m args below meth c H locs la C
  have e9 := cn_toInt hs.hd
  exact lv_tableIn C.1.1 C.1.2.1 hd (by rw [e9]; exact h1) (by rw [e9]; exact h2) (by rw [e9]; exact ho) ht (k hM hl hs.tl g p l e s m args below meth c H locs la C)
theorem a_lookup {K : Kx} {pc : Nat} {ls : List (Option AV)} {st : List AV} {M : Me} {x dflt off : Int} {ps : Array (Int × Int)} {len : Nat} (tgt : Nat) (hd : decode K.1.2.1 pc = .ok (.lookupswitch dflt ps, len)) (hp : (ps.toList.zip (ps.toList.drop 1)).all (fun (a, next) => a.1 < next.1) = true) (ho : Op.lookupswitch.offset ps.toList dflt x = off) (ht : (pc : Int) + off = (tgt : Int)) (k : Go K tgt ls st M) : Go K pc ls (.inl x :: st) M := by
  intro hM hl hs g p l e s m args below meth c H locs la C
  exact lv_lookup C.1.1 C.1.2.1 hd hp (by rw [cn_toInt hs.hd]; exact ho) ht (k hM hl hs.tl g p l e s m args below meth c H locs la C)
def fldS (o ci k : Nat) : Option (Option Nat) := match lay[o]? with
  | some (.inr q) => if q.1 = ci then q.2[k]? else none
  | _ => none
theorem fldS_spec {o ci k : Nat} {r : Option Nat} (h : fldS o ci k = some r) : ∃ ss, lay[o]? = some (.inr (ci, ss)) ∧ ss[k]? = some r := by
  unfold fldS at h
  split at h
  · next q hq =>
    by_cases e : q.1 = ci
    · rw [if_pos e] at h
      exact ⟨q.2, by rw [hq, ← e], h⟩
    · rw [if_neg e] at h
      cases h
  · cases h
def FOK (own : String) (idx ci k : Nat) (fin : Bool) (ty : FieldType) : Prop := ∃ (C : String) (T : u_T) (N : Nat) (ty0 : Nat → FieldType), vwCl[ci]? = some (C, T, N) ∧ k < N ∧ (∀ w ∈ u_ws C T N, w ∈ lwg) ∧ (∀ j, j < N → parseFieldDescriptor (T j).2.2.1 = some (ty0 j)) ∧ (∀ a, a < N → ∀ b, b < N → a ≠ b → (T a).2.1 ≠ (T b).2.1) ∧ (Cond.fieldLink own idx (T k).1 (T k).2.1 (T k).2.2.1 ∈ lwg ∨ ∃ host, Cond.fieldLinkNest own idx (T k).1 (T k).2.1 (T k).2.2.1 host ∈ lw_tbl) ∧ (T k).2.2.2 = fin ∧ ty0 k = ty
def fvs (g : Cfg) (M : Me) (o : Nat) (ss : List (Option Nat)) : List Value := ss.mapIdx (fun j x => match x with
    | some r => Value.ref (cgA g r)
    | none => Value.int (Int32.ofInt (M o (j : Int))))
theorem va_getG {g : Cfg} {K : Kx} {p : Program} {l : Launch} {e : Env} {R : Room} {s : State} {m : MethodId} {args : Array Value} {below : List Frame} {meth : Method} {c : Code} {H : Heap} {locs : List Loc} {cells slots : Nat} {Q : State → Prop} {pc : Nat} {la : Array Slot} {ls : List (Option AV)} {rest : List Value} {M : Me} {idx ci k o : Nat} {fin : Bool} {ty : FieldType} {ss : List (Option Nat)} {v : Value}
    (C : Cx K g p s m args meth c H locs la ls M) (hf : FOK K.1.1.cls idx ci k fin ty) (ho : lay[o]? = some (.inr (ci, ss))) (hv : (fvs g M o ss)[k]? = some v) (hd : decode K.1.2.1 pc = .ok (.getfield idx, 3))
    (kk : W p l e R s m args below meth c H locs cells slots Q (F0 m (pc + 3) la (v :: rest))) : W p l e R s m args below meth c H locs cells slots Q (F0 m pc la (.ref (cgA g o) :: rest)) := by
  obtain ⟨Cn, T, N, ty0, f1, f2, f3, f4, f5, f6, f7, f8⟩ := hf
  rcases f6 with f6 | ⟨host, f6⟩
  · exact va_get C.1.1 C.1.2.1 C.1.2.2.2.2 f3 C.1.2.2.2.1 C.2.2.2.1.1 C.2.2.2.2.2.1 o (ww_at g M ho) f1 k f2 (C.1.2.2.2.2 _ f6) (fun x h => h) hv hd kk
  · exact va_getN C.1.1 C.1.2.1 C.1.2.2.2.2 f3 C.1.2.2.2.1 C.2.2.2.1.1 C.2.2.2.2.2.1 o (ww_at g M ho) f1 k f2 (va_Nw.use rfl (C.2.2.2.1.2.2.1 _ f6 rfl)) (fun x h => h) hv hd kk
theorem a_geti {K : Kx} {pc : Nat} {ls : List (Option AV)} {st : List AV} {M : Me} {idx ci k o : Nat} {fin : Bool} {ty : FieldType} (j : Int) (hd : decode K.1.2.1 pc = .ok (.getfield idx, 3)) (hf : FOK K.1.1.cls idx ci k fin ty) (ho : fldS o ci k = some none) (hj : (k : Int) = j) (kk : Go K (pc + 3) ls (.inl (M o j) :: st) M) : Go K pc ls (.inr o :: st) M := by
  intro hM hl hs g p l e s m args below meth c H locs la C
  obtain ⟨ss, h1, h2⟩ := fldS_spec ho
  refine va_getG C hf h1 (v := .int (Int32.ofInt (M o j))) ?_ hd (kk hM hl (hs.tl.consI (hM o j)) g p l e s m args below meth c H locs la C)
  simp only [fvs, List.getElem?_mapIdx, h2, Option.map_some, hj]
theorem a_getr {K : Kx} {pc : Nat} {ls : List (Option AV)} {st : List AV} {M : Me} {idx ci k o r : Nat} {fin : Bool} {ty : FieldType} (hd : decode K.1.2.1 pc = .ok (.getfield idx, 3)) (hf : FOK K.1.1.cls idx ci k fin ty) (ho : fldS o ci k = some (some r)) (kk : Go K (pc + 3) ls (.inr r :: st) M) : Go K pc ls (.inr o :: st) M := by
  intro hM hl hs g p l e s m args below meth c H locs la C
  obtain ⟨ss, h1, h2⟩ := fldS_spec ho
  refine va_getG C hf h1 (v := .ref (cgA g r)) ?_ hd (kk hM hl hs.tl.consR g p l e s m args below meth c H locs la C)
  simp only [fvs, List.getElem?_mapIdx, h2, Option.map_some]
def fitsZ (ty : FieldType) (v : Int) : Prop := ty = .int ∨ (ty = .boolean ∧ (v = 0 ∨ v = 1))
theorem fitsZ_spec {ty : FieldType} {v : Int} (h : fitsZ ty v) : narrow ty (.int (Int32.ofInt v)) = .int (Int32.ofInt v) ∧ fits ty (.int (Int32.ofInt v)) = true := by
  rcases h with rfl | ⟨rfl, rfl | rfl⟩
  · exact ⟨rfl, rfl⟩
  · exact ⟨by decide, by decide⟩
  · exact ⟨by decide, by decide⟩
theorem a_puti {K : Kx} {pc : Nat} {ls : List (Option AV)} {st : List AV} {M : Me} {idx ci k o : Nat} {v : Int} {ty : FieldType} (j : Int) (hd : decode K.1.2.1 pc = .ok (.putfield idx, 3)) (hf : FOK K.1.1.cls idx ci k false ty) (ho : fldS o ci k = some none) (hj : (k : Int) = j) (hz : fitsZ ty v) (kk : Go K (pc + 3) ls st (mput M o j v)) : Go K pc ls (.inl v :: .inr o :: st) M := by
  intro hM hl hs g p l e s m args below meth c H locs la C
  obtain ⟨ss, h1, h2⟩ := fldS_spec ho
  obtain ⟨Cn, T, N, ty0, f1, f2, f3, f4, f5, f6, f7, f8⟩ := hf
  obtain ⟨z1, z2⟩ := fitsZ_spec hz
  subst hj
  have hlen : k < (fvs g M o ss).length := by
    simp only [fvs, List.length_mapIdx]
    exact (List.getElem?_eq_some_iff.mp h2).1
  have hset : (ww g M).set o (cgA g o, .inr (ci, (fvs g M o ss).set k (.int (Int32.ofInt v)))) = ww g (mput M o (k : Int) v) :=
    ww_set g h1 (en_fld g M o ci ss k v h2) (fun j b hj => mput_ne M _ v b hj)
  have key : ∀ (H1 : Heap) (locs1 : List Loc), va_P g.1 vwCl ((ww g M).set o (cgA g o, .inr (ci, (fvs g M o ss).set k (.int (Int32.ofInt v))))) H1 → va_D (Aw g) ((ww g M).set o (cgA g o, .inr (ci, (fvs g M o ss).set k (.int (Int32.ofInt v))))) → va_S (Aw g) s.heap H1 locs1 → W p l e K.2.1 s m args below meth c H1 locs1 K.2.2.1 K.2.2.2.1 (K.2.2.2.2.1 g below args s) (F0 m (pc + 3) la (st.map (cv g))) := by
    intro H1 locs1 a1 _ a3
    rw [hset] at a1
    exact kk (hM.put hs.hd) hl hs.tl.tl g p l e s m args below meth c H1 locs1 la ⟨C.1, C.2.1, C.2.2.1, C.2.2.2.1, C.2.2.2.2.1, a1, a3, C.2.2.2.2.2.2.2⟩
  have hty : parseFieldDescriptor (T k).2.2.1 = some ty := by rw [f4 k f2, f8]
  rcases f6 with f6 | ⟨host, f6⟩
  · exact va_put C.1.1 C.1.2.1 C.1.2.2.2.2 f3 ty0 f4 f5 C.1.2.2.2.1 C.2.2.2.1.1 C.2.2.2.2.2.1 (ww_D g M C.2.2.2.1.2.1) C.2.2.2.2.2.2.1 o (ww_at g M h1) f1 k f2 (C.1.2.2.2.2 _ f6) (fun x h => h) f7 hty z1 z2 hlen hd key
  · exact va_putN C.1.1 C.1.2.1 C.1.2.2.2.2 f3 ty0 f4 f5 C.1.2.2.2.1 C.2.2.2.1.1 C.2.2.2.2.2.1 (ww_D g M C.2.2.2.1.2.1) C.2.2.2.2.2.2.1 o (ww_at g M h1) f1 k f2 (va_Nw.use rfl (C.2.2.2.1.2.2.1 _ f6 rfl)) (fun x h => h) f7 hty z1 z2 hlen hd key
theorem a_iald {K : Kx} {pc : Nat} {ls : List (Option AV)} {st : List AV} {M : Me} {o n : Nat} {i : Int} (hd : decode K.1.2.1 pc = .ok (.iaload, 1)) (ho : lay[o]? = some (.inl (false, n))) (h0 : 0 ≤ i) (h1 : i < (n : Int)) (kk : Go K (pc + 1) ls (.inl (M o i) :: st) M) : Go K pc ls (.inl i :: .inr o :: st) M := by
  intro hM hl hs g p l e s m args below meth c H locs la C
  refine va_iald C.1.1 C.1.2.1 C.2.2.2.1.1 C.2.2.2.2.2.1 o 0 (ww_at g M ho) rfl (cn_in hs.hd h0 h1) hd ?_
  have h := kk hM hl (hs.tl.tl.consI (hM o i)) g p l e s m args below meth c H locs la C
  rw [cn_clamp hs.hd]
  have e : ((i.toNat : Nat) : Int) = i := by omega
  rw [e]
  exact h
theorem a_bald {K : Kx} {pc : Nat} {ls : List (Option AV)} {st : List AV} {M : Me} {o n : Nat} {i : Int} (hd : decode K.1.2.1 pc = .ok (.baload, 1)) (ho : lay[o]? = some (.inl (true, n))) (h0 : 0 ≤ i) (h1 : i < (n : Int)) (kk : Go K (pc + 1) ls (.inl (M o i) :: st) M) : Go K pc ls (.inl i :: .inr o :: st) M := by
  intro hM hl hs g p l e s m args below meth c H locs la C
  refine va_bald C.1.1 C.1.2.1 C.2.2.2.1.1 C.2.2.2.2.2.1 o 1 (ww_at g M ho) rfl (cn_in hs.hd h0 h1) hd ?_
  have h := kk hM hl (hs.tl.tl.consI (hM o i)) g p l e s m args below meth c H locs la C
  rw [cn_clamp hs.hd]
  have e : ((i.toNat : Nat) : Int) = i := by omega
  rw [e]
  exact h
theorem a_iast {K : Kx} {pc : Nat} {ls : List (Option AV)} {st : List AV} {M : Me} {o n : Nat} {i v : Int} (hd : decode K.1.2.1 pc = .ok (.iastore, 1)) (ho : lay[o]? = some (.inl (false, n))) (h0 : 0 ≤ i) (h1 : i < (n : Int)) (kk : Go K (pc + 1) ls st (mput M o i v)) : Go K pc ls (.inl v :: .inl i :: .inr o :: st) M := by
  intro hM hl hs g p l e s m args below meth c H locs la C
  have hset := ww_set g (M := M) (M' := mput M o i v) ho (en_arr g M o false n hs.tl.hd h0 (Int32.ofInt v) rfl) (fun j b hj => mput_ne M _ _ b hj)
  refine va_iast C.1.1 C.1.2.1 C.2.2.2.1.1 C.2.2.2.2.2.1 (ww_D g M C.2.2.2.1.2.1) C.2.2.2.2.2.2.1 o 0 (ww_at g M ho) rfl (cn_in hs.tl.hd h0 h1) hd ?_
  intro H1 locs1 a1 _ a3
  have a2 : va_P g.1 vwCl (ww g (mput M o i v)) H1 := by
    rw [← hset]
    exact a1
  exact kk (hM.put (hs.hd)) hl hs.tl.tl.tl g p l e s m args below meth c H1 locs1 la ⟨C.1, C.2.1, C.2.2.1, C.2.2.2.1, C.2.2.2.2.1, a2, a3, C.2.2.2.2.2.2.2⟩
theorem a_bast {K : Kx} {pc : Nat} {ls : List (Option AV)} {st : List AV} {M : Me} {o n : Nat} {i v : Int} (hd : decode K.1.2.1 pc = .ok (.bastore, 1)) (ho : lay[o]? = some (.inl (true, n))) (h0 : 0 ≤ i) (h1 : i < (n : Int)) (kk : Go K (pc + 1) ls st (mput M o i (bbyt v))) : Go K pc ls (.inl v :: .inl i :: .inr o :: st) M := by
  intro hM hl hs g p l e s m args below meth c H locs la C
  have hset := ww_set g (M := M) (M' := mput M o i (bbyt v)) ho (en_arr g M o true n hs.tl.hd h0 ((vp_nar .byte (Int32.ofInt v))) (by rw [vp_nar_byte]; exact ofInt_of32 _)) (fun j b hj => mput_ne M _ _ b hj)
  refine va_bast C.1.1 C.1.2.1 C.2.2.2.1.1 C.2.2.2.2.2.1 (ww_D g M C.2.2.2.1.2.1) C.2.2.2.2.2.2.1 o 1 (ww_at g M ho) rfl (cn_in hs.tl.hd h0 h1) hd ?_
  intro H1 locs1 a1 _ a3
  have a2 : va_P g.1 vwCl (ww g (mput M o i (bbyt v))) H1 := by
    rw [← hset]
    exact a1
  exact kk (hM.put (cn_of32 _)) hl hs.tl.tl.tl g p l e s m args below meth c H1 locs1 la ⟨C.1, C.2.1, C.2.2.1, C.2.2.2.1, C.2.2.2.2.1, a2, a3, C.2.2.2.2.2.2.2⟩
theorem a_alen {K : Kx} {pc : Nat} {ls : List (Option AV)} {st : List AV} {M : Me} {o n : Nat} (j : Int) (hd : decode K.1.2.1 pc = .ok (.arraylength, 1)) (ho : lay[o]? = some (.inl (false, n))) (hj : (n : Int) = j) (hn : cn j) (kk : Go K (pc + 1) ls (.inl j :: st) M) : Go K pc ls (.inr o :: st) M := by
  intro hM hl hs g p l e s m args below meth c H locs la C
  subst hj
  refine va_alen C.1.1 C.1.2.1 C.2.2.2.1.1 C.2.2.2.2.2.1 o 0 (ww_at g M ho) rfl (v := Int32.ofInt (n : Int)) (by rfl) hd ?_
  exact kk hM hl (hs.tl.consI hn) g p l e s m args below meth c H locs la C
