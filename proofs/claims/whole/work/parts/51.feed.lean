theorem byte_and (x : Int32) : x.toInt8.toInt32 &&& 255 = x &&& 255 := by
  apply Int32.toBitVec_inj.mp
  apply BitVec.eq_of_getLsbD_eq
  intro i hi
  have h255 : ∀ i, i < 32 → (255 : Int32).toBitVec.getLsbD i = decide (i < 8) := by decide
  rw [Int32.toBitVec_and, Int32.toBitVec_and, BitVec.getLsbD_and, BitVec.getLsbD_and, h255 i hi]
  by_cases h8 : i < 8
  · have : x.toInt8.toInt32.toBitVec.getLsbD i = x.toBitVec.getLsbD i := by
      have e : x.toInt8.toInt32.toBitVec = (x.toBitVec.signExtend 8).signExtend 32 := by simp
      rw [e, BitVec.getLsbD_signExtend, BitVec.getLsbD_signExtend]
      simp [h8, hi]
    rw [this]
  · simp [h8]
theorem bbyt_band (x : Int) : band (bbyt x) 255 = band x 255 := by
  unfold band bbyt
  rw [ofInt_of32]
  exact congrArg Int32.toInt (byte_and _)
theorem band255 (x : Int) : 0 ≤ band x 255 ∧ band x 255 ≤ 255 := by
  unfold band
  have e : Int32.ofInt 255 = (255 : Int32) := rfl
  have h := pk_and (Int32.ofInt x) (m := 255) 8 (by decide)
  rw [e, h, nI_toInt (by omega)]
  omega
theorem tbyte (w s : Int) : band (bbyt (bbyt (bshr w s))) 255 = byt w s := by rw [bbyt_band, bbyt_band]; rfl
def abl (M : Me) (vs : List Int) : Me := vs.foldl ab M
def tbl (M : Me) (vs : List Int) : Me := vs.foldl tb M
theorem abl_size : ∀ (vs : List Int) (M : Me), abl M vs 1 1 = M 1 1 + vs.length
  | [], M => by simp [abl]
  | v :: vs, M => by
    have := abl_size vs (ab M v)
    simp only [abl, List.foldl_cons, List.length_cons] at this ⊢
    rw [this, ab_1]
    omega
theorem tbl_size : ∀ (vs : List Int) (M : Me), tbl M vs 76 13 = M 76 13 + vs.length
  | [], M => by simp [tbl]
  | v :: vs, M => by
    have := tbl_size vs (tb M v)
    simp only [tbl, List.foldl_cons, List.length_cons] at this ⊢
    rw [this, tb_1]
    omega
theorem abl_other : ∀ (vs : List Int) (M : Me) (k : Nat) (i : Int), ¬ (k = 1 ∧ i = 1) → k ≠ 2 → abl M vs k i = M k i
  | [], M, k, i, _, _ => rfl
  | v :: vs, M, k, i, h1, h2 => by
    have := abl_other vs (ab M v) k i h1 h2
    simp only [abl, List.foldl_cons] at this ⊢
    rw [this]
    unfold ab mput
    rw [if_neg h1, if_neg (fun q => h2 q.1)]
theorem tbl_other : ∀ (vs : List Int) (M : Me) (k : Nat) (i : Int), ¬ (k = 76 ∧ i = 13) → k ≠ 88 → tbl M vs k i = M k i
  | [], M, k, i, _, _ => rfl
  | v :: vs, M, k, i, h1, h2 => by
    have := tbl_other vs (tb M v) k i h1 h2
    simp only [tbl, List.foldl_cons] at this ⊢
    rw [this]
    unfold tb mput
    rw [if_neg h1, if_neg (fun q => h2 q.1)]
theorem abl_byte : ∀ (vs : List Int) (M : Me) (i : Int), abl M vs 2 i = if M 1 1 ≤ i ∧ i < M 1 1 + vs.length then vs.getD (i - M 1 1).toNat 0 else M 2 i
  | [], M, i => by
    simp only [abl, List.foldl_nil, List.length_nil]
    rw [if_neg (by omega)]
  | v :: vs, M, i => by
    have := abl_byte vs (ab M v) i
    simp only [abl, List.foldl_cons, List.length_cons] at this ⊢
    rw [this, ab_1]
    have e2 : ab M v 2 i = if i = M 1 1 then v else M 2 i := by
      unfold ab mput
      by_cases h : i = M 1 1 <;> simp [h]
    rw [e2]
    by_cases h1 : i = M 1 1
    · rw [if_neg (by omega), if_pos h1, if_pos (by omega)]
      have : (i - M 1 1).toNat = 0 := by omega
      rw [this]
      rfl
    · rw [if_neg h1]
      by_cases h2 : M 1 1 + 1 ≤ i ∧ i < M 1 1 + 1 + vs.length
      · rw [if_pos h2, if_pos (by omega)]
        have : (i - M 1 1).toNat = (i - (M 1 1 + 1)).toNat + 1 := by omega
        rw [this]
        rfl
      · rw [if_neg h2, if_neg (by omega)]
theorem tbl_byte : ∀ (vs : List Int) (M : Me) (i : Int), tbl M vs 88 i = if M 76 13 ≤ i ∧ i < M 76 13 + vs.length then vs.getD (i - M 76 13).toNat 0 else M 88 i
  | [], M, i => by
    simp only [tbl, List.foldl_nil, List.length_nil]
    rw [if_neg (by omega)]
  | v :: vs, M, i => by
    have := tbl_byte vs (tb M v) i
    simp only [tbl, List.foldl_cons, List.length_cons] at this ⊢
    rw [this, tb_1]
    have e2 : tb M v 88 i = if i = M 76 13 then v else M 88 i := by
      unfold tb mput
      by_cases h : i = M 76 13 <;> simp [h]
    rw [e2]
    by_cases h1 : i = M 76 13
    · rw [if_neg (by omega), if_pos h1, if_pos (by omega)]
      have : (i - M 76 13).toNat = 0 := by omega
      rw [this]
      rfl
    · rw [if_neg h1]
      by_cases h2 : M 76 13 + 1 ≤ i ∧ i < M 76 13 + 1 + vs.length
      · rw [if_pos h2, if_pos (by omega)]
        have : (i - M 76 13).toNat = (i - (M 76 13 + 1)).toNat + 1 := by omega
        rw [this]
        rfl
      · rw [if_neg h2, if_neg (by omega)]
def wbs (w : Int) : List Int := [byt w 24, byt w 16, byt w 8, byt w 0]
def wts (w : Int) : List Int := [bbyt (bbyt (bshr w 24)), bbyt (bbyt (bshr w 16)), bbyt (bbyt (bshr w 8)), bbyt (bbyt (bshr w 0))]
theorem abw_abl (M : Me) (w : Int) : abw M w = abl M (wbs w) := rfl
theorem tbw_tbl (M : Me) (w : Int) : tbw M w = tbl M (wts w) := rfl
theorem abl_app (M : Me) (u v : List Int) : abl (abl M u) v = abl M (u ++ v) := by simp [abl]
theorem tbl_app (M : Me) (u v : List Int) : tbl (tbl M u) v = tbl M (u ++ v) := by simp [tbl]
theorem x_feed {M : Me} {Q : Int → Me → Prop} {a b c d e : Int} (h0 : 0 ≤ M 1 1) (h1 : M 1 1 ≤ 260) (hy : M 1 1 + 20 ≤ 260 → Q (M 1 1 + 20) (abl M (wbs a ++ wbs b ++ wbs c ++ wbs d ++ wbs e))) (hn : 260 < M 1 1 + 20 → Q (-1) M) : Calls 1 mX11_feed [.inr 0, .inl a, .inl b, .inl c, .inl d, .inl e] M Q := by
  have z : ∀ (vs : List Int), abl M vs 1 1 = M 1 1 + vs.length := fun vs => abl_size vs M
  refine e_X11_feed ⟨by unfold cn; omega, fun v => ?_, fun v => hn v⟩
  refine p_X9_addWord h0 (by omega) ?_
  rw [abw_abl]
  refine p_X9_addWord (by rw [z]; simp [wbs]; omega) (by rw [z]; simp [wbs]; omega) ?_
  rw [abw_abl, abl_app]
  refine p_X9_addWord (by rw [z]; simp [wbs]; omega) (by rw [z]; simp [wbs]; omega) ?_
  rw [abw_abl, abl_app]
  refine p_X9_addWord (by rw [z]; simp [wbs]; omega) (by rw [z]; simp [wbs]; omega) ?_
  rw [abw_abl, abl_app]
  refine p_X9_addWord (by rw [z]; simp [wbs]; omega) (by rw [z]; simp [wbs]; omega) ?_
  rw [abw_abl, abl_app, z]
  have := hy v
  simpa [wbs] using this
theorem m_feed {M : Me} {Q : Int → Me → Prop} {a b c d e : Int} (h0 : 0 ≤ M 76 13) (h1 : M 76 13 ≤ 260) (hy : M 76 13 + 20 ≤ 260 → Q (M 76 13 + 20) (tbl M (wts a ++ wts b ++ wts c ++ wts d ++ wts e))) (hn : 260 < M 76 13 + 20 → Q (-1) M) : Calls 1 mX12_feed [.inr 76, .inl a, .inl b, .inl c, .inl d, .inl e] M Q := by
  have z : ∀ (vs : List Int), tbl M vs 76 13 = M 76 13 + vs.length := fun vs => tbl_size vs M
  refine e_X12_feed ⟨by unfold cn; omega, fun v => ?_, fun v => hn v⟩
  refine p_X12_types h0 (by omega) ?_
  rw [tbw_tbl]
  refine p_X12_types (by rw [z]; simp [wts]; omega) (by rw [z]; simp [wts]; omega) ?_
  rw [tbw_tbl, tbl_app]
  refine p_X12_types (by rw [z]; simp [wts]; omega) (by rw [z]; simp [wts]; omega) ?_
  rw [tbw_tbl, tbl_app]
  refine p_X12_types (by rw [z]; simp [wts]; omega) (by rw [z]; simp [wts]; omega) ?_
  rw [tbw_tbl, tbl_app]
  refine p_X12_types (by rw [z]; simp [wts]; omega) (by rw [z]; simp [wts]; omega) ?_
  rw [tbw_tbl, tbl_app, z]
  have := hy v
  simpa [wts] using this
def likeB (u v : List Int) : Prop := u.length = v.length ∧ ∀ j, j < u.length → band (v.getD j 0) 255 = u.getD j 0 ∧ 0 ≤ u.getD j 0 ∧ u.getD j 0 ≤ 255
theorem likeB_word (w : Int) : likeB (wbs w) (wts w) := by
  refine ⟨by simp [wbs, wts], fun j hj => ?_⟩
  have hj' : j < 4 := by simpa [wbs] using hj
  have hb : ∀ s, 0 ≤ byt w s ∧ byt w s ≤ 255 := fun s => band255 _
  rcases (show j = 0 ∨ j = 1 ∨ j = 2 ∨ j = 3 by omega) with rfl | rfl | rfl | rfl
  · simp only [wbs, wts, List.getD_cons_zero]
    exact ⟨tbyte w 24, hb 24⟩
  · simp only [wbs, wts, List.getD_cons_zero, List.getD_cons_succ]
    exact ⟨tbyte w 16, hb 16⟩
  · simp only [wbs, wts, List.getD_cons_zero, List.getD_cons_succ]
    exact ⟨tbyte w 8, hb 8⟩
  · simp only [wbs, wts, List.getD_cons_zero, List.getD_cons_succ]
    exact ⟨tbyte w 0, hb 0⟩
theorem likeB_app {u v u' v' : List Int} (h : likeB u v) (h' : likeB u' v') : likeB (u ++ u') (v ++ v') := by
  refine ⟨by rw [List.length_append, List.length_append, h.1, h'.1], fun j hj => ?_⟩
  rw [List.length_append] at hj
  by_cases q : j < u.length
  · have e1 : (u ++ u').getD j 0 = u.getD j 0 := by simp [List.getD, List.getElem?_append_left q]
    have e2 : (v ++ v').getD j 0 = v.getD j 0 := by simp [List.getD, List.getElem?_append_left (show j < v.length by rw [← h.1]; exact q)]
    rw [e1, e2]
    exact h.2 j q
  · have e1 : (u ++ u').getD j 0 = u'.getD (j - u.length) 0 := by simp [List.getD, List.getElem?_append_right (Nat.le_of_not_lt q)]
    have e2 : (v ++ v').getD j 0 = v'.getD (j - u.length) 0 := by rw [h.1] at q ⊢; simp [List.getD, List.getElem?_append_right (Nat.le_of_not_lt q)]
    rw [e1, e2]
    exact h'.2 (j - u.length) (by omega)
theorem o_feed {M : Me} (hT : RTape M) (a b c d e : Int) (P : Me → Prop) (h1 : ∀ M2, RTape M2 → (∀ k i, ¬ (k = 1 ∧ i = 1) → k ≠ 2 → ¬ (k = 76 ∧ i = 13) → k ≠ 88 → M2 k i = M k i) → P M2) (h2 : P M) : Calls 1 mX11_feed [.inr 0, .inl a, .inl b, .inl c, .inl d, .inl e] M (fun r M1 => Calls 1 mX12_feed [.inr 76, .inl a, .inl b, .inl c, .inl d, .inl e] M1 (fun r' M2 => r = r' ∧ P M2)) := by
  obtain ⟨t1, t2, t3, t4⟩ := hT
  have hl := likeB_app (likeB_app (likeB_app (likeB_app (likeB_word a) (likeB_word b)) (likeB_word c)) (likeB_word d)) (likeB_word e)
  have hlen : (wbs a ++ wbs b ++ wbs c ++ wbs d ++ wbs e).length = 20 := by simp [wbs]
  have hlen2 : (wts a ++ wts b ++ wts c ++ wts d ++ wts e).length = 20 := by simp [wts]
  refine x_feed t2 t3 (fun v => ?_) (fun v => m_feed (by omega) (by omega) (fun v2 => by exfalso; omega) (fun v2 => ⟨rfl, h2⟩))
  generalize wbs a ++ wbs b ++ wbs c ++ wbs d ++ wbs e = U at *
  have e0 : abl M U 76 13 = M 76 13 := abl_other U M 76 13 (by decide) (by decide)
  refine m_feed (by omega) (by omega) (fun v2 => ⟨by omega, h1 _ ?_ ?_⟩) (fun v2 => by exfalso; omega)
  · generalize wts a ++ wts b ++ wts c ++ wts d ++ wts e = V at *
    have f1 : tbl (abl M U) V 76 13 = M 1 1 + 20 := by rw [tbl_size, e0, hlen2]; omega
    have f2 : tbl (abl M U) V 1 1 = M 1 1 + 20 := by rw [tbl_other V _ 1 1 (by decide) (by decide), abl_size, hlen]; omega
    refine ⟨by omega, by omega, by omega, fun i i0 i1 => ?_⟩
    rw [tbl_byte, tbl_other V _ 2 i (fun q => absurd q.1 (by decide)) (by decide), abl_byte, e0, hlen, hlen2, abl_other U M 88 i (fun q => absurd q.1 (by decide)) (by decide), t1]
    by_cases q : M 1 1 ≤ i
    · rw [if_pos (by omega), if_pos (by omega)]
      exact hl.2 (i - M 1 1).toNat (by omega)
    · rw [if_neg (by omega), if_neg (by omega)]
      exact t4 i i0 (by omega)
  · intro k i q1 q2 q3 q4
    rw [tbl_other _ _ k i q3 q4, abl_other _ _ k i q1 q2]
