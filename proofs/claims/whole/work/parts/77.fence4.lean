/-! ===== fence: the reference's rows, the ground ===== -/
theorem l_X12_laysFence_50 {Q : Int → Me → Prop} {M0 : Me} {pts pre : List Int} {s : Int} (hs : M0 76 47 = s) (hpts : pts = rl (M0 109) s) (s0 : 0 ≤ s) (s32 : s ≤ 32) (hinj : ∀ x y, x ∈ pts → y ∈ pts → kk 16 1 x = kk 16 1 y → x = y) (hw : pts.Pairwise (fun x y => kk 16 1 x < kk 16 1 y)) (epre : pre = (chn pts []).tail.reverse) (hpp : ∀ z, z ∈ pre → pl z) (hpl : ∀ z, z ∈ pts → pl z) (hQ : ∀ M', Fr110 M0 M' → 0 ≤ M' 76 48 → rl (M' 110) (M' 76 48) = pre ++ (if pts.length ≤ 1 then chn pts.reverse [] else (chn pts.reverse []).tail).reverse → Q 0 M') {q : Int} (hq : q = pre.length) :
    ∀ (k : Nat) (i : Int) (rp : List Int) (M : Me), i + 1 = k → i < s → pts.reverse = rp ++ (rl (M0 109) (i + 1)).reverse → pre.length + (chn rp []).length ≤ 33 → Fr110 M0 M → 0 ≤ M 76 48 → rl (M 110) (M 76 48) = pre ++ (chn rp []).reverse → Go (km 2 mX12_laysFence Q) 50 [some (.inr 76), some (.inl q), some (.inl i)] [] M := by
  have hlen : (pts.length : Int) = s := by rw [hpts, rl_length]; omega
  have hprel : pre.length ≤ 32 := by
    rw [epre, List.length_reverse, List.length_tail]
    have := chn_len pts []
    simp only [List.length_nil] at this
    omega
  intro k
  induction k with
  | zero =>
    intro i rp M hi his hrp h33 f n0 hr
    have e : rp = pts.reverse := by rw [hrp, rl_zero (by omega)]; simp
    subst e
    refine s_X12_laysFence_50 _ _ M ⟨fun _ => ?_, fun v => by exfalso; omega⟩
    rw [f 76 47 (by first | omega | decide) (by first | omega | decide), hs]
    have hcn : cn (M 76 48 - 1) := by
      have : (rl (M 110) (M 76 48)).length ≤ 64 := by
        rw [hr, List.length_append, List.length_reverse]
        omega
      rw [rl_length] at this
      unfold cn
      omega
    refine ⟨fun v => hQ M f n0 ?_, fun v => ⟨hcn, hQ _ (f.tr (Fr110.pop _ _)) ?_ ?_⟩⟩
    · rw [hr, if_pos (by omega)]
    all_goals cases hc : chn pts.reverse [] with
      | nil =>
        exfalso
        have hL : pts.reverse ≠ [] := fun z => by rw [List.reverse_eq_nil_iff] at z; rw [z] at hlen; simp at hlen; omega
        have := List.dropLast_concat_getLast hL
        rw [← this, chn_snoc] at hc
        cases hc
      | cons b t =>
        rw [hc, List.reverse_cons, ← List.append_assoc] at hr
        obtain ⟨g1, g2, g3⟩ := rl_snoc n0 hr
        first
          | (rw [mput_same]; omega)
          | (rw [mput_same, if_neg (by omega), List.tail_cons, ← g2]; exact rl_congr (fun i _ _ => mput_ne _ _ _ _ (by first | omega | decide)))
  | succ k ih =>
    intro i rp M hi his hrp h33 f n0 hr
    have hz : M 109 i = M0 109 i := f 109 i (by first | omega | decide) (by first | omega | decide)
    have hin : M0 109 i ∈ pts := by rw [hpts]; exact mem_rl.mpr ⟨i, by omega, his, rfl⟩
    have hrl := rl_succ (f := M0 109) (n := i) (by omega)
    rw [hrl, List.reverse_append] at hrp
    simp only [List.reverse_cons, List.reverse_nil, List.nil_append, List.cons_append] at hrp
    have sub : ∀ z, z ∈ rp → z ∈ pts := fun z h => List.mem_reverse.mp (by rw [hrp]; exact List.mem_append_left _ h)
    have fb := fen_bound hinj hw hrp
    have elen : pre.length = (chn pts []).tail.length := by rw [epre, List.length_reverse]
    refine s_X12_laysFence_50 _ _ M ⟨fun v => by exfalso; omega, fun _ => ⟨by omega, ?_⟩⟩
    rw [hz]
    refine p_X12_addsCorner (pre := pre) (st := chn rp []) hq (hpl _ hin) (by omega) (by omega) (fun z h => ?_) n0 hr (fun M1 f1 n1 r1 => ⟨by unfold cn; omega, ?_⟩)
    · rcases List.mem_append.mp h with h | h
      · exact hpp z h
      · rcases chn_mem _ _ _ h with h | h
        · exact hpl z (sub z h)
        · cases h
    · refine ih (i + -1) (rp ++ [M0 109 i]) M1 (by omega) (by omega) ?_ ?_ (f.tr f1) n1 (by rw [chn_snoc]; exact r1)
      · rw [show i + -1 + 1 = i by omega, hrp]
        simp
      · rw [chn_snoc, List.length_cons]
        omega
theorem l_X12_laysFence_11 {Q : Int → Me → Prop} {M0 : Me} {pts : List Int} {s : Int} (hs : M0 76 47 = s) (hpts : pts = rl (M0 109) s) (s0 : 0 ≤ s) (s32 : s ≤ 32) (hinj : ∀ x y, x ∈ pts → y ∈ pts → kk 16 1 x = kk 16 1 y → x = y) (hw : pts.Pairwise (fun x y => kk 16 1 x < kk 16 1 y)) (hpl : ∀ z, z ∈ pts → pl z) (hQ : ∀ M', Fr110 M0 M' → 0 ≤ M' 76 48 → rl (M' 110) (M' 76 48) = cors pts → Q 0 M') :
    ∀ (k : Nat) (i : Int) (M : Me), 0 ≤ i → i + k = s → Fr110 M0 M → 0 ≤ M 76 48 → rl (M 110) (M 76 48) = (chn (rl (M0 109) i) []).reverse → Go (km 2 mX12_laysFence Q) 11 [some (.inr 76), some (.inl i), none] [] M := by
  have hlen : (pts.length : Int) = s := by rw [hpts, rl_length]; omega
  intro k
  induction k with
  | zero =>
    intro i M i0 hi f n0 hr
    have : i = s := by omega
    subst this
    rw [← hpts] at hr
    have hn : (M 76 48).toNat = (chn pts []).length := by rw [← List.length_reverse, ← hr, rl_length]
    have hcl := chn_len pts []
    simp only [List.length_nil] at hcl
    refine s_X12_laysFence_11 _ M ⟨fun _ => ⟨by unfold cn; omega, by rw [f 76 47 (by first | omega | decide) (by first | omega | decide), hs]; unfold cn; omega, ?_⟩, fun v => by rw [f 76 47 (by first | omega | decide) (by first | omega | decide), hs] at v; exfalso; omega⟩
    rw [f 76 47 (by first | omega | decide) (by first | omega | decide), hs]
    by_cases hz : i = 0
    · subst hz
      have ep : pts = [] := by rw [hpts, rl_zero (by omega)]
      refine s_X12_laysFence_50 _ _ M ⟨fun _ => ?_, fun v => by exfalso; omega⟩
      rw [f 76 47 (by first | omega | decide) (by first | omega | decide), hs]
      refine ⟨fun _ => hQ M f n0 ?_, fun v => by exfalso; omega⟩
      rw [hr, ep]
      rfl
    · have hsp : pts = rl (M0 109) (i - 1) ++ [M0 109 (i - 1)] := by
        rw [hpts, ← rl_succ (f := M0 109) (n := i - 1) (by omega), show i - 1 + 1 = i by omega]
      have hch : chn pts [] = M0 109 (i - 1) :: popf (M0 109 (i - 1)) (chn (rl (M0 109) (i - 1)) []) := by rw [hsp, chn_snoc]
      have htl : (chn pts []).tail.reverse ++ [M0 109 (i - 1)] = (chn pts []).reverse := by rw [hch]; simp
      have hq : M 76 48 - 1 = ((chn pts []).tail.reverse.length : Int) := by
        rw [List.length_reverse, List.length_tail, ← hn]
        have : 0 < (chn pts []).length := by rw [hch]; simp
        omega
      refine l_X12_laysFence_50 (M0 := M0) (pts := pts) (pre := (chn pts []).tail.reverse) hs hpts s0 s32 hinj hw rfl (fun z hz => ?_) hpl (fun M' a b c => hQ M' a b c) hq (i - 1).toNat (i - 2) [M0 109 (i - 1)] _ (by omega) (by omega) ?_ ?_ f n0 ?_
      · rcases chn_mem _ _ _ (List.mem_of_mem_tail (List.mem_reverse.mp hz)) with h | h
        · exact hpl z h
        · cases h
      · rw [show i - 2 + 1 = i - 1 by omega, hsp]; simp
      · simp only [chn, popf, List.length_cons, List.length_nil]
        rw [List.length_reverse, List.length_tail]
        omega
      · rw [hr, ← htl]; rfl
  | succ k ih =>
    intro i M i0 hi f n0 hr
    have hz : M 109 i = M0 109 i := f 109 i (by first | omega | decide) (by first | omega | decide)
    have hin : M0 109 i ∈ pts := by rw [hpts]; exact mem_rl.mpr ⟨i, by omega, by omega, rfl⟩
    have hcl := chn_len (rl (M0 109) i) []
    rw [rl_length] at hcl
    simp only [List.length_nil] at hcl
    have hpf := popf_len (M0 109 i) (chn (rl (M0 109) i) [])
    refine s_X12_laysFence_11 _ M ⟨fun v => by rw [f 76 47 (by first | omega | decide) (by first | omega | decide), hs] at v; exfalso; omega, fun _ => ⟨by omega, ?_⟩⟩
    rw [hz]
    refine p_X12_addsCorner (pre := []) (st := chn (rl (M0 109) i) []) rfl (hpl _ hin) (by simp only [List.length_nil]; omega) (by simp only [List.length_nil]; omega) (fun z h => ?_) n0 (by rw [List.nil_append]; exact hr) (fun M1 f1 n1 r1 => ⟨by unfold cn; omega, ?_⟩)
    · rw [List.nil_append] at h
      rcases chn_mem _ _ _ h with h | h
      · obtain ⟨j, j0, j1, j2⟩ := mem_rl.mp h
        exact hpl z (by rw [hpts]; exact mem_rl.mpr ⟨j, j0, by omega, j2⟩)
      · cases h
    · refine ih (i + 1) M1 (by omega) (by omega) (f.tr f1) n1 ?_
      rw [r1, rl_succ i0, chn_snoc, List.nil_append]
/-! rows from a place on -/
def rs (f : Int → Int) : Int → Nat → List Int
  | _, 0 => []
  | i, k + 1 => f i :: rs f (i + 1) k
theorem rs_snoc (f : Int → Int) : ∀ (k : Nat) (i : Int), rs f i (k + 1) = rs f i k ++ [f (i + k)]
  | 0, i => by simp [rs]
  | k + 1, i => by
    have := rs_snoc f k (i + 1)
    rw [rs, this, rs, List.cons_append]
    congr 3
    rw [show i + 1 + (k : Int) = i + ((k + 1 : Nat) : Int) by omega]
theorem rl_rs (f : Int → Int) : ∀ (k : Nat), rl f (k : Int) = rs f 0 k
  | 0 => rl_zero (by omega)
  | k + 1 => by
    rw [rs_snoc, ← rl_rs f k, show ((k + 1 : Nat) : Int) = (k : Int) + 1 by omega, rl_succ (by omega), Int.zero_add]
theorem rs_len (f : Int → Int) : ∀ (k : Nat) (i : Int), (rs f i k).length = k
  | 0, _ => rfl
  | k + 1, i => by simp [rs, rs_len f k]
def fan (c : Int) : List Int → Int
  | a :: b :: t => sd c a b + fan c (b :: t)
  | _ => 0
def grd : List Int → Int
  | [] => 0
  | a :: t => fan a t
def shoe : List Int → Int
  | [] => 0
  | a :: t => pth (a :: t ++ [a])
theorem sd_xz (a b c : Int) : sd a b c = xz a b + xz b c - xz a c := by
  unfold sd xz
  generalize a % 24 = a1; generalize a / 24 = a2; generalize b % 24 = b1; generalize b / 24 = b2; generalize c % 24 = c1; generalize c / 24 = c2
  grind
theorem xz_anti (a b : Int) : xz a b = - xz b a := by
  unfold xz
  omega
theorem fan_pth (c : Int) : ∀ (t : List Int) (a : Int), pth (a :: t ++ [c]) + xz c a = fan c (a :: t)
  | [], a => by
    have := xz_anti a c
    simp [pth, fan]
    omega
  | b :: t, a => by
    have h1 := fan_pth c t b
    have h2 := sd_xz c a b
    simp only [List.cons_append, pth, fan] at h1 ⊢
    omega
theorem grd_shoe (l : List Int) : grd l = shoe l := by
  cases l with
  | nil => rfl
  | cons a t =>
    cases t with
    | nil =>
      have := xz_anti a a
      simp [grd, shoe, fan, pth]
      omega
    | cons b t =>
      have h1 := fan_pth a t b
      simp only [grd, shoe, List.cons_append, pth] at h1 ⊢
      omega
theorem sd_b {a b c : Int} (ha : pl a) (hb : pl b) (hc : pl c) : -800 ≤ sd a b c ∧ sd a b c ≤ 800 := by
  have := sd_cn ha hb hc
  unfold sd
  omega
theorem xz_b {a b : Int} (ha : pl a) (hb : pl b) : 0 ≤ a % 24 * (b / 24) ∧ a % 24 * (b / 24) ≤ 400 := by
  unfold pl at ha hb
  have h1 : 0 ≤ a % 24 ∧ a % 24 ≤ 23 := by omega
  have h2 : 0 ≤ b / 24 ∧ b / 24 ≤ 15 := by omega
  have := Int.mul_nonneg h1.1 h2.1
  have h3 := Int.mul_le_mul h1.2 h2.2 h2.1 (by omega)
  omega
theorem l_X2_twiceGround {Q : Int → Me → Prop} {M : Me} {n : Int} (hn : M 57 4 = n) (h64 : n ≤ 64) (hpl : ∀ i, 0 ≤ i → i < n → pl (M 59 i)) {G : Int} (hQ : Q (max G (-G)) M) :
    ∀ (k : Nat) (i x : Int), 0 ≤ i → i ≤ 64 → (i + 2 + k = n ∨ (k = 0 ∧ n ≤ i + 2)) → -(800 * i) ≤ x → x ≤ 800 * i → x + fan (M 59 0) (rs (M 59) (i + 1) (k + 1)) = G → Go (km 1 mX2_twiceGround Q) 4 [some (.inr 57), some (.inl x), some (.inl i)] [] M := by
  intro k
  induction k with
  | zero =>
    intro i x i0 i64 hk b1 b2 hG
    simp only [rs, fan, Int.add_zero] at hG
    subst hG
    exact s_X2_twiceGround_4 _ _ M ⟨by unfold cn; omega, fun _ => ⟨by unfold cn; omega, hQ⟩, fun v => by exfalso; omega⟩
  | succ k ih =>
    intro i x i0 i64 hk b1 b2 hG
    have p0 := hpl 0 (by omega) (by omega)
    have p1 := hpl (i + 1) (by omega) (by omega)
    have p2 := hpl (i + 2) (by omega) (by omega)
    have sb := sd_b p0 p1 p2
    simp only [rs, fan] at hG
    rw [show i + 1 + 1 = i + 2 by omega] at hG
    refine s_X2_twiceGround_4 _ _ M ⟨by unfold cn; omega, fun v => by exfalso; omega, fun _ => ⟨by unfold cn; omega, by omega, by unfold cn; omega, by omega, p0, p1, p2, by unfold cn; omega, by unfold cn; omega, ?_⟩⟩
    refine ih (i + 1) _ (by omega) (by omega) (by omega) (by omega) (by omega) ?_
    simp only [rs]
    rw [show i + 1 + 1 = i + 2 by omega]
    omega
theorem p_X2_twiceGround {Q : Int → Me → Prop} {M : Me} (h0 : 0 ≤ M 57 4) (h64 : M 57 4 ≤ 64) (hpl : ∀ z, z ∈ rl (M 59) (M 57 4) → pl z) (hQ : Q (max (grd (rl (M 59) (M 57 4))) (-(grd (rl (M 59) (M 57 4))))) M) : Calls 1 mX2_twiceGround [.inr 57] M Q := by
  refine e_X2_twiceGround (l_X2_twiceGround (n := M 57 4) rfl h64 (fun i a b => hpl _ (mem_rl.mpr ⟨i, a, b, rfl⟩)) hQ (M 57 4 - 2).toNat 0 0 (by omega) (by omega) (by omega) (by omega) (by omega) ?_)
  obtain ⟨n, hn⟩ : ∃ n : Nat, M 57 4 = n := ⟨(M 57 4).toNat, by omega⟩
  rw [hn, rl_rs]
  match n with
  | 0 => simp [rs, fan, grd]
  | 1 => simp [rs, fan, grd]
  | m + 2 =>
    rw [show (((m + 2 : Nat) : Int) - 2).toNat + 1 = m + 1 by omega]
    simp only [rs, grd]
    omega
theorem l_X12_fence_28 {Q : Int → Me → Prop} {M : Me} {n : Int} (hn : M 76 48 = n) (n34 : n ≤ 34) (hpl : ∀ i, 0 ≤ i → i < n → pl (M 110 i)) {G : Int} (hQ : Q (max G (-G)) M) :
    ∀ (k : Nat) (i x : Int), 0 ≤ i → i + k = n → -(400 * i) ≤ x → x ≤ 400 * i → x + pth (rs (M 110) i k ++ [M 110 0]) = G → Go (km 3 mX12_fence Q) 28 [some (.inr 76), none, some (.inl x), some (.inl i), none, none] [] M := by
  intro k
  induction k with
  | zero =>
    intro i x i0 hk b1 b2 hG
    simp only [rs, List.nil_append, pth, Int.add_zero] at hG
    subst hG
    exact s_X12_fence_28 _ _ M ⟨fun _ => ⟨by unfold cn; omega, hQ⟩, fun v => by exfalso; omega⟩
  | succ k ih =>
    intro i x i0 hk b1 b2 hG
    have p1 := hpl i (by omega) (by omega)
    have hb : brem (i + 1) n = if k = 0 then 0 else i + 1 := by
      rw [brem_nn (by unfold cn; omega) (by unfold cn; omega) (by omega) (by omega)]
      by_cases q : k = 0
      · rw [if_pos q, show i + 1 = n by omega, Int.emod_self]
      · rw [if_neg q, Int.emod_eq_of_lt (by omega) (by omega)]
    have hj : 0 ≤ brem (i + 1) n ∧ brem (i + 1) n < n := by
      rw [hb]; split <;> omega
    have hx : pth (rs (M 110) i (k + 1) ++ [M 110 0]) = xz (M 110 i) (M 110 (brem (i + 1) n)) + pth (rs (M 110) (i + 1) k ++ [M 110 0]) := by
      rw [hb]
      cases k with
      | zero => simp [rs, pth]
      | succ k => simp [rs, pth]
    rw [hx] at hG
    obtain ⟨j, hb'⟩ : ∃ j, brem (i + 1) n = j := ⟨_, rfl⟩
    rw [hb'] at hj hG
    have p2 := hpl j hj.1 hj.2
    have x1 := xz_b p1 p2
    have x2 := xz_b p2 p1
    have exz : xz (M 110 i) (M 110 j) = M 110 i % 24 * (M 110 j / 24) - M 110 j % 24 * (M 110 i / 24) := rfl
    have hpi := p1
    have hpj := p2
    unfold pl at hpi hpj
    refine s_X12_fence_28 _ _ M ?_
    rw [hn, hb']
    refine ⟨fun v => by exfalso; omega, fun _ => ⟨by omega, by unfold cn; omega, by omega, by omega, hpi.1, hpj.1, by unfold cn; omega, by unfold cn; omega, hpj.1, hpi.1, by unfold cn; omega, by unfold cn; omega, by unfold cn; omega, ?_⟩⟩
    exact ih (i + 1) _ (by omega) (by omega) (by omega) (by omega) (by omega)
theorem cors_ge {al be : Int} {pts : List Int} (hinj : ∀ x y, x ∈ pts → y ∈ pts → kk al be x = kk al be y → x = y) (hw : pts.Pairwise (fun x y => kk al be x < kk al be y)) (h2 : 2 ≤ pts.length) : ∃ E : List (Int × Int), shoe (cors pts) = sumI (fun e : Int × Int => xz e.1 e.2) E ∧ (cors pts).length = E.length ∧ E.Nodup ∧ ∀ e, e ∈ E ↔ HE (fun r => r ∈ pts) e.1 e.2 := by
  have hlo := Inv_all hinj hw
  have hup := Inv_all (al := -al) (be := -be) (pts := pts.reverse) (fun x y hx hy z => hinj x y (List.mem_reverse.mp hx) (List.mem_reverse.mp hy) (by rw [kk_neg, kk_neg] at z; omega)) (List.pairwise_reverse.mpr (hw.imp (fun h => by rw [kk_neg, kk_neg]; omega)))
  rw [show (fun r => r ∈ pts.reverse) = (fun r => r ∈ pts) from funext (fun r => propext List.mem_reverse)] at hup
  refine ⟨eds (chn pts []) ++ eds (chn pts.reverse []), ?_, ?_, eds_nodup2 hlo hup, eds_iff hinj hlo hup⟩
  all_goals
    unfold cors
    rw [if_neg (by omega)]
    generalize chn pts [] = lo at hlo
    generalize chn pts.reverse [] = up at hup
    cases pts with
    | nil => simp at h2
    | cons a pts =>
      cases pts with
      | nil => simp at h2
      | cons b pts =>
        have ha : a ∈ a :: b :: pts := by simp
        have hb : b ∈ a :: b :: pts := by simp
        have kab := (List.pairwise_cons.mp hw).1 b (by simp)
        obtain ⟨l1, l2, l3, l4⟩ := hlo
        obtain ⟨u1, u2, u3, u4⟩ := hup
        cases lo with
        | nil => obtain ⟨t, ht, -⟩ := l3 a ha; cases ht
        | cons mx lt =>
          cases up with
          | nil => obtain ⟨t, ht, -⟩ := u3 a ha; cases ht
          | cons mn ut =>
            have smx := l2 mx (by simp)
            have smn := u2 mn (by simp)
            have gmx : ∀ r, r ∈ a :: b :: pts → kk al be r ≤ kk al be mx := fun r hr => by
              obtain ⟨t, ht, hk⟩ := l3 r hr
              simp only [List.head?_cons, Option.some.injEq] at ht
              subst ht; exact hk
            have gmn : ∀ r, r ∈ a :: b :: pts → kk al be mn ≤ kk al be r := fun r hr => by
              obtain ⟨t, ht, hk⟩ := u3 r hr
              simp only [List.head?_cons, Option.some.injEq] at ht
              subst ht; rw [kk_neg, kk_neg] at hk; omega
            have hne : mx ≠ mn := fun z => by
              have g1 := gmx b hb
              have g2 := gmn a ha
              rw [z] at g1
              omega
            have hu : (mn :: ut).getLast? = some mx := by
              obtain ⟨q, hq, hk⟩ := u4 mx smx
              rw [hq]
              have sq : q ∈ a :: b :: pts := u2 q (List.mem_of_getLast? hq)
              have := gmx q sq
              rw [kk_neg, kk_neg] at hk
              rw [hinj q mx sq smx (by omega)]
            have hl : (mx :: lt).getLast? = some mn := by
              obtain ⟨q, hq, hk⟩ := l4 mn smn
              rw [hq]
              have sq : q ∈ a :: b :: pts := l2 q (List.mem_of_getLast? hq)
              have := gmn q sq
              rw [hinj q mn sq smn (by omega)]
            obtain ⟨c1, c2⟩ := cor_all (lt := lt) hu hne
            rw [List.tail_cons, List.tail_cons]
            first
              | exact c2
              | (cases lt with
                 | nil => simp at hl; exact absurd hl hne
                 | cons x lt =>
                   rw [List.getLast?_cons_cons] at hl
                   have hh : (x :: lt).reverse.head? = some mn := by rw [List.head?_reverse]; exact hl
                   cases hr : (x :: lt).reverse with
                   | nil => rw [hr] at hh; cases hh
                   | cons y r =>
                     rw [hr] at hh c1
                     simp only [List.head?_cons, Option.some.injEq] at hh
                     subst hh
                     rw [List.cons_append] at c1 ⊢
                     simp only [shoe]
                     exact c1)
theorem cors_alike {al be al' be' : Int} {p1 p2 : List Int} (hp : p2.Perm p1) (hinj : ∀ x y, x ∈ p1 → y ∈ p1 → kk al be x = kk al be y → x = y) (hw : p1.Pairwise (fun x y => kk al be x < kk al be y)) (hinj' : ∀ x y, x ∈ p2 → y ∈ p2 → kk al' be' x = kk al' be' y → x = y) (hw' : p2.Pairwise (fun x y => kk al' be' x < kk al' be' y)) : (cors p1).length = (cors p2).length ∧ shoe (cors p1) = shoe (cors p2) := by
  by_cases h2 : 2 ≤ p1.length
  · obtain ⟨E1, a1, a2, a3, a4⟩ := cors_ge hinj hw h2
    obtain ⟨E2, b1, b2, b3, b4⟩ := cors_ge hinj' hw' (by rw [hp.length_eq]; exact h2)
    have pp : E1.Perm E2 := nodup_permP a3 b3 (fun e => by
      rw [a4, b4]
      rw [show (fun r => r ∈ p2) = (fun r => r ∈ p1) from funext (fun r => propext hp.mem_iff)])
    exact ⟨by rw [a2, b2, pp.length_eq], by rw [a1, b1, sumI_perm pp]⟩
  · have e : p2 = p1 := by
      match p1, p2, hp with
      | [], p2, hp => exact List.perm_nil.mp hp
      | [a], p2, hp => exact List.perm_singleton.mp hp
      | a :: b :: t, p2, hp => exact absurd (by simp) h2
    rw [e]
    exact ⟨rfl, rfl⟩
