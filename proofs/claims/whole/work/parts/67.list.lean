/-! ===== rows as lists ===== -/
def rl (f : Int → Int) (n : Int) : List Int := (List.range n.toNat).map (fun i => f (Int.ofNat i))
theorem mem_rl {f : Int → Int} {n x : Int} : x ∈ rl f n ↔ memF f n x := by
  unfold rl memF
  rw [List.mem_map]
  constructor
  · rintro ⟨i, h1, h2⟩
    rw [List.mem_range] at h1
    exact ⟨Int.ofNat i, Int.natCast_nonneg i, by have : (Int.ofNat i) = (i : Int) := rfl; omega, h2⟩
  · rintro ⟨i, h1, h2, h3⟩
    refine ⟨i.toNat, by rw [List.mem_range]; omega, ?_⟩
    rw [show Int.ofNat i.toNat = i by have : (Int.ofNat i.toNat) = ((i.toNat : Nat) : Int) := rfl; omega]
    exact h3
theorem rl_length {f : Int → Int} {n : Int} : (rl f n).length = n.toNat := by
  unfold rl
  rw [List.length_map, List.length_range]
theorem rl_nodup {f : Int → Int} {n : Int} (h : ∀ i j, 0 ≤ i → i < j → j < n → f i ≠ f j) : (rl f n).Nodup := by
  unfold rl List.Nodup
  rw [List.pairwise_map]
  refine List.Pairwise.imp_of_mem ?_ (List.pairwise_lt_range (n := n.toNat))
  intro a b ha hb hab
  rw [List.mem_range] at ha hb
  exact h _ _ (Int.natCast_nonneg a) (by have : (Int.ofNat a) = (a : Int) := rfl; have : (Int.ofNat b) = (b : Int) := rfl; omega) (by have : (Int.ofNat b) = (b : Int) := rfl; omega)
theorem rl_succ {f : Int → Int} {n : Int} (h : 0 ≤ n) : rl f (n + 1) = rl f n ++ [f n] := by
  unfold rl
  rw [show (n + 1).toNat = n.toNat + 1 by omega, List.range_succ, List.map_append]
  congr 1
  show [f (Int.ofNat n.toNat)] = [f n]
  rw [show Int.ofNat n.toNat = n by have : (Int.ofNat n.toNat) = ((n.toNat : Nat) : Int) := rfl; omega]
theorem rl_congr {f g : Int → Int} {n : Int} (h : ∀ i, 0 ≤ i → i < n → f i = g i) : rl f n = rl g n := by
  unfold rl
  refine List.map_congr_left (fun i hi => ?_)
  rw [List.mem_range] at hi
  exact h _ (Int.natCast_nonneg i) (by have : (Int.ofNat i) = (i : Int) := rfl; omega)
theorem nodup_le : ∀ {l1 l2 : List Int}, l1.Nodup → (∀ x ∈ l1, x ∈ l2) → l1.length ≤ l2.length
  | [], l2, _, _ => Nat.zero_le _
  | a :: l1, l2, h, hs => by
    have ha := hs a (List.mem_cons_self)
    have h' := List.nodup_cons.mp h
    have ih := nodup_le (l2 := l2.erase a) h'.2 (fun x hx => by
      have hne : x ≠ a := fun e => h'.1 (e ▸ hx)
      exact (List.mem_erase_of_ne hne).mpr (hs x (List.mem_cons_of_mem _ hx)))
    rw [List.length_erase_of_mem ha] at ih
    have := List.length_pos_of_mem ha
    simp only [List.length_cons]
    omega
theorem nodup_perm : ∀ {l1 l2 : List Int}, l1.Nodup → l2.Nodup → (∀ x, x ∈ l1 ↔ x ∈ l2) → l1.Perm l2
  | [], l2, _, _, h => by
    cases l2 with
    | nil => exact List.Perm.nil
    | cons a l => exact absurd ((h a).mpr List.mem_cons_self) (List.not_mem_nil)
  | a :: l1, l2, h1, h2, h => by
    have ha := (h a).mp List.mem_cons_self
    have h1' := List.nodup_cons.mp h1
    have ih := nodup_perm (l2 := l2.erase a) h1'.2 (h2.erase a) (fun x => by
      by_cases e : x = a
      · subst e
        exact ⟨fun q => absurd q h1'.1, fun q => absurd q (List.Nodup.not_mem_erase h2)⟩
      · rw [List.mem_erase_of_ne e, ← h x]
        exact ⟨fun q => List.mem_cons_of_mem _ q, fun q => by
          rcases List.mem_cons.mp q with q | q
          · exact absurd q e
          · exact q⟩)
    exact (ih.cons a).trans (List.perm_cons_erase ha).symm
/-- the sum over a list -/
def sumI {α : Type} (g : α → Int) : List α → Int
  | [] => 0
  | a :: l => g a + sumI g l
theorem sumI_perm {α : Type} {g : α → Int} {l l' : List α} (h : l.Perm l') : sumI g l = sumI g l' := by
  induction h with
  | nil => rfl
  | cons x _ ih => simp only [sumI, ih]
  | swap x y l => simp only [sumI]; omega
  | trans _ _ ih1 ih2 => rw [ih1, ih2]
theorem sumI_append {α : Type} {g : α → Int} : ∀ (l l' : List α), sumI g (l ++ l') = sumI g l + sumI g l'
  | [], l' => by simp only [List.nil_append, sumI]; omega
  | a :: l, l' => by simp only [List.cons_append, sumI, sumI_append l l']; omega
theorem sumI_bound {α : Type} {g : α → Int} {B : Int} : ∀ (l : List α), (∀ x, x ∈ l → 0 ≤ g x ∧ g x ≤ B) → 0 ≤ sumI g l ∧ sumI g l ≤ B * l.length
  | [], _ => by simp only [sumI, List.length_nil]; omega
  | a :: l, h => by
    have h1 := h a List.mem_cons_self
    have h2 := sumI_bound l (fun x hx => h x (List.mem_cons_of_mem _ hx))
    simp only [sumI, List.length_cons]
    rw [show B * ((l.length + 1 : Nat) : Int) = B * l.length + B by rw [Int.natCast_add, Int.mul_add]; omega]
    omega
/-! ===== the trees of the reference ===== -/
def Fr109 (M M' : Me) : Prop := ∀ k i, k ≠ 109 → (k = 76 → i ≠ 47) → M' k i = M k i
def ky (z : Int) : Int := 16 * (z % 24) + z / 24
def srtK (f : Int → Int) (s : Int) : Prop := ∀ i j, 0 ≤ i → i < j → j < s → ky (f i) < ky (f j)
def tr12 (M : Me) (x : Int) : Prop := treeP (M 80) (M 77) (fun c => M 77 (16 + c)) (M 76 11) x
theorem l_X12_isTree {Q : Int → Me → Prop} {M : Me} {a : Int} (h16 : M 76 11 ≤ 16) (h1 : tr12 M a → Q 1 M) (h0 : ¬ tr12 M a → Q 0 M) : ∀ (k : Nat) (c : Int), 0 ≤ c → c + k = M 76 11 → (∀ d, 0 ≤ d → d < c → ¬ (M 80 d = a ∨ (M 77 d = 3 ∧ M 77 (16 + d) = a))) → Go (km 0 mX12_isTree Q) 2 [some (.inr 76), some (.inl a), some (.inl c)] [] M := by
  intro k
  induction k with
  | zero =>
    intro c c0 hc hno
    refine s_X12_isTree_2 a c M ⟨fun _ => h0 ?_, fun v => by exfalso; omega⟩
    rintro ⟨d, d0, d1, d2⟩
    exact hno d d0 (by omega) d2
  | succ k ih =>
    intro c c0 hc hno
    have e0 : (0 : Int) + c = c := by omega
    refine s_X12_isTree_2 a c M ?_
    rw [e0]
    have nx : ¬ (M 80 c = a ∨ (M 77 c = 3 ∧ M 77 (16 + c) = a)) → Go (km 0 mX12_isTree Q) 2 [some (.inr 76), some (.inl a), some (.inl (c + 1))] [] M := fun q => ih (c + 1) (by omega) (by omega) (fun d d0 d1 => by
      by_cases e : d = c
      · subst e; exact q
      · exact hno d d0 (by omega))
    refine ⟨fun v => by exfalso; omega, fun _ => ⟨by omega, fun v => h1 ⟨c, c0, by omega, Or.inl v⟩, fun v => ⟨by unfold cn; omega, by omega, fun v2 => ⟨by unfold cn; omega, nx ?_⟩, fun v2 => ⟨by unfold cn; omega, by omega, fun v3 => ⟨by unfold cn; omega, nx ?_⟩, fun v3 => h1 ⟨c, c0, by omega, Or.inr ⟨v2, v3⟩⟩⟩⟩⟩⟩
    · rintro (q | q)
      · exact v q
      · exact v2 q.1
    · rintro (q | q)
      · exact v q
      · exact v3 q.2
theorem p_X12_isTree {Q : Int → Me → Prop} {M : Me} {a : Int} (hn : 0 ≤ M 76 11) (h16 : M 76 11 ≤ 16) (h1 : tr12 M a → Q 1 M) (h0 : ¬ tr12 M a → Q 0 M) : Calls 0 mX12_isTree [.inr 76, .inl a] M Q :=
  e_X12_isTree (l_X12_isTree h16 h1 h0 (M 76 11).toNat 0 (by omega) (by omega) (fun d a b => by omega))
def LyT (M0 : Me) (L : List Int) (b : Int) (M : Me) : Prop := Fr109 M0 M ∧ 0 ≤ M 76 47 ∧ srtK (M 109) (M 76 47) ∧ ∀ z, memF (M 109) (M 76 47) z ↔ (z ∈ L ∧ ky z < b)
theorem LyT.f {M0 M : Me} {L : List Int} {b : Int} (h : LyT M0 L b M) : Fr109 M0 M := h.1
theorem LyT.s0 {M0 M : Me} {L : List Int} {b : Int} (h : LyT M0 L b M) : 0 ≤ M 76 47 := h.2.1
theorem LyT.so {M0 M : Me} {L : List Int} {b : Int} (h : LyT M0 L b M) : srtK (M 109) (M 76 47) := h.2.2.1
theorem LyT.me {M0 M : Me} {L : List Int} {b : Int} (h : LyT M0 L b M) : ∀ z, memF (M 109) (M 76 47) z ↔ (z ∈ L ∧ ky z < b) := h.2.2.2
theorem srtK_nodup {f : Int → Int} {s : Int} (h : srtK f s) : (rl f s).Nodup := rl_nodup (fun i j a b c e => by have := h i j a b c; rw [e] at this; omega)
theorem LyT.le {M0 M : Me} {L : List Int} {b : Int} (h : LyT M0 L b M) : M 76 47 ≤ L.length := by
  have := nodup_le (srtK_nodup h.so) (l2 := L) (fun x hx => ((h.me x).mp (mem_rl.mp hx)).1)
  rw [rl_length] at this
  omega
theorem LyT.lt {M0 M : Me} {L : List Int} {b z : Int} (h : LyT M0 L b M) (hz : z ∈ L) (hk : b ≤ ky z) : M 76 47 < L.length := by
  have h1 : (z :: rl (M 109) (M 76 47)).Nodup := List.nodup_cons.mpr ⟨fun q => by have := ((h.me z).mp (mem_rl.mp q)).2; omega, srtK_nodup h.so⟩
  have := nodup_le h1 (l2 := L) (fun x hx => by
    rcases List.mem_cons.mp hx with q | q
    · rw [q]; exact hz
    · exact ((h.me x).mp (mem_rl.mp q)).1)
  rw [List.length_cons, rl_length] at this
  omega
theorem tr12_fr {M M' : Me} (f : Fr109 M M') (x : Int) : tr12 M' x ↔ tr12 M x := by
  have e1 : M' 80 = M 80 := funext (fun i => f 80 i (by decide) (fun h => absurd h (by decide)))
  have e2 : M' 77 = M 77 := funext (fun i => f 77 i (by decide) (fun h => absurd h (by decide)))
  unfold tr12
  rw [f 76 11 (by decide) (by decide), e1, e2]
theorem l_X12_laysTrees_15 {Q : Int → Me → Prop} {M0 : Me} {L : List Int} (hn : 0 ≤ M0 76 11) (h16 : M0 76 11 ≤ 16) (hL : L.length ≤ 32) (hm : ∀ x, x ∈ L ↔ tr12 M0 x) (hp : ∀ x, x ∈ L → pl x) {x : Int} (x0 : 0 ≤ x) (x1 : x < 24)
    (hk : ∀ M, LyT M0 L (16 * (x + 1)) M → Go (km 1 mX12_laysTrees Q) 7 [some (.inr 76), some (.inl (x + 1)), none] [] M) :
    ∀ (k : Nat) (y : Int) (M : Me), 0 ≤ y → y + k = 16 → LyT M0 L (16 * x + y) M → Go (km 1 mX12_laysTrees Q) 15 [some (.inr 76), some (.inl x), some (.inl y)] [] M := by
  intro k
  induction k with
  | zero =>
    intro y M y0 hy h
    refine s_X12_laysTrees_15 x y M ⟨fun _ => ⟨by unfold cn; omega, hk M ?_⟩, fun v => by exfalso; omega⟩
    rw [show 16 * (x + 1) = 16 * x + y by omega]
    exact h
  | succ k ih =>
    intro y M y0 hy h
    have kz : ky (24 * y + x) = 16 * x + y := by unfold ky; omega
    refine s_X12_laysTrees_15 x y M ⟨fun v => by exfalso; omega, fun _ => ⟨by unfold cn; omega, by unfold cn; omega, ?_⟩⟩
    refine p_X12_isTree (by rw [h.f 76 11 (by decide) (by decide)]; exact hn) (by rw [h.f 76 11 (by decide) (by decide)]; exact h16) (fun ht => ?_) (fun ht => ?_)
    · have hz : 24 * y + x ∈ L := (hm _).mpr ((tr12_fr h.f _).mp ht)
      have hlt := h.lt hz (by omega)
      have s0 := h.s0
      refine ⟨fun _ => ⟨by unfold cn; omega, by unfold cn; omega, by omega, by unfold cn; omega, by unfold cn; omega, ?_⟩, fun v => by exfalso; omega⟩
      refine ih (y + 1) _ (by omega) (by omega) ?_
      have g1 : ∀ j, mput (mput M 109 (M 76 47) (24 * y + x)) 76 47 (M 76 47 + 1) 109 j = if j = M 76 47 then 24 * y + x else M 109 j := fun j => by
        rw [mput_ne _ _ _ _ (by decide)]
        unfold mput
        by_cases q : j = M 76 47 <;> simp [q]
      have g2 : mput (mput M 109 (M 76 47) (24 * y + x)) 76 47 (M 76 47 + 1) 76 47 = M 76 47 + 1 := mput_same _ _ _ _
      refine ⟨fun k i a b => ?_, by rw [g2]; omega, ?_, ?_⟩
      · by_cases q : k = 76
        · subst q
          rw [mput_ni _ _ _ _ (b rfl), mput_ne _ _ _ _ (by decide)]; exact h.f _ _ a b
        · rw [mput_ne _ _ _ _ q, mput_ne _ _ _ _ a]; exact h.f _ _ a b
      · rw [g2]
        intro i j i0 ij js
        rw [g1, g1, if_neg (show ¬ i = M 76 47 by omega)]
        by_cases q : j = M 76 47
        · rw [if_pos q, kz]
          exact ((h.me (M 109 i)).mp ⟨i, i0, by omega, rfl⟩).2
        · rw [if_neg q]; exact h.so i j i0 ij (by omega)
      · intro z
        rw [g2]
        constructor
        · rintro ⟨i, i0, i1, i2⟩
          rw [g1] at i2
          by_cases q : i = M 76 47
          · rw [if_pos q] at i2
            rw [← i2, kz]
            exact ⟨hz, by omega⟩
          · rw [if_neg q] at i2
            have := (h.me z).mp ⟨i, i0, by omega, i2⟩
            exact ⟨this.1, by omega⟩
        · rintro ⟨z1, z2⟩
          by_cases q : ky z < 16 * x + y
          · obtain ⟨i, i0, i1, i2⟩ := (h.me z).mpr ⟨z1, q⟩
            exact ⟨i, i0, by omega, by rw [g1, if_neg (by omega)]; exact i2⟩
          · refine ⟨M 76 47, s0, by omega, ?_⟩
            rw [g1, if_pos rfl]
            have := hp z z1
            unfold pl at this
            unfold ky at q z2
            omega
    · refine ⟨fun v => by exfalso; omega, fun _ => ⟨by unfold cn; omega, ih (y + 1) M (by omega) (by omega) ⟨h.f, h.s0, h.so, fun z => ?_⟩⟩⟩
      rw [h.me z]
      constructor
      · rintro ⟨a, b⟩; exact ⟨a, by omega⟩
      · rintro ⟨a, b⟩
        refine ⟨a, ?_⟩
        by_cases q : ky z = 16 * x + y
        · exfalso
          have := hp z a
          unfold pl at this
          unfold ky at q
          have e : z = 24 * y + x := by omega
          exact ht ((tr12_fr h.f _).mpr ((hm _).mp (e ▸ a)))
        · omega
theorem l_X12_laysTrees_7 {Q : Int → Me → Prop} {M0 : Me} {L : List Int} (hn : 0 ≤ M0 76 11) (h16 : M0 76 11 ≤ 16) (hL : L.length ≤ 32) (hm : ∀ x, x ∈ L ↔ tr12 M0 x) (hp : ∀ x, x ∈ L → pl x) (hQ : ∀ M, LyT M0 L 384 M → Q 0 M) :
    ∀ (k : Nat) (x : Int) (M : Me), 0 ≤ x → x + k = 24 → LyT M0 L (16 * x) M → Go (km 1 mX12_laysTrees Q) 7 [some (.inr 76), some (.inl x), none] [] M := by
  intro k
  induction k with
  | zero =>
    intro x M x0 hx h
    refine s_X12_laysTrees_7 x M ⟨fun _ => hQ M ?_, fun v => by exfalso; omega⟩
    rw [show (384 : Int) = 16 * x by omega]
    exact h
  | succ k ih =>
    intro x M x0 hx h
    refine s_X12_laysTrees_7 x M ⟨fun v => by exfalso; omega, fun _ => ?_⟩
    refine l_X12_laysTrees_15 hn h16 hL hm hp x0 (by omega) (fun M1 h1 => ih (x + 1) M1 (by omega) (by omega) h1) 16 0 M (by omega) (by omega) ?_
    rw [show 16 * x + 0 = 16 * x by omega]
    exact h
theorem p_X12_laysTrees {Q : Int → Me → Prop} {M : Me} {L : List Int} (hn : 0 ≤ M 76 11) (h16 : M 76 11 ≤ 16) (hL : L.length ≤ 32) (hm : ∀ x, x ∈ L ↔ tr12 M x) (hp : ∀ x, x ∈ L → pl x) (hQ : ∀ M', LyT M L 384 M' → Q 0 M') : Calls 1 mX12_laysTrees [.inr 76] M Q := by
  refine e_X12_laysTrees (l_X12_laysTrees_7 hn h16 hL hm hp hQ 24 0 _ (by omega) (by omega) ?_)
  have g2 : mput M 76 47 0 76 47 = 0 := mput_same _ _ _ _
  refine ⟨fun k i a b => ?_, by rw [g2]; omega, ?_, ?_⟩
  · by_cases q : k = 76
    · subst q
      exact mput_ni _ _ _ _ (b rfl)
    · exact mput_ne _ _ _ _ q
  · rw [g2]; intro i j a b c; omega
  · intro z
    rw [g2]
    constructor
    · rintro ⟨i, a, b, -⟩; omega
    · rintro ⟨a, b⟩
      have := hp z a
      unfold pl at this
      unfold ky at b
      omega
theorem LyT.perm {M0 M : Me} {L : List Int} (h : LyT M0 L 384 M) (hL : L.Nodup) (hp : ∀ x, x ∈ L → pl x) : (rl (M 109) (M 76 47)).Perm L :=
  nodup_perm (srtK_nodup h.so) hL (fun x => by
    rw [mem_rl, h.me]
    refine ⟨fun q => q.1, fun q => ⟨q, ?_⟩⟩
    have := hp x q
    unfold pl at this
    unfold ky
    omega)
/-- the trees of the two sides are the same places -/
theorem srt_nodup {f : Int → Int} {s : Int} (h : srt f s) : (rl f s).Nodup := rl_nodup (fun i j a b c e => by have := h i j a b c; omega)
/-- class: the trees laid; the reference: too, with the same places -/
def Grv (M M' : Me) : Prop := Fr57 M M' ∧ 0 ≤ M' 57 3 ∧ M' 57 3 ≤ 32 ∧ srt (M' 58) (M' 57 3) ∧ (∀ x, x ∈ rl (M' 58) (M' 57 3) ↔ tr12 M x) ∧ ∀ x, x ∈ rl (M' 58) (M' 57 3) → pl x
theorem Grv.f {M M' : Me} (h : Grv M M') : Fr57 M M' := h.1
theorem Grv.s0 {M M' : Me} (h : Grv M M') : 0 ≤ M' 57 3 := h.2.1
theorem Grv.s1 {M M' : Me} (h : Grv M M') : M' 57 3 ≤ 32 := h.2.2.1
theorem Grv.so {M M' : Me} (h : Grv M M') : srt (M' 58) (M' 57 3) := h.2.2.2.1
theorem Grv.me {M M' : Me} (h : Grv M M') : ∀ x, x ∈ rl (M' 58) (M' 57 3) ↔ tr12 M x := h.2.2.2.2.1
theorem Grv.pls {M M' : Me} (h : Grv M M') : ∀ x, x ∈ rl (M' 58) (M' 57 3) → pl x := h.2.2.2.2.2
theorem p_gather {Q : Int → Me → Prop} {M : Me} (hC : RCuts M) (hS : RSt 37 77 (M 3 8) M) (hQ : ∀ M', Grv M M' → Q 0 M') : Calls 1 mX2_gather [.inr 57, .inr 3, .inr 37] M Q := by
  obtain ⟨h0, h1, h2, h3⟩ := hC
  refine p_X2_gather h0 h1 (fun M' f s0 s1 so me => hQ M' ⟨f, s0, s1, so, fun x => ?_, fun x hx => ?_⟩)
  · rw [mem_rl, me x]
    unfold tr12 treeP
    rw [h2]
    constructor
    · rintro ⟨c, c0, c1, c2⟩
      refine ⟨c, c0, c1, ?_⟩
      obtain ⟨-, e1, -⟩ := h3 c c0 c1
      obtain ⟨-, e2, e3, -⟩ := hS.1 c c0 c1
      show M 80 c = x ∨ M 77 c = 3 ∧ M 77 (16 + c) = x
      rw [e1, e2, e3]
      exact c2
    · rintro ⟨c, c0, c1, c2⟩
      refine ⟨c, c0, c1, ?_⟩
      obtain ⟨-, e1, -⟩ := h3 c c0 c1
      obtain ⟨-, e2, e3, -⟩ := hS.1 c c0 c1
      have c2' : M 80 c = x ∨ M 77 c = 3 ∧ M 77 (16 + c) = x := c2
      rw [e1, e2, e3] at c2'
      exact c2'
  · obtain ⟨c, c0, c1, c2⟩ := (me x).mp (mem_rl.mp hx)
    obtain ⟨⟨p1, -⟩, -⟩ := h3 c c0 c1
    obtain ⟨⟨-, p2, -⟩, -⟩ := hS.1 c c0 c1
    rcases c2 with q | ⟨-, q⟩
    · rw [← q]; exact p1
    · rw [← q]; exact p2
theorem p_lays {Q : Int → Me → Prop} {M M1 : Me} (hC : RCuts M) (g : Grv M M1) (hQ : ∀ M2, LyT M1 (rl (M1 58) (M1 57 3)) 384 M2 → (rl (M2 109) (M2 76 47)).Perm (rl (M1 58) (M1 57 3)) → Q 0 M2) : Calls 1 mX12_laysTrees [.inr 76] M1 Q := by
  obtain ⟨h0, h1, h2, h3⟩ := hC
  have e11 : M1 76 11 = M 76 11 := g.f 76 11 (by decide) (by decide)
  refine p_X12_laysTrees (L := rl (M1 58) (M1 57 3)) (by omega) (by omega) (by rw [rl_length]; have := g.s1; omega) (fun x => ?_) g.pls (fun M2 h => hQ M2 h (h.perm (srt_nodup g.so) g.pls))
  rw [g.me]
  unfold tr12
  have : M1 80 = M 80 := funext (fun i => g.f 80 i (by decide) (by decide))
  have e2 : M1 77 = M 77 := funext (fun i => g.f 77 i (by decide) (by decide))
  rw [e11, this, e2]
/-- what both leave as it was -/
def FrT (M M' : Me) : Prop := ∀ k i, k ≠ 57 → k ≠ 58 → k ≠ 109 → (k = 76 → i ≠ 47) → M' k i = M k i
theorem frT {M M1 M2 : Me} {L : List Int} (g : Grv M M1) (h : LyT M1 L 384 M2) : FrT M M2 := fun k i a b c d => (h.f k i c d).trans (g.f k i a b)
theorem perm_len {M2 M1 : Me} (h : 0 ≤ M2 76 47) (h' : 0 ≤ M1 57 3) (p : (rl (M2 109) (M2 76 47)).Perm (rl (M1 58) (M1 57 3))) : M2 76 47 = M1 57 3 := by
  have := p.length_eq
  rw [rl_length, rl_length] at this
  omega
theorem o_trees {M : Me} (hC : RCuts M) (hS : RSt 37 77 (M 3 8) M) (P : Me → Prop) (hP : ∀ M', FrT M M' → P M') : Calls 2 mX11_trees [.inr 0] M (fun r M1 => Calls 2 mX12_trees [.inr 76] M1 (fun r' M2 => r = r' ∧ P M2)) :=
  e_X11_trees (p_gather hC hS (fun _ g => e_X12_trees (p_lays hC g (fun _ h p => ⟨(perm_len h.s0 g.s0 p).symm, hP _ (frT g h)⟩))))
/-- within a yard -/
def inY (a b c d z : Int) : Int := if a ≤ z % 24 ∧ z % 24 ≤ b ∧ c ≤ z / 24 ∧ z / 24 ≤ d then 1 else 0
theorem l_X2_within {Q : Int → Me → Prop} {M : Me} {a b c d : Int} (h32 : M 57 3 ≤ 32) (hp : ∀ x, x ∈ rl (M 58) (M 57 3) → pl x) (hQ : Q (sumI (inY a b c d) (rl (M 58) (M 57 3))) M) : ∀ (k : Nat) (i : Int), 0 ≤ i → i + k = M 57 3 → Go (km 0 mX2_within Q) 6 [some (.inr 57), some (.inl a), some (.inl b), some (.inl c), some (.inl d), some (.inl (sumI (inY a b c d) (rl (M 58) i))), some (.inl i), none, none] [] M := by
  intro k
  induction k with
  | zero =>
    intro i i0 hi
    have : i = M 57 3 := by omega
    subst this
    exact s_X2_within_6 a b c d _ _ M ⟨fun _ => hQ, fun v => by exfalso; omega⟩
  | succ k ih =>
    intro i i0 hi
    have hpi := hp _ (mem_rl.mpr ⟨i, i0, by omega, rfl⟩)
    unfold pl at hpi
    have nx := ih (i + 1) (by omega) (by omega)
    rw [rl_succ i0, sumI_append] at nx
    simp only [sumI, inY] at nx
    have bd := sumI_bound (g := inY a b c d) (B := 1) (rl (M 58) i) (fun x _ => by unfold inY; split <;> omega)
    rw [rl_length] at bd
    refine s_X2_within_6 a b c d _ _ M ⟨fun v => by exfalso; omega, fun _ => ⟨by omega, hpi.1, by omega, hpi.1, fun v => ⟨by unfold cn; omega, ?_⟩, fun v => ⟨fun v2 => ⟨by unfold cn; omega, ?_⟩, fun v2 => ⟨fun v3 => ⟨by unfold cn; omega, ?_⟩, fun v3 => ⟨fun v4 => ⟨by unfold cn; omega, ?_⟩, fun v4 => ⟨by unfold cn; omega, by unfold cn; omega, ?_⟩⟩⟩⟩⟩⟩
    all_goals first
      | (rw [if_neg (by omega), show ∀ s : Int, s + (0 + 0) = s by intro s; omega] at nx; exact nx)
      | (rw [if_pos (by omega), show ∀ s : Int, s + (1 + 0) = s + 1 by intro s; omega] at nx; exact nx)
theorem l_X12_yard {Q : Int → Me → Prop} {M : Me} {a b c d : Int} (h32 : M 76 47 ≤ 32) (hp : ∀ x, x ∈ rl (M 109) (M 76 47) → pl x) (hQ : Q (sumI (inY a b c d) (rl (M 109) (M 76 47))) M) : ∀ (k : Nat) (i : Int), 0 ≤ i → i + k = M 76 47 → Go (km 2 mX12_yard Q) 52 [some (.inr 76), some (.inl a), some (.inl b), some (.inl c), some (.inl d), some (.inl (sumI (inY a b c d) (rl (M 109) i))), some (.inl i)] [] M := by
  intro k
  induction k with
  | zero =>
    intro i i0 hi
    have : i = M 76 47 := by omega
    subst this
    exact s_X12_yard_52 a b c d _ _ M ⟨fun _ => hQ, fun v => by exfalso; omega⟩
  | succ k ih =>
    intro i i0 hi
    have hpi := hp _ (mem_rl.mpr ⟨i, i0, by omega, rfl⟩)
    unfold pl at hpi
    have nx := ih (i + 1) (by omega) (by omega)
    rw [rl_succ i0, sumI_append] at nx
    simp only [sumI, inY] at nx
    have bd := sumI_bound (g := inY a b c d) (B := 1) (rl (M 109) i) (fun x _ => by unfold inY; split <;> omega)
    rw [rl_length] at bd
    refine s_X12_yard_52 a b c d _ _ M ⟨fun v => by exfalso; omega, fun _ => ⟨by omega, hpi.1, fun v => ⟨by omega, hpi.1, fun v2 => ⟨by unfold cn; omega, by unfold cn; omega, ?_⟩, fun v2 => ⟨by unfold cn; omega, ?_⟩⟩, fun v => ⟨by unfold cn; omega, ?_⟩⟩⟩
    all_goals first
      | (rw [if_neg (by omega), show ∀ s : Int, s + (0 + 0) = s by intro s; omega] at nx; exact nx)
      | (rw [if_pos (by omega), show ∀ s : Int, s + (1 + 0) = s + 1 by intro s; omega] at nx; exact nx)
theorem o_yard {M : Me} (hC : RCuts M) (hS : RSt 37 77 (M 3 8) M) (a b c d : Int) (P : Me → Prop) (hP : ∀ M', FrT M M' → P M') : Calls 2 mX11_yard [.inr 0, .inl a, .inl b, .inl c, .inl d] M (fun r M1 => Calls 2 mX12_yard [.inr 76, .inl a, .inl b, .inl c, .inl d] M1 (fun r' M2 => r = r' ∧ P M2)) := by
  by_cases hq : 0 ≤ a ∧ a ≤ b ∧ b ≤ 23 ∧ 0 ≤ c ∧ c ≤ d ∧ d ≤ 15
  · have go : ∀ M1, Grv M M1 → Calls 2 mX12_yard [.inr 76, .inl a, .inl b, .inl c, .inl d] M1 (fun r' M2 => sumI (inY a b c d) (rl (M1 58) (M1 57 3)) = r' ∧ P M2) := fun M1 g => by
      refine e_X12_yard ⟨fun v1 => ⟨fun v2 => ⟨fun v3 => ⟨fun v4 => (by exact p_lays hC g (fun M2 h p => l_X12_yard (by have := perm_len h.s0 g.s0 p; have := g.s1; omega) (fun x hx => g.pls x (p.mem_iff.mp hx)) ⟨(sumI_perm p).symm, hP _ (frT g h)⟩ (M2 76 47).toNat 0 (by omega) (by have := h.s0; omega))), fun v4 => (by exfalso; omega)⟩, fun v3 => (by exfalso; omega)⟩, fun v2 => (by exfalso; omega)⟩, fun v1 => (by exfalso; omega)⟩
    refine e_X11_yard ⟨fun v1 => ⟨fun v2 => ⟨fun v3 => ⟨fun v4 => ⟨fun v5 => ⟨fun v6 => (by exfalso; omega), fun v6 => (by exfalso; omega)⟩, fun v5 => (by exfalso; omega)⟩, fun v4 => (by exfalso; omega)⟩, fun v3 => ⟨fun v4 => ⟨fun v5 => ⟨fun v6 => (by exfalso; omega), fun v6 => (by exact p_gather hC hS (fun M1 g => e_X2_within (l_X2_within g.s1 g.pls (go M1 g) (M1 57 3).toNat 0 (by omega) (by have := g.s0; omega))))⟩, fun v5 => (by exfalso; omega)⟩, fun v4 => (by exfalso; omega)⟩⟩, fun v2 => ⟨fun v3 => ⟨fun v4 => ⟨fun v5 => (by exfalso; omega), fun v5 => (by exfalso; omega)⟩, fun v4 => (by exfalso; omega)⟩, fun v3 => (by exfalso; omega)⟩⟩, fun v1 => ⟨fun v2 => ⟨fun v3 => ⟨fun v4 => (by exfalso; omega), fun v4 => (by exfalso; omega)⟩, fun v3 => (by exfalso; omega)⟩, fun v2 => (by exfalso; omega)⟩⟩
  · have go : Calls 2 mX12_yard [.inr 76, .inl a, .inl b, .inl c, .inl d] M (fun r' M2 => (-1 : Int) = r' ∧ P M2) := by
      refine e_X12_yard ⟨fun v1 => ⟨fun v2 => ⟨fun v3 => ⟨fun v4 => (by exfalso; omega), fun v4 => (by exact ⟨rfl, hP M (fun _ _ _ _ _ _ => rfl)⟩)⟩, fun v3 => (by exact ⟨rfl, hP M (fun _ _ _ _ _ _ => rfl)⟩)⟩, fun v2 => (by exact ⟨rfl, hP M (fun _ _ _ _ _ _ => rfl)⟩)⟩, fun v1 => (by exact ⟨rfl, hP M (fun _ _ _ _ _ _ => rfl)⟩)⟩
    refine e_X11_yard ⟨fun v1 => ⟨fun v2 => ⟨fun v3 => ⟨fun v4 => ⟨fun v5 => ⟨fun v6 => (by exact go), fun v6 => (by exact go)⟩, fun v5 => (by exact go)⟩, fun v4 => (by exact go)⟩, fun v3 => ⟨fun v4 => ⟨fun v5 => ⟨fun v6 => (by exact go), fun v6 => (by exfalso; omega)⟩, fun v5 => (by exact go)⟩, fun v4 => (by exact go)⟩⟩, fun v2 => ⟨fun v3 => ⟨fun v4 => ⟨fun v5 => (by exact go), fun v5 => (by exact go)⟩, fun v4 => (by exact go)⟩, fun v3 => (by exact go)⟩⟩, fun v1 => ⟨fun v2 => ⟨fun v3 => ⟨fun v4 => (by exact go), fun v4 => (by exact go)⟩, fun v3 => (by exact go)⟩, fun v2 => (by exact go)⟩⟩
