/-! ===== marriages: all orders, one behind another ===== -/
def px (n : Nat) : Nat → List Nat → List (List Nat)
  | 0, pre => [pre]
  | m + 1, pre => (List.range n).flatMap (fun w => if w ∈ pre then [] else px n m (pre ++ [w]))
def fiL (q : List Nat) : Nat → Nat
  | 0 => 0
  | k + 1 => if q.getD (k + 1) 0 < q.getD k 0 then fiL q k else k + 1
def fjL (q : List Nat) (i : Nat) : Nat → Nat
  | 0 => 0
  | j + 1 => if q.getD (j + 1) 0 < q.getD i 0 then fjL q i j else j + 1
def swL (q : List Nat) (a b : Nat) : List Nat := (q.set a (q.getD b 0)).set b (q.getD a 0)
def rvL : Nat → List Nat → Nat → Nat → List Nat
  | 0, q, _, _ => q
  | k + 1, q, a, b => if a < b then rvL k (swL q a b) (a + 1) (b - 1) else q
def nxL (n : Nat) (q : List Nat) : Option (List Nat) := if fiL q (n - 1) = 0 then none else some (rvL 6 (swL q (fiL q (n - 1) - 1) (fjL q (fiL q (n - 1) - 1) (n - 1))) (fiL q (n - 1)) (n - 1))
def chainL (n : Nat) : List (List Nat) → Bool
  | [] => true
  | [q] => nxL n q == none
  | q :: r :: t => (nxL n q == some r) && chainL n (r :: t)
def chk (n : Nat) : Bool := ((px n n []).head? == some (List.range n)) && chainL n (px n n [])
set_option maxRecDepth 100000 in
theorem chk2 : chk 2 = true := by decide +kernel
set_option maxRecDepth 100000 in
theorem chk3 : chk 3 = true := by decide +kernel
set_option maxRecDepth 100000 in
theorem chk4 : chk 4 = true := by decide +kernel
set_option maxRecDepth 100000 in
theorem chk5 : chk 5 = true := by decide +kernel
set_option maxRecDepth 100000 in
theorem chk6 : chk 6 = true := by decide +kernel
theorem chk_all {n : Nat} (n2 : 2 ≤ n) (n6 : n ≤ 6) : (px n n []).head? = some (List.range n) ∧ chainL n (px n n []) = true := by
  have h : chk n = true := by
    rcases (show n = 2 ∨ n = 3 ∨ n = 4 ∨ n = 5 ∨ n = 6 by omega) with rfl | rfl | rfl | rfl | rfl
    · exact chk2
    · exact chk3
    · exact chk4
    · exact chk5
    · exact chk6
  unfold chk at h
  rw [Bool.and_eq_true] at h
  exact ⟨by simpa using h.1, h.2⟩
/-- each of them: as long as it should be, each place once, all below n -/
theorem px_mem {n : Nat} : ∀ (m : Nat) (pre : List Nat), pre.Nodup → (∀ x, x ∈ pre → x < n) → ∀ q, q ∈ px n m pre → q.length = pre.length + m ∧ q.Nodup ∧ (∀ x, x ∈ q → x < n) ∧ ∃ t, q = pre ++ t
  | 0, pre, h1, h2, q, hq => by
    have : q = pre := by simpa [px] using hq
    subst this
    exact ⟨by omega, h1, h2, [], by simp⟩
  | m + 1, pre, h1, h2, q, hq => by
    simp only [px, List.mem_flatMap, List.mem_range] at hq
    obtain ⟨w, hw, hq⟩ := hq
    by_cases e : w ∈ pre
    · rw [if_pos e] at hq; cases hq
    · rw [if_neg e] at hq
      have h1' : (pre ++ [w]).Nodup := by
        rw [List.nodup_append]
        refine ⟨h1, by simp, fun a ha b hb z => ?_⟩
        have : b = w := by simpa using hb
        rw [this] at z
        exact e (z ▸ ha)
      have h2' : ∀ x, x ∈ pre ++ [w] → x < n := fun x hx => by
        rcases List.mem_append.mp hx with z | z
        · exact h2 x z
        · have : x = w := by simpa using z
          omega
      obtain ⟨a, b, c, t, ht⟩ := px_mem m (pre ++ [w]) h1' h2' q hq
      refine ⟨by rw [a]; simp; omega, b, c, w :: t, ?_⟩
      rw [ht]; simp
/-! who would rather, in an order -/
def rtB (rk pc : Int → Int → Int) (q : List Nat) (x y : Nat) : Bool := decide (rk x (q.getD y 0) < rk x (q.getD x 0) ∧ pc (q.getD y 0) x < pc (q.getD y 0) y)
def pkB (rk pc : Int → Int → Int) (q : List Nat) (one : Nat) : Bool := (List.range one).all (fun o => !rtB rk pc q one o && !rtB rk pc q o one)
def apB (rk pc : Int → Int → Int) (q : List Nat) : Bool := (List.range q.length).all (pkB rk pc q)
theorem pkB_pre {rk pc : Int → Int → Int} {q r : List Nat} {one : Nat} (h : ∀ i, i ≤ one → q.getD i 0 = r.getD i 0) : pkB rk pc q one = pkB rk pc r one := by
  unfold pkB
  have e : ∀ o, o ∈ List.range one → (!rtB rk pc q one o && !rtB rk pc q o one) = (!rtB rk pc r one o && !rtB rk pc r o one) := fun o ho => by
    rw [List.mem_range] at ho
    unfold rtB
    rw [h one (Nat.le_refl _), h o (by omega)]
  rw [Bool.eq_iff_iff, List.all_eq_true, List.all_eq_true]
  exact ⟨fun z o ho => by rw [← e o ho]; exact z o ho, fun z o ho => by rw [e o ho]; exact z o ho⟩
theorem getD_app {q t : List Nat} {i : Nat} (h : i < q.length) : (q ++ t).getD i 0 = q.getD i 0 := by
  simp [List.getD, List.getElem?_append_left h]
theorem apB_snoc {rk pc : Int → Int → Int} (pre : List Nat) (w : Nat) : apB rk pc (pre ++ [w]) = (apB rk pc pre && pkB rk pc (pre ++ [w]) pre.length) := by
  unfold apB
  rw [List.length_append, List.length_singleton, List.range_succ, List.all_append]
  congr 1
  · rw [Bool.eq_iff_iff, List.all_eq_true, List.all_eq_true]
    have e : ∀ o, o ∈ List.range pre.length → pkB rk pc (pre ++ [w]) o = pkB rk pc pre o := fun o ho => by
      rw [List.mem_range] at ho
      exact pkB_pre (fun i hi => getD_app (by omega))
    exact ⟨fun z o ho => by rw [← e o ho]; exact z o ho, fun z o ho => by rw [e o ho]; exact z o ho⟩
  · simp
theorem apB_ext {rk pc : Int → Int → Int} {pre t : List Nat} (h : apB rk pc (pre ++ t) = true) : apB rk pc pre = true := by
  unfold apB at h ⊢
  rw [List.all_eq_true] at h ⊢
  intro o ho
  rw [List.mem_range] at ho
  have := h o (by rw [List.mem_range, List.length_append]; omega)
  rw [← this]
  exact pkB_pre (fun i hi => (getD_app (by omega)).symm)
def cntA (rk pc : Int → Int → Int) (l : List (List Nat)) : Int := sumI (fun q => if apB rk pc q = true then 1 else 0) l
def lstC (rk pc : Int → Int → Int) (n : Nat) : Nat → List Nat → Int
  | 0, _ => 1
  | m + 1, pre => sumI (fun w => if w ∉ pre ∧ pkB rk pc (pre ++ [w]) pre.length = true then lstC rk pc n m (pre ++ [w]) else 0) (List.range n)
theorem sumI_flat {α β : Type} {g : β → Int} {f : α → List β} : ∀ (l : List α), sumI g (l.flatMap f) = sumI (fun a => sumI g (f a)) l
  | [] => rfl
  | a :: l => by rw [List.flatMap_cons, sumI_append, sumI_flat l]; rfl
theorem sumI_fun {α : Type} {f g : α → Int} : ∀ (l : List α), (∀ a, a ∈ l → f a = g a) → sumI f l = sumI g l
  | [], _ => rfl
  | a :: l, h => by simp only [sumI]; rw [h a List.mem_cons_self, sumI_fun l (fun b hb => h b (List.mem_cons_of_mem _ hb))]
theorem sumI_zero {α : Type} {f : α → Int} : ∀ (l : List α), (∀ a, a ∈ l → f a = 0) → sumI f l = 0
  | [], _ => rfl
  | a :: l, h => by simp only [sumI]; rw [h a List.mem_cons_self, sumI_zero l (fun b hb => h b (List.mem_cons_of_mem _ hb))]; rfl
theorem lst_cnt {rk pc : Int → Int → Int} {n : Nat} : ∀ (m : Nat) (pre : List Nat), pre.Nodup → (∀ x, x ∈ pre → x < n) → apB rk pc pre = true → lstC rk pc n m pre = cntA rk pc (px n m pre)
  | 0, pre, _, _, h => by simp [lstC, cntA, px, sumI, h]
  | m + 1, pre, h1, h2, h => by
    simp only [lstC, cntA, px]
    rw [sumI_flat]
    refine sumI_fun _ (fun w hw => ?_)
    rw [List.mem_range] at hw
    by_cases e : w ∈ pre
    · rw [if_neg (fun z => z.1 e), if_pos e]; rfl
    · rw [if_neg e]
      have h1' : (pre ++ [w]).Nodup := by
        rw [List.nodup_append]
        refine ⟨h1, by simp, fun a ha b hb z => ?_⟩
        have : b = w := by simpa using hb
        rw [this] at z
        exact e (z ▸ ha)
      have h2' : ∀ x, x ∈ pre ++ [w] → x < n := fun x hx => by
        rcases List.mem_append.mp hx with z | z
        · exact h2 x z
        · have : x = w := by simpa using z
          omega
      have hs := apB_snoc (rk := rk) (pc := pc) pre w
      rw [h, Bool.true_and] at hs
      by_cases hp : pkB rk pc (pre ++ [w]) pre.length = true
      · rw [if_pos ⟨e, hp⟩]
        exact lst_cnt m (pre ++ [w]) h1' h2' (by rw [hs]; exact hp)
      · rw [if_neg (fun z => hp z.2)]
        refine (sumI_zero _ (fun q hq => ?_)).symm
        obtain ⟨-, -, -, t, ht⟩ := px_mem m (pre ++ [w]) h1' h2' q hq
        rw [if_neg (fun z => ?_)]
        rw [ht] at z
        have := apB_ext z
        rw [hs] at this
        exact hp this
theorem lst_b {rk pc : Int → Int → Int} {n : Nat} : ∀ (m : Nat) (pre : List Nat), 0 ≤ lstC rk pc n m pre ∧ lstC rk pc n m pre ≤ (n : Int) ^ m
  | 0, _ => by simp [lstC]
  | m + 1, pre => by
    simp only [lstC]
    have := sumI_bound (g := fun w => if w ∉ pre ∧ pkB rk pc (pre ++ [w]) pre.length = true then lstC rk pc n m (pre ++ [w]) else 0) (B := (n : Int) ^ m) (List.range n) (fun w _ => by
      have := lst_b (rk := rk) (pc := pc) (n := n) m (pre ++ [w])
      split
      · exact this
      · exact ⟨Int.le_refl _, by omega⟩)
    rw [List.length_range] at this
    rw [Int.pow_succ]
    exact this
