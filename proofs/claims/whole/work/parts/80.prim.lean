/-! ===== paths: what joining costs hangs on the number of groups at each length alone ===== -/
theorem dst_sym (a b : Int) : dst a b = dst b a := by unfold dst; omega
theorem dst_nn (a b : Int) : 0 ≤ dst a b := by unfold dst; omega
theorem dst_le {a b : Int} (ha : pl a) (hb : pl b) : dst a b ≤ 38 := by unfold pl at ha hb; unfold dst; omega
theorem dst_self (a : Int) : dst a a = 0 := by unfold dst; omega
theorem dst_0 {a b : Int} (h : dst a b = 0) : a = b := by unfold dst at h; omega
def Prm (S : Int → Prop) : List (Int × Int) → Prop
  | [] => False
  | [q] => S q.1 ∧ q.2 = 0
  | q :: p :: r => Prm S (p :: r) ∧ S q.1 ∧ (∀ x, x ∈ p :: r → x.1 ≠ q.1) ∧ (∃ x, x ∈ p :: r ∧ dst x.1 q.1 = q.2) ∧ (∀ y, S y → (∀ x, x ∈ p :: r → x.1 ≠ y) → ∀ x, x ∈ p :: r → q.2 ≤ dst x.1 y)
theorem Prm_S {S : Int → Prop} : ∀ (l : List (Int × Int)), Prm S l → ∀ x, x ∈ l → S x.1
  | [], h, _, _ => absurd h (fun z => z)
  | [q], h, x, hx => by
    have : x = q := by simpa using hx
    rw [this]; exact h.1
  | q :: p :: r, h, x, hx => by
    rcases List.mem_cons.mp hx with e | e
    · rw [e]; exact h.2.1
    · exact Prm_S (p :: r) h.1 x e
theorem Prm_nodup {S : Int → Prop} : ∀ (l : List (Int × Int)), Prm S l → (l.map Prod.fst).Nodup
  | [], h => absurd h (fun z => z)
  | [q], h => by simp
  | q :: p :: r, h => by
    rw [List.map_cons]
    refine List.nodup_cons.mpr ⟨fun hm => ?_, Prm_nodup (p :: r) h.1⟩
    obtain ⟨x, hx, e⟩ := List.mem_map.mp hm
    exact h.2.2.1 x hx e
theorem Prm_cost {S : Int → Prop} (hS : ∀ y, S y → pl y) : ∀ (l : List (Int × Int)), Prm S l → ∀ x, x ∈ l → 0 ≤ x.2 ∧ x.2 ≤ 38
  | [], h, _, _ => absurd h (fun z => z)
  | [q], h, x, hx => by
    have : x = q := by simpa using hx
    rw [this]; have := h.2; omega
  | q :: p :: r, h, x, hx => by
    rcases List.mem_cons.mp hx with e | e
    · rw [e]
      obtain ⟨y, hy, ey⟩ := h.2.2.2.1
      rw [← ey]
      exact ⟨dst_nn _ _, dst_le (hS _ (Prm_S (p :: r) h.1 y hy)) (hS _ h.2.1)⟩
    · exact Prm_cost hS (p :: r) h.1 x e
def lk (S : Int → Prop) (t x y : Int) : Prop := S x ∧ S y ∧ dst x y ≤ t
def cntG (t : Int) : List (Int × Int) → Nat
  | [] => 0
  | q :: r => (if t < q.2 then 1 else 0) + cntG t r
theorem Prm_cnt {S : Int → Prop} {t : Int} (ht : 0 ≤ t) : ∀ (l : List (Int × Int)), Prm S l → ∃ D : List (Quot (lk S t)), D.Nodup ∧ (∀ q, q ∈ D ↔ ∃ x, x ∈ l ∧ Quot.mk _ x.1 = q) ∧ D.length = cntG t l + 1
  | [], h => absurd h (fun z => z)
  | [q], h => by
    refine ⟨[Quot.mk _ q.1], by simp, fun z => ?_, ?_⟩
    · simp only [List.mem_singleton]
      constructor
      · rintro rfl; exact ⟨q, rfl, rfl⟩
      · rintro ⟨x, rfl, e⟩; exact e.symm
    · have := h.2
      simp only [cntG, List.length_singleton]
      rw [if_neg (by omega)]
  | q :: p :: r, h => by
    obtain ⟨D, d1, d2, d3⟩ := Prm_cnt ht (p :: r) h.1
    have hS := Prm_S (p :: r) h.1
    obtain ⟨-, sq, hne, ⟨x0, hx0, ex0⟩, hmin⟩ := h
    by_cases hc : t < q.2
    · refine ⟨Quot.mk _ q.1 :: D, List.nodup_cons.mpr ⟨fun hm => ?_, d1⟩, fun z => ?_, ?_⟩
      · obtain ⟨x, hx, ex⟩ := (d2 _).mp hm
        have inv : ∀ a b, lk S t a b → (∃ z, z ∈ p :: r ∧ z.1 = a) = (∃ z, z ∈ p :: r ∧ z.1 = b) := fun a b hab => by
          have one : ∀ a b, S b → dst a b ≤ t → (∃ z, z ∈ p :: r ∧ z.1 = a) → (∃ z, z ∈ p :: r ∧ z.1 = b) := fun a b sb dab ⟨z, hz, ez⟩ => by
            by_cases hb : ∃ z, z ∈ p :: r ∧ z.1 = b
            · exact hb
            · exfalso
              have := hmin b sb (fun w hw e => hb ⟨w, hw, e⟩) z hz
              rw [ez] at this
              omega
          exact propext ⟨one a b hab.2.1 hab.2.2, one b a hab.1 (by rw [dst_sym]; exact hab.2.2)⟩
        have e2 := congrArg (Quot.lift (fun a => ∃ z, z ∈ p :: r ∧ z.1 = a) inv) ex
        have e3 : (∃ z, z ∈ p :: r ∧ z.1 = x.1) = (∃ z, z ∈ p :: r ∧ z.1 = q.1) := e2
        obtain ⟨z, hz, ez⟩ := e3.mp ⟨x, hx, rfl⟩
        exact hne z hz ez
      · rw [List.mem_cons, d2]
        constructor
        · rintro (rfl | ⟨x, hx, ex⟩)
          · exact ⟨q, List.mem_cons_self, rfl⟩
          · exact ⟨x, List.mem_cons_of_mem _ hx, ex⟩
        · rintro ⟨x, hx, ex⟩
          rcases List.mem_cons.mp hx with e | e
          · rw [e] at ex; exact Or.inl ex.symm
          · exact Or.inr ⟨x, e, ex⟩
      · rw [List.length_cons, d3]
        show _ = (if t < q.2 then 1 else 0) + cntG t (p :: r) + 1
        rw [if_pos hc]
        omega
    · refine ⟨D, d1, fun z => ?_, ?_⟩
      · rw [d2]
        constructor
        · rintro ⟨x, hx, ex⟩; exact ⟨x, List.mem_cons_of_mem _ hx, ex⟩
        · rintro ⟨x, hx, ex⟩
          rcases List.mem_cons.mp hx with e | e
          · refine ⟨x0, hx0, ?_⟩
            rw [← ex, e]
            exact Quot.sound ⟨hS x0 hx0, sq, by omega⟩
          · exact ⟨x, e, ex⟩
      · rw [d3]
        show _ = (if t < q.2 then 1 else 0) + cntG t (p :: r) + 1
        rw [if_neg hc]
        omega
def tot : Nat → List (Int × Int) → Int
  | 0, _ => 0
  | T + 1, l => tot T l + (cntG (T : Int) l : Int)
theorem tot_nil : ∀ T, tot T [] = 0
  | 0 => rfl
  | T + 1 => by simp [tot, tot_nil T, cntG]
theorem tot_cons (q : Int × Int) (r : List (Int × Int)) (h : 0 ≤ q.2) : ∀ T : Nat, tot T (q :: r) = min q.2 T + tot T r
  | 0 => by simp only [tot]; omega
  | T + 1 => by
    simp only [tot, cntG, tot_cons q r h T]
    by_cases hc : (T : Int) < q.2
    · rw [if_pos hc]; omega
    · rw [if_neg hc]; omega
theorem sum_tot (T : Nat) : ∀ (l : List (Int × Int)), (∀ x, x ∈ l → 0 ≤ x.2 ∧ x.2 ≤ (T : Int)) → sumI Prod.snd l = tot T l
  | [], _ => by rw [tot_nil]; rfl
  | q :: r, h => by
    have h1 := h q List.mem_cons_self
    rw [tot_cons q r h1.1, ← sum_tot T r (fun x hx => h x (List.mem_cons_of_mem _ hx))]
    simp only [sumI]
    omega
theorem tot_congr {l1 l2 : List (Int × Int)} (h : ∀ t : Nat, cntG (t : Int) l1 = cntG (t : Int) l2) : ∀ T : Nat, tot T l1 = tot T l2
  | 0 => rfl
  | T + 1 => by simp only [tot, tot_congr h T, h T]
theorem Prm_sum {S : Int → Prop} (hS : ∀ y, S y → pl y) {l1 l2 : List (Int × Int)} (h1 : Prm S l1) (h2 : Prm S l2) (c1 : ∀ y, S y → ∃ x, x ∈ l1 ∧ x.1 = y) (c2 : ∀ y, S y → ∃ x, x ∈ l2 ∧ x.1 = y) : sumI Prod.snd l1 = sumI Prod.snd l2 := by
  rw [sum_tot 38 l1 (Prm_cost hS l1 h1), sum_tot 38 l2 (Prm_cost hS l2 h2)]
  refine tot_congr (fun t => ?_) 38
  obtain ⟨D1, a1, a2, a3⟩ := Prm_cnt (t := (t : Int)) (by omega) l1 h1
  obtain ⟨D2, b1, b2, b3⟩ := Prm_cnt (t := (t : Int)) (by omega) l2 h2
  have pm : D1.Perm D2 := @nodup_permP _ (fun a b => Classical.propDecidable (a = b)) D1 D2 a1 b1 (fun q => by
    rw [a2, b2]
    constructor
    · rintro ⟨x, hx, ex⟩
      obtain ⟨y, hy, ey⟩ := c2 x.1 (Prm_S l1 h1 x hx)
      exact ⟨y, hy, by rw [ey]; exact ex⟩
    · rintro ⟨x, hx, ex⟩
      obtain ⟨y, hy, ey⟩ := c1 x.1 (Prm_S l2 h2 x hx)
      exact ⟨y, hy, by rw [ey]; exact ex⟩)
  have := pm.length_eq
  omega
theorem Prm_all {f : Int → Int} {n : Int} {l : List (Int × Int)} (h : Prm (memF f n) l) (hl : n ≤ l.length) : ∀ y, memF f n y → ∃ x, x ∈ l ∧ x.1 = y := by
  intro y hy
  by_cases e : ∃ x, x ∈ l ∧ x.1 = y
  · exact e
  · exfalso
    have := nodup_le (l1 := y :: l.map Prod.fst) (l2 := rl f n) (List.nodup_cons.mpr ⟨fun hm => by
      obtain ⟨x, hx, ex⟩ := List.mem_map.mp hm
      exact e ⟨x, hx, ex⟩, Prm_nodup l h⟩) (fun z hz => by
      rcases List.mem_cons.mp hz with q | q
      · rw [q]; exact mem_rl.mpr hy
      · obtain ⟨x, hx, ex⟩ := List.mem_map.mp q
        rw [← ex]
        exact mem_rl.mpr (Prm_S l h x hx))
    rw [List.length_cons, List.length_map, rl_length] at this
    omega
theorem Prm_len {f : Int → Int} {n : Int} {l : List (Int × Int)} (h : Prm (memF f n) l) : l.length ≤ n.toNat := by
  have := nodup_le (l1 := l.map Prod.fst) (l2 := rl f n) (Prm_nodup l h) (fun z hz => by
    obtain ⟨x, hx, ex⟩ := List.mem_map.mp hz
    rw [← ex]
    exact mem_rl.mpr (Prm_S l h x hx))
  rw [List.length_map, rl_length] at this
  exact this
theorem Prm_some {f : Int → Int} {n : Int} {l : List (Int × Int)} (hnd : (rl f n).Nodup) (hl : (l.length : Int) < n) : ∃ i, 0 ≤ i ∧ i < n ∧ ∀ x, x ∈ l → x.1 ≠ f i := by
  by_cases e : ∃ i, 0 ≤ i ∧ i < n ∧ ∀ x, x ∈ l → x.1 ≠ f i
  · exact e
  · exfalso
    have := nodup_le (l1 := rl f n) (l2 := l.map Prod.fst) hnd (fun z hz => by
      obtain ⟨i, i0, i1, i2⟩ := mem_rl.mp hz
      by_cases q : ∃ x, x ∈ l ∧ x.1 = f i
      · obtain ⟨x, hx, ex⟩ := q
        exact List.mem_map.mpr ⟨x, hx, by rw [ex, i2]⟩
      · exact absurd ⟨i, i0, i1, fun x hx e => q ⟨x, hx, e⟩⟩ e)
    rw [List.length_map, rl_length] at this
    omega
theorem Prm_step {S : Int → Prop} {l : List (Int × Int)} {v c : Int} (h : Prm S l) (sv : S v) (hne : ∀ x, x ∈ l → x.1 ≠ v) (hex : ∃ x, x ∈ l ∧ dst x.1 v = c) (hmin : ∀ y, S y → (∀ x, x ∈ l → x.1 ≠ y) → ∀ x, x ∈ l → c ≤ dst x.1 y) : Prm S ((v, c) :: l) := by
  cases l with
  | nil => exact absurd h (fun z => z)
  | cons p r => exact ⟨h, sv, hne, hex, hmin⟩
theorem sum_bound {l : List (Int × Int)} (h : ∀ x, x ∈ l → 0 ≤ x.2 ∧ x.2 ≤ 38) : 0 ≤ sumI Prod.snd l ∧ sumI Prod.snd l ≤ 38 * l.length := sumI_bound l h
