/-! ===== fence: the rows of corners ===== -/
theorem fen_bound {al be : Int} {pts rp rest : List Int} {p : Int} (hinj : ∀ x y, x ∈ pts → y ∈ pts → kk al be x = kk al be y → x = y) (hw : pts.Pairwise (fun x y => kk al be x < kk al be y)) (e : pts.reverse = rp ++ p :: rest) : (chn pts []).tail.length + (popf p (chn rp [])).length ≤ pts.length := by
  have hmem : ∀ z, z ∈ pts ↔ z ∈ rp ++ p :: rest := fun z => by rw [← e, List.mem_reverse]
  have hr0 : (rp ++ p :: rest).Pairwise (fun x y => kk al be y < kk al be x) := by rw [← e]; exact List.pairwise_reverse.mpr hw
  have e2 : rp ++ p :: rest = (rp ++ [p]) ++ rest := by simp
  rw [e2] at hr0 hmem
  obtain ⟨hr1, hr2, hr3⟩ := List.pairwise_append.mp hr0
  have sub : ∀ z, z ∈ rp ++ [p] → z ∈ pts := fun z hz => (hmem z).mpr (List.mem_append_left _ hz)
  have hup := Inv_all (al := -al) (be := -be) (pts := rp ++ [p]) (fun x y hx hy z => hinj x y (sub x hx) (sub y hy) (by rw [kk_neg, kk_neg] at z; omega)) (hr1.imp (fun h => by rw [kk_neg, kk_neg]; omega))
  rw [chn_snoc] at hup
  have hlo := Inv_all hinj hw
  have n2 := (Ch_nodup _ _ hup.1).1
  have n2' := (List.nodup_cons.mp n2).2
  have s2 : ∀ z, z ∈ popf p (chn rp []) → z ∈ pts := fun z hz => sub z (hup.2.1 z (List.mem_cons_of_mem _ hz))
  cases hc : chn pts [] with
  | nil =>
    have := nodup_le n2' s2
    simpa using this
  | cons mx lt =>
    rw [hc] at hlo
    have n1 := (List.nodup_cons.mp (Ch_nodup _ _ hlo.1).1).2
    have := nodup_le (l1 := lt ++ popf p (chn rp [])) (l2 := pts) (List.nodup_append.mpr ⟨n1, n2', fun a ha b hb q => by
      subst q
      refine chains_apart hinj (T := fun z => z ∈ rp ++ [p]) sub hlo hup (fun z hz hk => ?_) hb ha
      rcases List.mem_append.mp ((hmem z).mp hz) with q | q
      · exact q
      · have := hr3 p (by simp) z q; omega⟩) (fun z hz => by
      rcases List.mem_append.mp hz with q | q
      · exact hlo.2.1 z (List.mem_cons_of_mem _ q)
      · exact s2 z q)
    rw [List.length_append] at this
    simpa using this
def cors (pts : List Int) : List Int := (chn pts []).tail.reverse ++ (if pts.length ≤ 1 then chn pts.reverse [] else (chn pts.reverse []).tail).reverse
theorem rl_zero {f : Int → Int} {n : Int} (h : n ≤ 0) : rl f n = [] := by
  unfold rl
  rw [show n.toNat = 0 by omega]
  rfl
