/-! ===== fence: both sides ===== -/
theorem rl_pw {R : Int → Int → Prop} {f : Int → Int} {n : Int} (h : ∀ i j, 0 ≤ i → i < j → j < n → R (f i) (f j)) : (rl f n).Pairwise R := by
  unfold rl
  rw [List.pairwise_map]
  refine List.Pairwise.imp_of_mem ?_ (List.pairwise_lt_range (n := n.toNat))
  intro a b ha hb hab
  rw [List.mem_range] at ha hb
  exact h _ _ (Int.natCast_nonneg a) (by have : (Int.ofNat a) = (a : Int) := rfl; have : (Int.ofNat b) = (b : Int) := rfl; omega) (by have : (Int.ofNat b) = (b : Int) := rfl; omega)
theorem kk_id (z : Int) : kk 1 24 z = z := by unfold kk; omega
theorem kk_ky (z : Int) : kk 16 1 z = ky z := by unfold kk ky; omega
theorem ky_inj {x y : Int} (hx : pl x) (hy : pl y) (h : kk 16 1 x = kk 16 1 y) : x = y := by
  unfold pl at hx hy
  unfold kk at h
  omega
theorem cors_len {al be : Int} {pts : List Int} (hinj : ∀ x y, x ∈ pts → y ∈ pts → kk al be x = kk al be y → x = y) (hw : pts.Pairwise (fun x y => kk al be x < kk al be y)) : (cors pts).length ≤ pts.length := by
  by_cases h2 : pts.length ≤ 1
  · match pts, h2 with
    | [], _ => simp [cors, chn]
    | [a], _ => simp [cors, chn, popf]
    | a :: b :: t, h2 => simp at h2
  · have hL : pts.reverse ≠ [] := fun z => by rw [List.reverse_eq_nil_iff] at z; rw [z] at h2; simp at h2
    have hd := (List.dropLast_concat_getLast hL).symm
    have fb := fen_bound (rest := []) hinj hw hd
    unfold cors
    rw [if_neg h2, List.length_append, List.length_reverse, List.length_reverse]
    rw [hd, chn_snoc, List.tail_cons]
    exact fb
theorem cors_mem {pts : List Int} {z : Int} (h : z ∈ cors pts) : z ∈ pts := by
  unfold cors at h
  rcases List.mem_append.mp h with h | h
  · rcases chn_mem _ _ _ (List.mem_of_mem_tail (List.mem_reverse.mp h)) with q | q
    · exact q
    · cases q
  · have h := List.mem_reverse.mp h
    have h' : z ∈ chn pts.reverse [] := by
      split at h
      · exact h
      · exact List.mem_of_mem_tail h
    rcases chn_mem _ _ _ h' with q | q
    · exact List.mem_reverse.mp q
    · cases q
theorem p_X12_laysFence {Q : Int → Me → Prop} {M : Me} {L : List Int} (hn : 0 ≤ M 76 11) (h16 : M 76 11 ≤ 16) (hL : L.length ≤ 32) (hnd : L.Nodup) (hm : ∀ x, x ∈ L ↔ tr12 M x) (hp : ∀ x, x ∈ L → pl x)
    (hQ : ∀ M' M1 pts, Fr109 M M1 → Fr110 M1 M' → pts.Perm L → (∀ x y, x ∈ pts → y ∈ pts → kk 16 1 x = kk 16 1 y → x = y) → pts.Pairwise (fun x y => kk 16 1 x < kk 16 1 y) → 0 ≤ M' 76 48 → rl (M' 110) (M' 76 48) = cors pts → Q 0 M') : Calls 2 mX12_laysFence [.inr 76] M Q := by
  refine e_X12_laysFence (p_X12_laysTrees hn h16 hL hm hp (fun M1 h => ?_))
  have pm := h.perm hnd hp
  have hpl : ∀ z, z ∈ rl (M1 109) (M1 76 47) → pl z := fun z hz => hp z (pm.mem_iff.mp hz)
  have hinj : ∀ x y, x ∈ rl (M1 109) (M1 76 47) → y ∈ rl (M1 109) (M1 76 47) → kk 16 1 x = kk 16 1 y → x = y := fun x y hx hy e => ky_inj (hpl x hx) (hpl y hy) e
  have hw : (rl (M1 109) (M1 76 47)).Pairwise (fun x y => kk 16 1 x < kk 16 1 y) := rl_pw (fun i j a b c => by rw [kk_ky, kk_ky]; exact h.so i j a b c)
  have e109 : ∀ v, (mput M1 76 48 v) 109 = M1 109 := fun v => funext (fun i => mput_ne _ _ _ _ (by first | omega | decide))
  have e47 : ∀ v, (mput M1 76 48 v) 76 47 = M1 76 47 := fun v => mput_ni _ _ _ _ (by first | omega | decide)
  refine l_X12_laysFence_11 (M0 := mput M1 76 48 0) (pts := rl (M1 109) (M1 76 47)) (s := M1 76 47) (e47 0) (by rw [e109]) h.s0 (by have := h.le; omega) hinj hw hpl (fun M' f n0 hr => hQ M' M1 _ h.f ((Fr110.pop M1 0).tr f) pm hinj hw n0 hr) (M1 76 47).toNat 0 _ (by omega) (by have := h.s0; omega) (fun _ _ _ _ => rfl) (by rw [mput_same]; omega) ?_
  rw [mput_same, rl_zero (by omega), rl_zero (by omega)]
  rfl
def FrF (M M' : Me) : Prop := ∀ k i, k ≠ 57 → k ≠ 58 → k ≠ 59 → k ≠ 109 → k ≠ 110 → (k = 76 → i ≠ 47 ∧ i ≠ 48) → M' k i = M k i
theorem o_fence {M : Me} (hC : RCuts M) (hS : RSt 37 77 (M 3 8) M) (a : Int) (P : Me → Prop) (hP : ∀ M', FrF M M' → P M') : Calls 3 mX11_fence [.inr 0, .inl a] M (fun r M1 => Calls 3 mX12_fence [.inr 76, .inl a] M1 (fun r' M2 => r = r' ∧ P M2)) := by
  by_cases ha : a = 0 ∨ a = 1
  · have go : Calls 1 mX2_gather [.inr 57, .inr 3, .inr 37] M (fun r23 M23 => Calls 2 mX2_putFence [.inr 57] M23 (fun r30 M30 =>
        ((a ≠ 0 → Calls 1 mX2_twiceGround [.inr 57] M30 (fun r51 M51 => Calls 3 mX12_fence [.inr 76, .inl a] M51 (fun r' M2 => r51 = r' ∧ P M2))) ∧
        (a = 0 → Calls 3 mX12_fence [.inr 76, .inl a] M30 (fun r' M2 => M30 57 4 = r' ∧ P M2))))) := by
      refine p_gather hC hS (fun M1 g => p_X2_putFence g.s0 g.s1 g.pls (fun M2 f2 n2 r2 => ?_))
      have hlen1 : (rl (M1 58) (M1 57 3)).length ≤ 32 := by rw [rl_length]; have := g.s1; omega
      have hw1 : (rl (M1 58) (M1 57 3)).Pairwise (fun x y => kk 1 24 x < kk 1 24 y) := rl_pw (fun i j a b c => by rw [kk_id, kk_id]; exact g.so i j a b c)
      have hinj1 : ∀ x y, x ∈ rl (M1 58) (M1 57 3) → y ∈ rl (M1 58) (M1 57 3) → kk 1 24 x = kk 1 24 y → x = y := fun x y _ _ e => by rw [kk_id, kk_id] at e; exact e
      have hcl := cors_len hinj1 hw1
      have hn2 : M2 57 4 = ((cors (rl (M1 58) (M1 57 3))).length : Int) := by rw [← r2, rl_length]; omega
      have ref : ∀ (v : Int), v = (if a = 0 then ((cors (rl (M1 58) (M1 57 3))).length : Int) else max (shoe (cors (rl (M1 58) (M1 57 3)))) (-(shoe (cors (rl (M1 58) (M1 57 3)))))) → Calls 3 mX12_fence [.inr 76, .inl a] M2 (fun r' M2 => v = r' ∧ P M2) := fun v hv => by
        have e11 : M2 76 11 = M 76 11 := (f2 76 11 (by first | omega | decide) (by first | omega | decide)).trans (g.f 76 11 (by first | omega | decide) (by first | omega | decide))
        have e80 : M2 80 = M 80 := funext (fun i => (f2 80 i (by first | omega | decide) (by first | omega | decide)).trans (g.f 80 i (by first | omega | decide) (by first | omega | decide)))
        have e77 : M2 77 = M 77 := funext (fun i => (f2 77 i (by first | omega | decide) (by first | omega | decide)).trans (g.f 77 i (by first | omega | decide) (by first | omega | decide)))
        obtain ⟨h0, h1, h2, h3⟩ := hC
        have hz : Calls 2 mX12_laysFence [.inr 76] M2 (fun r12 M12 =>
            ((a ≠ 0 → Go (km 3 mX12_fence (fun r' M2 => v = r' ∧ P M2)) 28 [some (.inr 76), none, some (.inl 0), some (.inl 0), none, none] [] M12) ∧ (a = 0 → v = M12 76 48 ∧ P M12))) := by
          refine p_X12_laysFence (L := rl (M1 58) (M1 57 3)) (by omega) (by omega) hlen1 (srt_nodup g.so) (fun x => ?_) g.pls (fun M4 M3 pts f3 f4 pm hinj hw n4 r4 => ?_)
          · rw [g.me]
            unfold tr12
            rw [e11, e80, e77]
          · obtain ⟨al1, al2⟩ := cors_alike pm hinj1 hw1 hinj hw
            have fr : FrF M M4 := fun k i a b c d e f => (f4 k i e (fun q => (f q).2)).trans ((f3 k i d (fun q => (f q).1)).trans ((f2 k i c (fun q => absurd q a)).trans (g.f k i a b)))
            have hn4 : M4 76 48 = ((cors pts).length : Int) := by rw [← r4, rl_length]; omega
            have hc2 := cors_len hinj hw
            rw [pm.length_eq] at hc2
            refine ⟨fun h => ?_, fun h => ?_⟩
            · rw [if_neg h] at hv
              have hpl4 : ∀ i, 0 ≤ i → i < M4 76 48 → pl (M4 110 i) := fun i i0 i1 => by
                have : M4 110 i ∈ cors pts := by rw [← r4]; exact mem_rl.mpr ⟨i, i0, i1, rfl⟩
                exact g.pls _ (pm.mem_iff.mp (cors_mem this))
              refine l_X12_fence_28 (n := M4 76 48) rfl (by omega) hpl4 (G := shoe (cors pts)) ⟨by rw [hv, al2], hP _ fr⟩ (M4 76 48).toNat 0 0 (by omega) (by omega) (by omega) (by omega) ?_
              rw [← r4]
              obtain ⟨n, hn⟩ : ∃ n : Nat, M4 76 48 = n := ⟨(M4 76 48).toNat, by omega⟩
              rw [hn, rl_rs]
              cases n with
              | zero => simp [rs, pth, shoe]
              | succ n => simp [rs, shoe]
            · rw [if_pos h] at hv
              exact ⟨by rw [hv, hn4, al1], hP _ fr⟩
        refine e_X12_fence ⟨fun _ => hz, fun v => by exfalso; omega⟩
      refine ⟨fun h => p_X2_twiceGround n2 (by omega) (fun z hz => ?_) (ref _ ?_), fun h => ref _ ?_⟩
      · rw [r2] at hz
        exact g.pls _ (cors_mem hz)
      · rw [if_neg h, r2, grd_shoe]
      · rw [if_pos h, hn2]
    refine e_X11_fence ⟨fun _ => go, fun h => ⟨fun _ => go, fun h2 => by exfalso; omega⟩⟩
  · have go : Calls 3 mX12_fence [.inr 76, .inl a] M (fun r' M2 => (-1 : Int) = r' ∧ P M2) :=
      e_X12_fence ⟨fun v => by exfalso; omega, fun _ => ⟨rfl, hP M (fun _ _ _ _ _ _ _ _ => rfl)⟩⟩
    exact e_X11_fence ⟨fun h => by exfalso; omega, fun _ => ⟨fun h => by exfalso; omega, fun _ => go⟩⟩
