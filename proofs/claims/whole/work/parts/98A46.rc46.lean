/-! the machine: swapped, removed, an operation -/
def swR (M : AM) (k old v : List Int32) : AM × List Int32 := match aFind M k with
  | none => (M, [3])
  | some w => if w = old then (match aKeep M k v with
      | some M' => (M', [1])
      | none => (M, [2])) else (M, 0 :: w)
theorem K_swap {F : Nat} {c : CS} {s o : Nat} {M : AM} {k old v : List Int32} (hF : 200 ≤ F) (h : KM0 c s M) (w : wfM M) (hm : kMono M k) (hk : k.length ≤ 32) (hv : v.length ≤ 100) (bk : ∀ b ∈ k, aLow8 b = b) (ha : kAt c o k) (ho : kAt c (o + k.length) old) (hb : kAt c (o + k.length + old.length) v) : WP (k_Machine_swapKey F c s (Int32.ofNat o) (Int32.ofNat k.length) (Int32.ofNat old.length) (Int32.ofNat v.length)) (fun c' => PX 10 s [4, 5, 6, 7, 8, 9, 10, 11] c c' ∧ KM0 c' s (swR M k old v).1 ∧ ansIs c' s (swR M k old v).2) := by
  obtain ⟨h1, h4, h5, hS, f, hK⟩ := KM0_f h
  have hsh := shL_wf w
  have hr : aRank M k ≤ M.2.length := aRank_le
  have h128 : M.2.length ≤ 128 := w.2.1
  have h700 : aUnits M ≤ 700 := w.1.2
  unfold k_Machine_swapKey k_Machine_swapKey_b0 k_Machine_swapKey_b93
  refine WP_eq (K_lower hF h w ha hm) (WP_eq (K_isKey hF h w ha (by omega)) ?_)
  rw [i_ad]
  have fin : ∀ {c1 c2 : CS} {bs : List Int32} {M' : AM}, PX 10 s [10, 11] c c1 → ansIs c1 s bs → PX 10 s [4, 5, 6, 7, 8, 9] c1 c2 → KM0 c2 s M' → swR M k old v = (M', bs) → PX 10 s [4, 5, 6, 7, 8, 9, 10, 11] c c2 ∧ KM0 c2 s (swR M k old v).1 ∧ ansIs c2 s (swR M k old v).2 := by
    intro c1 c2 bs M' g1 g2 g3 g4 g5
    rw [g5]
    exact ⟨PX_t (PX_w g1 (by decide)) (PX_w g3 (by decide)), g4, ans_P g2 g3 (by decide)⟩
  rcases find2 w bk (by omega) with ⟨ef, ed⟩ | ⟨z, ek, ef, ed⟩
  · rw [ed, if_neg (show ¬ xc0 .ne (aB false) = true by decide)]
    refine WP_call (K_say0 (c := c) (s := s) (x := 3)) (fun c1 hc => WP_some (fin hc.1 hc.2.1 PX_r (KM0_say h hc.1 (by decide)) ?_))
    unfold swR
    rw [ef]
    rfl
  · rw [ed, if_pos (show xc0 .ne (aB true) = true by decide)]
    refine WP_eq (K_hasV (by omega) hK hsh z ho) ?_
    by_cases e : (M.2.getD (aRank M k) ([], [])).2 = old
    · rw [decide_eq_true e, if_pos (show xc0 .ne (aB true) = true by decide), i_ad]
      have hle : aUnit (M.2.getD (aRank M k) ([], [])).1.length (M.2.getD (aRank M k) ([], [])).2.length ≤ aUnits M := by
        unfold aUnits
        refine le_sum_mem _ _ (List.mem_map.mpr ⟨M.2.getD (aRank M k) ([], []), ?_, rfl⟩)
        rw [getD_g z]
        exact List.getElem_mem _
      have hmay := K_may hK hsh true (fun _ => z) h4 h5 (fun _ => hle) (by omega) (show k.length + v.length ≤ 1000 by omega)
      rw [show aB true = (1 : Int32) from rfl] at hmay
      refine WP_eq hmay ?_
      rw [if_pos (show true = true from rfl), ek]
      have kn := keep_f (v := v) z ef
      by_cases y : 700 < aUnits M - aUnit k.length (M.2.getD (aRank M k) ([], [])).2.length + aUnit k.length v.length
      · rw [if_pos y] at kn
        have : (true = false ∧ M.2.length = 128) ∨ 700 < aUnits M - aUnit k.length (M.2.getD (aRank M k) ([], [])).2.length + (k.length + v.length + 15) / 16 := Or.inr y
        rw [decide_eq_true this, if_neg (show ¬ xc0 .ne (aB (!true)) = true by decide)]
        refine WP_call (K_say0 (c := c) (s := s) (x := 2)) (fun c1 hc => WP_some (fin hc.1 hc.2.1 PX_r (KM0_say h hc.1 (by decide)) ?_))
        unfold swR
        rw [ef, kn]
        show (if (M.2.getD (aRank M k) ([], [])).2 = old then (M, [2]) else _) = _
        rw [if_pos e]
        rfl
      · rw [if_neg y] at kn
        have : ¬ ((true = false ∧ M.2.length = 128) ∨ 700 < aUnits M - aUnit k.length (M.2.getD (aRank M k) ([], [])).2.length + (k.length + v.length + 15) / 16) := fun u => u.elim (fun u => absurd u.1 (by decide)) y
        rw [decide_eq_false this, if_pos (show xc0 .ne (aB (!false)) = true by decide)]
        refine WP_call (K_say0 (c := c) (s := s) (x := 1)) (fun c1 hc => ?_)
        rw [i_ad]
        refine WP_call (K_keepF (KM0_say h hc.1 (by decide)) w z ek hv (kAt_P hb hc.1)) (fun c2 hc2 => WP_some (fin hc.1 hc.2.1 (PX_w hc2.1 (by decide)) hc2.2 ?_))
        unfold swR
        rw [ef, kn]
        show (if (M.2.getD (aRank M k) ([], [])).2 = old then _ else _) = _
        rw [if_pos e]
        rfl
    · rw [decide_eq_false e, if_neg (show ¬ xc0 .ne (aB false) = true by decide)]
      refine WP_call (K_sayV (x := 0) h w z) (fun c1 hc => WP_some (fin hc.1 hc.2 PX_r (KM0_say h hc.1 (by decide)) ?_))
      unfold swR
      rw [ef]
      show (if (M.2.getD (aRank M k) ([], [])).2 = old then _ else _) = _
      rw [if_neg e]
      rfl
def rmR (M : AM) (k : List Int32) : AM × List Int32 := match aFind M k with
  | none => (M, [0])
  | some w => (aForget M k, 1 :: w)
theorem un_er {M : AM} {r : Nat} (hr : r < M.2.length) : aUnits (M.1, M.2.eraseIdx r) + aUnit (M.2.getD r ([], [])).1.length (M.2.getD r ([], [])).2.length = aUnits M := by
  have e : M.2 = M.2.take r ++ M.2[r] :: M.2.drop (r + 1) := by rw [← List.drop_eq_getElem_cons hr, List.take_append_drop]
  have e2 : M.2.eraseIdx r = M.2.take r ++ M.2.drop (r + 1) := List.eraseIdx_eq_take_drop_succ M.2 r
  unfold aUnits
  rw [getD_g hr]
  show ((M.2.eraseIdx r).map _).sum + _ = (M.2.map _).sum
  rw [e2, un_app]
  have e3 : (M.2.map (fun e => aUnit e.1.length e.2.length)).sum = ((M.2.take r ++ M.2[r] :: M.2.drop (r + 1)).map (fun e => aUnit e.1.length e.2.length)).sum := by rw [← e]
  rw [e3, un_app, List.map_cons, List.sum_cons]
  omega
theorem K_rem {F : Nat} {c : CS} {s o : Nat} {M : AM} {k : List Int32} (hF : 200 ≤ F) (h : KM0 c s M) (w : wfM M) (hm : kMono M k) (hk : k.length ≤ 32) (bk : ∀ b ∈ k, aLow8 b = b) (ha : kAt c o k) : WP (k_Machine_removeKey F c s (Int32.ofNat o) (Int32.ofNat k.length)) (fun c' => PX 10 s [4, 5, 6, 7, 8, 9, 10, 11] c c' ∧ KM0 c' s (rmR M k).1 ∧ ansIs c' s (rmR M k).2) := by
  obtain ⟨h1, h4, h5, hS, f, hK⟩ := KM0_f h
  have hsh := shL_wf w
  have hr : aRank M k ≤ M.2.length := aRank_le
  have h128 : M.2.length ≤ 128 := w.2.1
  unfold k_Machine_removeKey k_Machine_removeKey_b0
  refine WP_eq (K_lower hF h w ha hm) (WP_eq (K_isKey hF h w ha (by omega)) ?_)
  rcases find2 w bk (by omega) with ⟨ef, ed⟩ | ⟨z, ek, ef, ed⟩
  · rw [ed, if_neg (show ¬ xc0 .ne (aB false) = true by decide)]
    have e : rmR M k = (M, [0]) := by
      unfold rmR
      rw [ef]
    rw [e]
    exact WP_call (K_say0 (c := c) (s := s) (x := 0)) (fun c1 hc => WP_some ⟨PX_w hc.1 (by decide), KM0_say h hc.1 (by decide), hc.2.1⟩)
  · rw [ed, if_pos (show xc0 .ne (aB true) = true by decide)]
    have e : rmR M k = (aForget M k, 1 :: (M.2.getD (aRank M k) ([], [])).2) := by
      unfold rmR
      rw [ef]
    rw [e]
    refine WP_call (K_sayV (x := 1) h w z) (fun c1 hc => ?_)
    have hm1 := KM0_say h hc.1 (by decide)
    obtain ⟨g1, g4, g5, gS, f1, gK⟩ := KM0_f hm1
    have hle : aUnit (M.2.getD (aRank M k) ([], [])).1.length (M.2.getD (aRank M k) ([], [])).2.length ≤ aUnits M := by
      unfold aUnits
      refine le_sum_mem _ _ (List.mem_map.mpr ⟨M.2.getD (aRank M k) ([], []), ?_, rfl⟩)
      rw [getD_g z]
      exact List.getElem_mem _
    refine WP_mono (K_delete gK hsh z g4 g5 hle) (fun c2 hc2 => ?_)
    obtain ⟨P, K2, e4, e5⟩ := hc2
    have hun := un_er z
    refine ⟨PX_t (PX_w hc.1 (by decide)) (PX_w P (by decide)), ?_, ans_P hc.2 P (by decide)⟩
    have hl : (M.2.eraseIdx (aRank M k)).length = M.2.length - 1 := List.length_eraseIdx_of_lt z
    refine KM0_b (f := fun i => f1 (gDel M.2.length (aRank M k) i)) (M := (M.1, M.2.eraseIdx (aRank M k))) ?_ ((PX_o P (by decide)).trans g1) (e4.trans ?_) (e5.trans ?_) (KSs_o gS (fun j => PX_o P (by decide)) (fun j => PX_o P (by decide))) K2
    · show (M.2.eraseIdx (aRank M k)).length ≤ 128
      omega
    · show _ = Int32.ofNat (M.2.eraseIdx (aRank M k)).length
      rw [hl]
    · congr 1
      omega
/-- an operation upon the keys -/
theorem aOp_R {M : AM} {kind : Int32} {k v : Nat} {b : List Int32} : aOp M kind k v b = if kind = 0 then opR M (b.take k) (b.drop k) else if kind = 1 then swR M (b.take k) ((b.drop k).take v) (b.drop (k + v)) else rmR M (b.take k) := rfl
