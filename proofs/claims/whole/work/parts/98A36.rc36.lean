/-! what is agreed keeps the keys in order -/
theorem getD_g {M : AM} {i : Nat} (hi : i < M.2.length) : M.2.getD i ([], []) = M.2[i] := by
  rw [List.getD_eq_getElem?_getD, List.getElem?_eq_getElem hi]
  rfl
theorem ite_sm {P : Prop} [Decidable P] {x y : AM} (e : (if P then none else some x) = some y) : x = y := by
  by_cases q : P
  · rw [if_pos q] at e
    cases e
  · rw [if_neg q] at e
    exact Option.some.inj e
theorem keep_srt {M M' : AM} {k v : List Int32} (h : srtM M) (w : wfM M) (hk : k.length ≤ 300) (bk : ∀ b ∈ k, aLow8 b = b) (e : aKeep M k v = some M') : srtM M' := by
  unfold aKeep at e
  dsimp only at e
  · have e2 : (M.1, M.2.take (aRank M k) ++ (k, v) :: M.2.drop (aRank M k + if (aFind M k).isNone then 0 else 1)) = M' := ite_sm e
    rw [← e2]
    have low : ∀ x ∈ (M.2.take (aRank M k)).map (fun e => e.1), kLt x k := by
      intro x hx
      obtain ⟨y, hy, rfl⟩ := List.mem_map.mp hx
      obtain ⟨i, hi, rfl⟩ := List.mem_iff_getElem.mp hy
      rw [List.length_take] at hi
      rw [List.getElem_take, ← getD_g (by omega)]
      exact rank_lo w (by omega) (by omega)
    have high : ∀ y ∈ (M.2.drop (aRank M k + if (aFind M k).isNone then 0 else 1)).map (fun e => e.1), kLt k y := by
      intro x hx
      obtain ⟨y, hy, rfl⟩ := List.mem_map.mp hx
      obtain ⟨i, hi, rfl⟩ := List.mem_iff_getElem.mp hy
      rw [List.length_drop] at hi
      rw [List.getElem_drop, ← getD_g (by omega)]
      have hr : aRank M k < M.2.length := by omega
      have ef := @aFind_e M k
      rw [if_pos hr] at ef
      by_cases z : aCmp (M.2.getD (aRank M k) ([], [])).1 k = 0
      · rw [if_pos z] at ef
        have e1 : (if (aFind M k).isNone = true then 0 else 1) = 1 := by
          rw [ef]
          rfl
        rw [e1] at hi ⊢
        have l1 := key_len w hr
        have hm : M.2.getD (aRank M k) ([], []) ∈ M.2 := by
          rw [getD_g hr]
          exact List.getElem_mem _
        have ek := aCmp_0 _ _ (w.2.2.2 _ hm).2.2.1 bk (by omega) hk z
        have := srt_lt h (show aRank M k < aRank M k + 1 + i by omega) (by omega)
        rw [ek] at this
        exact this
      · exact rank_hi h w (by omega) (by omega) (by omega) z
    unfold srtM at h ⊢
    show List.Pairwise kLt ((M.2.take (aRank M k) ++ (k, v) :: M.2.drop (aRank M k + if (aFind M k).isNone then 0 else 1)).map (fun e => e.1))
    rw [List.map_append, List.map_cons, List.pairwise_append]
    refine ⟨h.sublist ((List.take_sublist _ _).map _), List.pairwise_cons.mpr ⟨high, h.sublist ((List.drop_sublist _ _).map _)⟩, fun x hx y hy => ?_⟩
    rcases List.mem_cons.mp hy with rfl | hy
    · exact low x hx
    · exact kLt_trans _ _ _ (low x hx) (high y hy)
theorem forget_srt {M : AM} {k : List Int32} (h : srtM M) : srtM (aForget M k) := by
  unfold srtM at h ⊢
  exact h.sublist ((List.eraseIdx_sublist _ _).map _)
theorem op_srt {M : AM} {kind : Int32} {k v : Nat} {b : List Int32} (h : srtM M) (w : wfM M) (hb : b.length ≤ 300) (bl : ∀ x ∈ b, aLow8 x = x) : srtM (aOp M kind k v b).1 := by
  have hk : (b.take k).length ≤ 300 := by
    rw [List.length_take]
    omega
  have bk : ∀ x ∈ b.take k, aLow8 x = x := fun x hx => bl x (List.mem_of_mem_take hx)
  unfold aOp
  dsimp only
  split
  · split
    · next M' e => exact keep_srt h w hk bk e
    · exact h
  · split
    · split
      · exact h
      · split
        · split
          · next M' e => exact keep_srt h w hk bk e
          · exact h
        · exact h
    · split
      · exact h
      · exact forget_srt h
theorem wfM_ses {M : AM} {i : Nat} {n : Int32} (w : wfM M) : wfM (M.1.set i ((M.1.getD i (0, 0, 0, 0, [])).1, n, (M.1.getD i (0, 0, 0, 0, [])).2.2), M.2) := by
  obtain ⟨⟨w1, w2⟩, w3, w4, w5⟩ := w
  refine ⟨⟨by rw [List.length_set]; exact w1, w2⟩, w3, fun x hx => ?_, w5⟩
  rcases List.mem_or_eq_of_mem_set hx with hx | rfl
  · exact w4 x hx
  · show (M.1.getD i (0, 0, 0, 0, [])).2.2.2.2.length ≤ 112 ∧ ∀ b ∈ (M.1.getD i (0, 0, 0, 0, [])).2.2.2.2, aLow8 b = b
    by_cases hi : i < M.1.length
    · rw [List.getD_eq_getElem?_getD, List.getElem?_eq_getElem hi]
      exact w4 _ (List.getElem_mem _)
    · rw [List.getD_eq_getElem?_getD, List.getElem?_eq_none (by omega)]
      exact ⟨Nat.zero_le _, fun b hb => absurd hb List.not_mem_nil⟩
theorem perf_srt {K : List AK} {M : AM} {n : Int32} {e : AE} (h : srtM M) (w : wfM M) (hK : ∀ k ∈ K, k.2.length ≤ 300 ∧ ∀ x ∈ k.2, aLow8 x = x) : srtM (aPerf K M n e).1 := by
  unfold aPerf
  split
  · exact h
  · split
    · exact h
    · next i _ =>
      dsimp only
      split
      · exact h
      · split
        · exact h
        · refine op_srt (M := (M.1.set i ((M.1.getD i (0, 0, 0, 0, [])).1, n, (M.1.getD i (0, 0, 0, 0, [])).2.2), M.2)) h (wfM_ses w) ?_ ?_
          · by_cases hi : e.2.2.2.2.2.toNatClampNeg < K.length
            · rw [List.getD_eq_getElem?_getD, List.getElem?_eq_getElem hi]
              exact (hK _ (List.getElem_mem _)).1
            · rw [List.getD_eq_getElem?_getD, List.getElem?_eq_none (by omega)]
              exact Nat.zero_le _
          · by_cases hi : e.2.2.2.2.2.toNatClampNeg < K.length
            · rw [List.getD_eq_getElem?_getD, List.getElem?_eq_getElem hi]
              exact (hK _ (List.getElem_mem _)).2
            · rw [List.getD_eq_getElem?_getD, List.getElem?_eq_none (by omega)]
              exact fun x hx => absurd hx List.not_mem_nil
