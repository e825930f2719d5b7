/-! the entry that comes next is told -/
theorem low_n : ∀ n, n < 128 → ((Int32.ofNat n).toInt8.toInt32).toInt8.toInt32 = Int32.ofNat n := by decide +kernel
theorem getD_ap {x y : List Int32} {m : Nat} : (x ++ y).getD m 0 = if m < x.length then x.getD m 0 else y.getD (m - x.length) 0 := by
  rw [List.getD_eq_getElem?_getD]
  by_cases q : m < x.length
  · rw [if_pos q, List.getElem?_append_left q, List.getD_eq_getElem?_getD]
  · rw [if_neg q, List.getElem?_append_right (by omega), List.getD_eq_getElem?_getD]
theorem K_sayNext {c : CS} {s i : Nat} {M : AM} (h : KM0 c s M) (w : wfM M) (hi : i ≤ 128) : WP (k_Machine_sayNext c s (Int32.ofNat i)) (fun c' => PX 10 s [10, 11] c c' ∧ ansIs c' s (if i < M.2.length then 1 :: Int32.ofNat (M.2.getD i ([], [])).1.length :: ((M.2.getD i ([], [])).1 ++ (M.2.getD i ([], [])).2) else [0])) := by
  have h128 : M.2.length ≤ 128 := w.2.1
  have em : cI c 10 s 4 0 = Int32.ofNat M.2.length := h.2.1
  have o : ∀ {c1 : CS} (P : PX 10 s [10, 11] c c1) (f j : Nat), f ≠ 10 → f ≠ 11 → cI c1 10 s f j = cI c 10 s f j := fun P f j n1 n2 => (P.1 10 s f (fun z => by have := z.2.2; simp only [List.mem_cons, List.not_mem_nil, or_false] at this; omega)).1 j
  unfold k_Machine_sayNext k_Machine_sayNext_b0 k_Machine_sayNext_b14 k_Machine_sayNext_b121
  rw [em]
  by_cases q : M.2.length ≤ i
  · rw [if_pos ((i_gei (by omega) (by omega)).mpr q), if_neg (show ¬ i < M.2.length by omega)]
    refine WP_call (K_say0 (c := c) (s := s) (x := 0)) (fun c1 h1 => ?_)
    rw [o h1.1 4 0 (by decide) (by decide), em, if_pos ((i_gei (by omega) (by omega)).mpr q)]
    exact WP_some ⟨h1.1, h1.2.1⟩
  · rw [if_neg (fun z => q ((i_gei (by omega) (by omega)).mp z)), if_pos (show i < M.2.length by omega)]
    refine WP_call (K_say0 (c := c) (s := s) (x := 1)) (fun c1 h1 => ?_)
    obtain ⟨P, ⟨a1, a2⟩, _⟩ := h1
    have z0 : cI c1 10 s 10 0 = 1 := (a2 0 (show 0 < 1 by omega)).trans (show [aLow8 1].getD 0 0 = 1 by decide)
    rw [o P 4 0 (by decide) (by decide), em, if_neg (fun z => q ((i_gei (by omega) (by omega)).mp z))]
    obtain ⟨sl, q1, q2, q3, q4, q5, q6, q7, q8⟩ := K_slot h w (show i < M.2.length by omega)
    generalize M.2.getD i ([], []) = e at q3 q4 q5 q6 q7 q8
    obtain ⟨ky, vl⟩ := e
    have q3 : cI c 10 s 7 sl = Int32.ofNat ky.length := q3
    have q4 : cI c 10 s 8 sl = Int32.ofNat vl.length := q4
    have q5 : ∀ j, j < ky.length → cI c 10 s 9 (132 * sl + j) = ky.getD j 0 := q5
    have q6 : ∀ j, j < vl.length → cI c 10 s 9 (132 * sl + 32 + j) = vl.getD j 0 := q6
    have q7 : ky.length ≤ 32 := q7
    have q8 : vl.length ≤ 100 := q8
    refine WP_eq (crd_n rfl (show i < 128 by omega) (by omega)) ?_
    rw [o P 6 i (by decide) (by decide), q2]
    refine WP_eq (crd_n rfl (show sl < 128 from q1) (by omega)) ?_
    rw [o P 7 sl (by decide) (by decide), q3, low_n _ (by omega)]
    refine WP_eq (cwr_n (n := 1) rfl (show 1 < 134 by omega) (by omega)) ?_
    have P2 : PX 10 s [10, 11] c (csI c1 10 s 10 1 (Int32.ofNat ky.length)) := PX_t P (PX_I (by decide))
    have y0 : cI (csI c1 10 s 10 1 (Int32.ofNat ky.length)) 10 s 10 0 = 1 := (csI_j (by decide)).trans z0
    have y1 : cI (csI c1 10 s 10 1 (Int32.ofNat ky.length)) 10 s 10 1 = Int32.ofNat ky.length := csI_e
    generalize csI c1 10 s 10 1 (Int32.ofNat ky.length) = c2 at P2 y0 y1
    refine WP_eq (crd_n rfl (show sl < 128 from q1) (by omega)) ?_
    rw [o P2 7 sl (by decide) (by decide), q3, show Int32.ofNat sl * 132 = Int32.ofNat (132 * sl) by rw [show (132 : Int32) = Int32.ofNat 132 from rfl, i_mc, Nat.mul_comm]]
    refine WP_eq (ccpy_n (s := 132 * sl) (t := 2) (n := ky.length) rfl rfl rfl (show 132 * sl + ky.length ≤ 16896 by omega) (show 2 + ky.length ≤ 134 by omega) (by omega) (by omega)) ?_
    have P3 : PX 10 s [10, 11] c (csA c2 10 s 10 (fun w => if 2 ≤ w ∧ w < 2 + ky.length then cI c2 10 s 9 (132 * sl + (w - 2)) else cI c2 10 s 10 w)) := PX_t P2 (PX_A (by decide))
    have x3 : ∀ j, cI (csA c2 10 s 10 (fun w => if 2 ≤ w ∧ w < 2 + ky.length then cI c2 10 s 9 (132 * sl + (w - 2)) else cI c2 10 s 10 w)) 10 s 10 j = if 2 ≤ j ∧ j < 2 + ky.length then cI c2 10 s 9 (132 * sl + (j - 2)) else cI c2 10 s 10 j := fun j => if_pos ⟨rfl, rfl, rfl⟩
    generalize csA c2 10 s 10 (fun w => if 2 ≤ w ∧ w < 2 + ky.length then cI c2 10 s 9 (132 * sl + (w - 2)) else cI c2 10 s 10 w) = c3 at P3 x3
    refine WP_eq (crd_n rfl (show sl < 128 from q1) (by omega)) (WP_eq (crd_n rfl (show sl < 128 from q1) (by omega)) ?_)
    rw [o P3 7 sl (by decide) (by decide), q3, o P3 8 sl (by decide) (by decide), q4, show Int32.ofNat (132 * sl) + 32 = Int32.ofNat (132 * sl + 32) from i_ad (s := 32), show (2 : Int32) + Int32.ofNat ky.length = Int32.ofNat (2 + ky.length) from i_ad (c := 2)]
    refine WP_eq (ccpy_n (s := 132 * sl + 32) (t := 2 + ky.length) (n := vl.length) rfl rfl rfl (show 132 * sl + 32 + vl.length ≤ 16896 by omega) (show 2 + ky.length + vl.length ≤ 134 by omega) (by omega) (by omega)) ?_
    have P4 : PX 10 s [10, 11] c (csA c3 10 s 10 (fun w => if 2 + ky.length ≤ w ∧ w < 2 + ky.length + vl.length then cI c3 10 s 9 (132 * sl + 32 + (w - (2 + ky.length))) else cI c3 10 s 10 w)) := PX_t P3 (PX_A (by decide))
    have x4 : ∀ j, cI (csA c3 10 s 10 (fun w => if 2 + ky.length ≤ w ∧ w < 2 + ky.length + vl.length then cI c3 10 s 9 (132 * sl + 32 + (w - (2 + ky.length))) else cI c3 10 s 10 w)) 10 s 10 j = if 2 + ky.length ≤ j ∧ j < 2 + ky.length + vl.length then cI c3 10 s 9 (132 * sl + 32 + (j - (2 + ky.length))) else cI c3 10 s 10 j := fun j => if_pos ⟨rfl, rfl, rfl⟩
    generalize csA c3 10 s 10 (fun w => if 2 + ky.length ≤ w ∧ w < 2 + ky.length + vl.length then cI c3 10 s 9 (132 * sl + 32 + (w - (2 + ky.length))) else cI c3 10 s 10 w) = c4 at P4 x4
    refine WP_eq (crd_n rfl (show sl < 128 from q1) (by omega)) (WP_eq (crd_n rfl (show sl < 128 from q1) (by omega)) (WP_b (WP_some ⟨PX_t P4 (PX_I (by decide)), ?_, fun j hj => ?_⟩)))
    · rw [csI_e, o P4 7 sl (by decide) (by decide), q3, o P4 8 sl (by decide) (by decide), q4, show (2 : Int32) + Int32.ofNat ky.length = Int32.ofNat (2 + ky.length) from i_ad (c := 2), i_ad]
      congr 1
      show 2 + ky.length + vl.length = (ky ++ vl).length + 1 + 1
      rw [List.length_append]
      omega
    · have hj : j < (ky ++ vl).length + 1 + 1 := hj
      rw [List.length_append] at hj
      rw [csI_f (by decide), x4, x3]
      match j, hj with
      | 0, _ =>
        rw [if_neg (by omega), if_neg (by omega), y0]
        rfl
      | 1, _ =>
        rw [if_neg (by omega), if_neg (by omega), y1]
        rfl
      | m + 2, hj =>
        show _ = (ky ++ vl).getD m 0
        rw [getD_ap]
        by_cases z : m < ky.length
        · rw [if_neg (by omega), if_pos (by omega), if_pos z, o P2 9 _ (by decide) (by decide), Nat.add_sub_cancel]
          exact q5 m z
        · rw [if_pos (by omega), if_neg z, o P3 9 _ (by decide) (by decide), show m + 2 - (2 + ky.length) = m - ky.length by omega]
          exact q6 (m - ky.length) (by omega)
