/-! an answer is laid -/
def ansIs (c : CS) (s : Nat) (bs : List Int32) : Prop := cI c 10 s 11 0 = Int32.ofNat bs.length ∧ ∀ i, i < bs.length → cI c 10 s 10 i = bs.getD i 0
theorem RC_ans {c c' : CS} {a : AA} {v : CV} {s : Nat} (h : RC c a v) (P : PX 10 s [10, 11] c c') : RC c' a v := by
  have hF : Ck [330, 331] s c c' := PX_k P (Or.inr rfl) (by decide)
  have hT := P.2.1
  exact ⟨KSc_fr hF (by decide) h.1, fun s hs hu => KFr_fr hF (by decide) (h.2.1 s hs hu), fun s hs => KHd_fr hF (by decide) (h.2.2.1 s hs), fun s hs hr => KLd_fr hF (by decide) (h.2.2.2.1 s hs hr), fun s hs hu => KRq_fr hF (by decide) (h.2.2.2.2.1 s hs hu), KBl_fr hF (by decide) h.2.2.2.2.2.1, KDa_fr hF (by decide) h.2.2.2.2.2.2.1, fun s hs => KLw_fr hF (by decide) (h.2.2.2.2.2.2.2.1 s hs), fun s hs => KG_fr hF (by decide) (h.2.2.2.2.2.2.2.2.1 s hs), fun s hs => KPg_fr hF (by decide) (h.2.2.2.2.2.2.2.2.2.1 s hs), fun s hs => KCh_fr hF (by decide) (h.2.2.2.2.2.2.2.2.2.2.1 s hs), fun s hs => KMc_fr hF (by decide) (h.2.2.2.2.2.2.2.2.2.2.2.1 s hs), fun s hs => KPc_fr hF (by decide) (h.2.2.2.2.2.2.2.2.2.2.2.2.1 s hs), fun k hk => KCl_fr hF (by decide) (h.2.2.2.2.2.2.2.2.2.2.2.2.2.1 k hk), fun k hk => KDn_fr hF (by decide) (h.2.2.2.2.2.2.2.2.2.2.2.2.2.2.1 k hk), KAk_fr hF (by decide) h.2.2.2.2.2.2.2.2.2.2.2.2.2.2.2.1, KFc_fr hF (by decide) h.2.2.2.2.2.2.2.2.2.2.2.2.2.2.2.2.1, fun s hs => KId_fr hF (by decide) (h.2.2.2.2.2.2.2.2.2.2.2.2.2.2.2.2.2.1 s hs), fun k hk => KIc_fr hF (by decide) (h.2.2.2.2.2.2.2.2.2.2.2.2.2.2.2.2.2.2.1 k hk), KLt_fr hF hT (by decide) h.2.2.2.2.2.2.2.2.2.2.2.2.2.2.2.2.2.2.2.1, KRm_fr hF hT (by decide) h.2.2.2.2.2.2.2.2.2.2.2.2.2.2.2.2.2.2.2.2.1, h.2.2.2.2.2.2.2.2.2.2.2.2.2.2.2.2.2.2.2.2.2.1, h.2.2.2.2.2.2.2.2.2.2.2.2.2.2.2.2.2.2.2.2.2.2⟩
theorem K_slot {c : CS} {s i : Nat} {M : AM} (h : KM0 c s M) (w : wfM M) (hi : i < M.2.length) : ∃ q, q < 128 ∧ cI c 10 s 6 i = Int32.ofNat q ∧ cI c 10 s 7 q = Int32.ofNat (M.2.getD i ([], [])).1.length ∧ cI c 10 s 8 q = Int32.ofNat (M.2.getD i ([], [])).2.length ∧ (∀ j, j < (M.2.getD i ([], [])).1.length → cI c 10 s 9 (132 * q + j) = (M.2.getD i ([], [])).1.getD j 0) ∧ (∀ j, j < (M.2.getD i ([], [])).2.length → cI c 10 s 9 (132 * q + 32 + j) = (M.2.getD i ([], [])).2.getD j 0) ∧ (M.2.getD i ([], [])).1.length ≤ 32 ∧ (M.2.getD i ([], [])).2.length ≤ 100 := by
  obtain ⟨_, _, _, _, sl, s1, s2, s3, s4, s5⟩ := h
  obtain ⟨e7, e8, e9, e10⟩ := s5 i hi
  have h128 : M.2.length ≤ 128 := w.2.1
  have hq : sl.getD i 0 < 128 := by
    rw [List.getD_eq_getElem?_getD, List.getElem?_eq_getElem (by omega)]
    exact s3 _ (List.getElem_mem _)
  have hm : M.2.getD i ([], []) ∈ M.2 := by
    rw [getD_g hi]
    exact List.getElem_mem _
  have := w.2.2.2 _ hm
  exact ⟨sl.getD i 0, hq, s4 i (by omega), e7, e8, e9, e10, this.1, this.2.1⟩
theorem K_say0 {c : CS} {s : Nat} {x : Int32} : WP (k_Machine_say c s x (-1)) (fun c' => PX 10 s [10, 11] c c' ∧ ansIs c' s [aLow8 x] ∧ ∀ j, j ≠ 0 → cI c' 10 s 10 j = cI c 10 s 10 j) := by
  unfold k_Machine_say k_Machine_say_b0 k_Machine_say_b73
  have e : (x.toInt8.toInt32).toInt8.toInt32 = aLow8 x := aLow8_i (x := x)
  rw [e]
  refine WP_eq (cwr_n (n := 0) rfl (show 0 < 134 by omega) (by omega)) (WP_b ?_)
  rw [if_pos (by decide)]
  refine WP_some ⟨PX_t (PX_I (by decide)) (PX_I (by decide)), ⟨csI_e, fun i hi => ?_⟩, fun j hj => (csI_f (by decide)).trans (csI_j hj)⟩
  have : i = 0 := by
    have : i < 1 := hi
    omega
  rw [this]
  exact (csI_f (by decide)).trans csI_e
theorem K_sayV {c : CS} {s i : Nat} {x : Int32} {M : AM} (h : KM0 c s M) (w : wfM M) (hi : i < M.2.length) : WP (k_Machine_say c s x (Int32.ofNat i)) (fun c' => PX 10 s [10, 11] c c' ∧ ansIs c' s (aLow8 x :: (M.2.getD i ([], [])).2)) := by
  obtain ⟨q, q1, q2, q3, q4, q5, q6, q7, q8⟩ := K_slot h w hi
  have h128 : M.2.length ≤ 128 := w.2.1
  have em : cI c 10 s 4 0 = Int32.ofNat M.2.length := h.2.1
  generalize M.2.getD i ([], []) = e at q3 q4 q5 q6 q7 q8
  unfold k_Machine_say k_Machine_say_b0 k_Machine_say_b73
  have ex : (x.toInt8.toInt32).toInt8.toInt32 = aLow8 x := aLow8_i (x := x)
  rw [ex]
  refine WP_eq (cwr_n (n := 0) rfl (show 0 < 134 by omega) (by omega)) (WP_b ?_)
  have o : ∀ f j, f ≠ 10 → f ≠ 11 → cI (csI (csI c 10 s 10 0 (aLow8 x)) 10 s 11 0 1) 10 s f j = cI c 10 s f j := fun f j n1 n2 => (csI_f n2).trans (csI_f n1)
  have o10 : cI (csI (csI c 10 s 10 0 (aLow8 x)) 10 s 11 0 1) 10 s 10 0 = aLow8 x := (csI_f (by decide)).trans csI_e
  have o11 : cI (csI (csI c 10 s 10 0 (aLow8 x)) 10 s 11 0 1) 10 s 11 0 = 1 := csI_e
  have P : PX 10 s [10, 11] c (csI (csI c 10 s 10 0 (aLow8 x)) 10 s 11 0 1) := PX_t (PX_I (by decide)) (PX_I (by decide))
  generalize csI (csI c 10 s 10 0 (aLow8 x)) 10 s 11 0 1 = c1 at o o10 o11 P
  rw [if_neg (fun z => i_nn (show i < 2147483648 by omega) (c0_lt.mp z)), o 4 0 (by decide) (by decide), em, if_neg (fun z => by have := (i_gei (by omega) (by omega)).mp z; omega)]
  refine WP_eq (crd_n rfl (show i < 128 by omega) (by omega)) ?_
  rw [o 6 i (by decide) (by decide), q2]
  refine WP_eq (crd_n rfl (show q < 128 from q1) (by omega)) ?_
  rw [o 8 q (by decide) (by decide), q4, show Int32.ofNat q * 132 + 32 = Int32.ofNat (132 * q + 32) by rw [show (132 : Int32) = Int32.ofNat 132 from rfl, show (32 : Int32) = Int32.ofNat 32 from rfl, i_mc, i_ad, Nat.mul_comm]]
  refine WP_eq (ccpy_n (s := 132 * q + 32) (t := 1) (n := e.2.length) rfl rfl rfl (show 132 * q + 32 + e.2.length ≤ 16896 by omega) (show 1 + e.2.length ≤ 134 by omega) (by omega) (by omega)) ?_
  refine WP_eq (crd_n rfl (show q < 128 from q1) (by omega)) (WP_b (WP_some ⟨PX_t P (PX_t (PX_A (by decide)) (PX_I (by decide))), ?_, fun j hj => ?_⟩))
  · rw [csI_e, show cI (csA c1 10 s 10 (fun w => if 1 ≤ w ∧ w < 1 + e.2.length then cI c1 10 s 9 (132 * q + 32 + (w - 1)) else cI c1 10 s 10 w)) 10 s 11 0 = 1 from (if_neg (fun z => absurd z.2.2 (by decide))).trans o11, show cI (csA c1 10 s 10 (fun w => if 1 ≤ w ∧ w < 1 + e.2.length then cI c1 10 s 9 (132 * q + 32 + (w - 1)) else cI c1 10 s 10 w)) 10 s 8 q = Int32.ofNat e.2.length from (if_neg (fun z => absurd z.2.2 (by decide))).trans ((o 8 q (by decide) (by decide)).trans q4), List.length_cons, Int32.add_comm]
    exact i_s
  · rw [List.length_cons] at hj
    rw [csI_f (by decide)]
    have e1 : cI (csA c1 10 s 10 (fun w => if 1 ≤ w ∧ w < 1 + e.2.length then cI c1 10 s 9 (132 * q + 32 + (w - 1)) else cI c1 10 s 10 w)) 10 s 10 j = if 1 ≤ j ∧ j < 1 + e.2.length then cI c1 10 s 9 (132 * q + 32 + (j - 1)) else cI c1 10 s 10 j := if_pos ⟨rfl, rfl, rfl⟩
    rw [e1]
    cases j with
    | zero =>
      rw [if_neg (by omega), o10]
      rfl
    | succ j =>
      rw [if_pos (by omega), Nat.add_sub_cancel, o 9 _ (by decide) (by decide), q6 j (by omega)]
      rfl
