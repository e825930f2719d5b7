/-! the log -/
theorem K_row {c : CS} {a : AA} {v : CV} {s i j : Nat} {n : Int32} (h : RC c a v) (hs : s < 7) (hi : i < (aLg a s).length) (h3 : (aLg a s).length ≤ 300) (hj : j < 6) (hn : n = Int32.ofNat (6 * i + j)) : crd c 9 s 1 n = some (kF ((aLg a s).getD i aE0) j) := by
  rw [crd_n (c := c) (cl := 9) (i := s) (f := 1) hn (show 6 * i + j < 1800 by omega) (by omega), (h.2.2.2.2.2.2.2.2.1 s hs).1 i hi j hj]
theorem K_logHas {c : CS} {a : AA} {v : CV} {s : Nat} {n : Int32} (h : RC c a v) (hs : s < 7) : k_Log_has c s n = some (aB (aHas a s n)) := by
  unfold k_Log_has k_Log_has_b0 k_Log_has_b20 k_Log_has_b21 aHas aBase aLast
  rw [K_r h (F := 55) (cl := 9) (f := 3) (by decide) hs, K_r h (F := 56) (cl := 9) (f := 6) (by decide) hs, if_pos (Or.inl rfl), if_pos (Or.inr rfl)]
  by_cases q1 : aS a 55 s < n
  · rw [if_neg (fun z => (i_nlt.mpr (c2_le.mp z)) q1), decide_eq_true q1]
    by_cases q2 : n ≤ aS a 56 s
    · rw [if_neg (fun z => (i_nle.mpr (c2_gt.mp z)) q2), decide_eq_true q2]
      rfl
    · rw [if_pos (c2_gt.mpr (i_nle.mp q2)), decide_eq_false q2]
      rfl
  · rw [if_pos (c2_le.mpr (i_nlt.mp q1)), decide_eq_false q1]
    rfl
/-- an entry's row -/
theorem at_i {x b : Int32} {i : Nat} (e : x = b + 1 + Int32.ofNat i) (j : Nat) : (x - b - 1) * 6 + Int32.ofNat j = Int32.ofNat (6 * i + j) := by
  have h1 : x - b - 1 = Int32.ofNat i := by
    rw [e, Int32.add_comm (b + 1) (Int32.ofNat i), Int32.add_comm b 1, ← Int32.add_assoc, Int32.add_sub_cancel, Int32.add_sub_cancel]
  rw [h1, show (6 : Int32) = Int32.ofNat 6 from rfl, i_ma, Nat.mul_comm]
theorem K_termAt {c : CS} {a : AA} {v : CV} {s : Nat} {n : Int32} (h : RC c a v) (hs : s < 7) (w : WLg a s) : k_Log_termAt c s n = some (aTermAt a s n) := by
  unfold k_Log_termAt k_Log_termAt_b0 k_Log_termAt_b37 k_Log_at k_Log_at_b0 aTermAt
  have e55 : cI c 9 s 3 0 = aBase a s := K_r h (F := 55) (cl := 9) (f := 3) (by decide) hs
  rw [e55, K_r h (F := 57) (cl := 9) (f := 4) (by decide) hs]
  by_cases q : n = aBase a s
  · rw [if_neg (fun z => c2_ne.mp z q), if_pos q]
  · rw [if_pos (c2_ne.mpr q), if_neg q, K_logHas h hs, Option.bind_some]
    by_cases q2 : aHas a s n = true
    · rw [q2, if_neg (by decide), if_pos rfl, Option.bind_some]
      obtain ⟨i, i1, i2, i3, i4⟩ := aHas_i w q2
      rw [K_row h hs i1 w.2.2.1 (show 0 < 6 by decide) (show (n - aBase a s - 1) * 6 + 0 = Int32.ofNat (6 * i + 0) from at_i i2 0), Option.bind_some]
      unfold aEnt
      rw [i3]
      rfl
    · rw [show aHas a s n = false by simpa using q2, if_pos (by decide), if_neg (by decide)]
/-- the code of the last entry of members -/
theorem aMem_c : ∀ (g : List AE) (c : Int32), aMemC c g = if aMemAt g = 0 then c else (g.getD (aMemAt g - 1) aE0).2.2.2.1 := by
  intro g
  induction g with
  | nil => intro c; rfl
  | cons e r ih =>
    intro c
    show aMemC (if e.2.1 = 1 then e.2.2.2.1 else c) r = if (if 0 < aMemAt r then aMemAt r + 1 else if e.2.1 = 1 then 1 else 0) = 0 then c else _
    rw [ih]
    by_cases q : aMemAt r = 0
    · have e0 : aMemAt (e :: r) = if e.2.1 = 1 then 1 else 0 := if_neg (by omega)
      rw [if_pos q, if_neg (show ¬ 0 < aMemAt r by omega), e0]
      by_cases z : e.2.1 = 1
      · rw [if_pos z, if_pos z, if_neg (by omega)]
        rfl
      · rw [if_neg z, if_neg z, if_pos rfl]
    · have e0 : aMemAt (e :: r) = aMemAt r + 1 := if_pos (by omega)
      rw [if_neg q, if_pos (show 0 < aMemAt r by omega), if_neg (by omega), e0]
      have : aMemAt r + 1 - 1 = (aMemAt r - 1) + 1 := by omega
      rw [this, List.getD_cons_succ]
theorem neg1_add {x : Int32} : x + (-1) = x - 1 := (Int32.sub_eq_add_neg x 1).symm
theorem add1_neg {b : Int32} : b + 1 + -1 = b := by rw [neg1_add, Int32.add_sub_cancel]
theorem K_behindL {F : Nat} {c : CS} {a : AA} {v : CV} {s : Nat} (h : RC c a v) (hs : s < 7) (w : WLg a s) : ∀ n j, j + 1 ≤ n → j ≤ (aLg a s).length → k_Log_membersBehind_b16 F n c s (Int32.ofNat j - 1) = some (aBase a s + Int32.ofNat (aMemAt ((aLg a s).take j))) := by
  have w3 := w.2.2.1
  intro n
  induction n with
  | zero => intro j h1; omega
  | succ n ih =>
    intro j h1 h2
    unfold k_Log_membersBehind_b16
    dsimp only
    unfold k_Log_membersBehind_b41
    rw [K_r h (F := 55) (cl := 9) (f := 3) (by decide) hs]
    cases j with
    | zero =>
      rw [if_pos (by decide), List.take_zero, show Int32.ofNat 0 - 1 = -1 by decide, show cmax (-1) (-1) = -1 by decide, add1_neg]
      show some (aS a 55 s) = some (aS a 55 s + Int32.ofNat 0)
      rw [show Int32.ofNat 0 = 0 from rfl, Int32.add_zero]
    | succ j =>
      have e1 : Int32.ofNat (j + 1) - 1 = Int32.ofNat j := i_pre (by omega)
      rw [e1, if_neg (fun z => i_nn (by omega) (c0_lt.mp z)), K_row h hs (i := j) (j := 1) (by omega) w3 (by decide) (by rw [show (6 : Int32) = Int32.ofNat 6 from rfl, show (1 : Int32) = Int32.ofNat 1 from rfl, i_ma, Nat.mul_comm]), Option.bind_some]
      have et : (aLg a s).take (j + 1) = (aLg a s).take j ++ [(aLg a s).getD j aE0] := by
        rw [List.take_add_one, List.getD_eq_getElem?_getD, List.getElem?_eq_getElem (by omega)]
        rfl
      rw [et, aMemAt_s]
      by_cases q : ((aLg a s).getD j aE0).2.1 = 1
      · rw [if_pos (c2_eq.mpr (show kF ((aLg a s).getD j aE0) 1 = 1 from q)), if_pos q, List.length_take, Nat.min_eq_left (by omega)]
        have ec : cmax (-1) (Int32.ofNat j) = Int32.ofNat j := by
          unfold cmax
          rw [if_pos]
          rw [Int32.lt_iff_toInt_lt, Int32.toInt_ofNat_of_lt (by omega)]
          have : (-1 : Int32).toInt = -1 := by decide
          omega
        rw [ec]
        show some (aS a 55 s + 1 + Int32.ofNat j) = some (aS a 55 s + Int32.ofNat (j + 1))
        rw [Int32.add_assoc, show (1 : Int32) + Int32.ofNat j = Int32.ofNat (j + 1) by rw [Int32.add_comm, i_s]]
      · rw [if_neg (show ¬ xc2 ClassFile.Cond.eq (kF ((aLg a s).getD j aE0) 1) 1 = true from fun z => q (c2_eq.mp z)), if_neg q, neg1_add]
        exact ih j (by omega) (by omega)
/-- the entry before which numbers are looked at -/
theorem K_behind {F : Nat} {c : CS} {a : AA} {v : CV} {s j : Nat} {n : Int32} (hF : 302 ≤ F) (h : RC c a v) (hs : s < 7) (w : WLg a s) (hj : j ≤ (aLg a s).length) (hn : n = aBase a s + Int32.ofNat j) : k_Log_membersBehind F c s n = some (aBase a s + Int32.ofNat (aMemAt ((aLg a s).take j))) := by
  obtain ⟨w1, w2, w3, w4⟩ := id w
  unfold k_Log_membersBehind k_Log_membersBehind_b0
  rw [K_r h (F := 55) (cl := 9) (f := 3) (by decide) hs, K_r h (F := 56) (cl := 9) (f := 6) (by decide) hs]
  have e1 : n.toInt = (aBase a s).toInt + j := by
    rw [hn, i_addI, Int32.toInt_ofNat_of_lt (by omega)]
    all_goals (rw [Int32.toInt_ofNat_of_lt (by omega)]; omega)
  have e2 : cmin n (aS a 56 s) = n := by
    unfold cmin
    rw [if_neg]
    rw [Int32.lt_iff_toInt_lt]
    have : (aS a 56 s).toInt = (aLast a s).toInt := rfl
    omega
  have e3 : n - aS a 55 s = Int32.ofNat j := by
    rw [hn]
    show aS a 55 s + Int32.ofNat j - aS a 55 s = _
    rw [Int32.add_comm, Int32.add_sub_cancel]
  rw [e2, e3]
  exact K_behindL h hs w F j (by omega) hj
theorem base_ne {b : Int32} {k : Nat} (hk : k < 2147483648) : ¬ b + Int32.ofNat k = b ↔ k ≠ 0 := by
  constructor
  · intro z e
    rw [e, show Int32.ofNat 0 = 0 from rfl, Int32.add_zero] at z
    exact z rfl
  · intro z e
    have h1 : b + Int32.ofNat k - b = Int32.ofNat k := by rw [Int32.add_comm, Int32.add_sub_cancel]
    rw [e, Int32.sub_self] at h1
    have h2 := congrArg Int32.toInt h1
    rw [Int32.toInt_ofNat_of_lt hk, show (0 : Int32).toInt = 0 by decide] at h2
    omega
/-- the row of the entry of members -/
theorem at_k {b : Int32} {k : Nat} (hk : 1 ≤ k) : (b + Int32.ofNat k - b - 1) * 6 + 3 = Int32.ofNat (6 * (k - 1) + 3) :=
  at_i (j := 3) (show b + Int32.ofNat k = b + 1 + Int32.ofNat (k - 1) by rw [Int32.add_assoc, show (1 : Int32) + Int32.ofNat (k - 1) = Int32.ofNat k by rw [Int32.add_comm, i_s]; congr 1; omega])
theorem K_upTo {F : Nat} {c : CS} {a : AA} {v : CV} {s j : Nat} {n : Int32} (hF : 302 ≤ F) (h : RC c a v) (hs : s < 7) (w : WLg a s) (hj : j ≤ (aLg a s).length) (hn : n = aBase a s + Int32.ofNat j) : k_Log_membersUpTo F c s n = some (aMemC (aS a 58 s) ((aLg a s).take j)) := by
  have w3 := w.2.2.1
  unfold k_Log_membersUpTo k_Log_membersUpTo_b0 k_Log_membersUpTo_b33
  rw [K_behind hF h hs w hj hn, Option.bind_some, aMem_c]
  have hle := aMemAt_le ((aLg a s).take j)
  rw [List.length_take] at hle
  have e55 : cI c 9 s 3 0 = aBase a s := K_r h (F := 55) (cl := 9) (f := 3) (by decide) hs
  rw [e55, K_r h (F := 58) (cl := 9) (f := 5) (by decide) hs]
  generalize hk : aMemAt ((aLg a s).take j) = k at hle
  by_cases q : k = 0
  · rw [if_neg (fun z => (base_ne (b := aBase a s) (k := k) (by omega)).mp (c2_ne.mp z) q), if_pos q]
  · rw [if_pos (c2_ne.mpr ((base_ne (b := aBase a s) (k := k) (by omega)).mpr q)), if_neg q]
    unfold k_Log_at k_Log_at_b0
    rw [Option.bind_some, e55, K_row h hs (i := k - 1) (j := 3) (by omega) w3 (by decide) (at_k (by omega)), Option.bind_some]
    show some (((aLg a s).getD (k - 1) aE0).2.2.2.1) = _
    congr 1
    rw [List.getD_eq_getElem?_getD, List.getD_eq_getElem?_getD, List.getElem?_take, if_pos (by omega)]
theorem K_findMembers {F : Nat} {c : CS} {a : AA} {v : CV} {s : Nat} (hF : 302 ≤ F) (h : RC c a v) (hs : s < 7) (w : WLg a s) : WP (k_Log_findMembers F c s) (fun c' => RC c' (aFindCode a s) v) := by
  obtain ⟨w1, w2, w3, w4⟩ := id w
  have el : aLast a s = aBase a s + Int32.ofNat (aLg a s).length := by
    apply Int32.toInt_inj.mp
    rw [i_addI, Int32.toInt_ofNat_of_lt (by omega), w2]
    all_goals (rw [Int32.toInt_ofNat_of_lt (by omega)]; omega)
  unfold k_Log_findMembers k_Log_findMembers_b0 k_Log_findMembers_b46 aFindCode
  have e56 : cI c 9 s 6 0 = aLast a s := K_r h (F := 56) (cl := 9) (f := 6) (by decide) hs
  rw [e56, K_behind hF h hs w (Nat.le_refl _) el, List.take_length]
  refine WP_b (WP_b ?_)
  have h1 := RC_I (x := aBase a s + Int32.ofNat (aMemAt (aLg a s))) h (F := 64) (cl := 9) (f := 8) (i := s) (by decide) (by decide)
  rw [csI_e, aMem_c]
  have hle := aMemAt_le (aLg a s)
  generalize hk : aMemAt (aLg a s) = k at hle h1
  have e55 : cI (csI c 9 s 8 0 (aBase a s + Int32.ofNat k)) 9 s 3 0 = aBase a s := (csI_f (by decide)).trans (K_r h (F := 55) (cl := 9) (f := 3) (by decide) hs)
  have e58 : cI (csI c 9 s 8 0 (aBase a s + Int32.ofNat k)) 9 s 5 0 = aS a 58 s := (csI_f (by decide)).trans (K_r h (F := 58) (cl := 9) (f := 5) (by decide) hs)
  rw [e55, e58]
  refine WP_if (p := k ≠ 0) (c2_ne.trans (base_ne (by omega))) (fun q => ?_) (fun q => ?_)
  · rw [if_neg q]
    unfold k_Log_at k_Log_at_b0
    refine WP_b ?_
    rw [e55]
    refine WP_eq (K_row h1 hs (i := k - 1) (j := 3) (show k - 1 < (aLg a s).length by omega) w3 (by decide) (at_k (by omega))) ?_
    exact WP_b (WP_some (RC_I h1 (F := 65) (by decide) (by decide)))
  · rw [if_pos (Classical.not_not.mp q)]
    exact WP_b (WP_some (RC_I h1 (F := 65) (by decide) (by decide)))
theorem cmin_a {x y : Int32} : cmin x y = aMin x y := by
  unfold cmin aMin
  by_cases q : y < x
  · rw [if_pos q, if_neg (fun z => (i_nlt.mpr z) q)]
  · rw [if_neg q, if_pos (i_nlt.mp q)]
theorem cmax_a {x y : Int32} : cmax x y = aMax x y := by
  unfold cmax aMax
  by_cases q : x < y
  · rw [if_pos q, if_pos]
    rw [Int32.le_iff_toInt_le]
    rw [Int32.lt_iff_toInt_lt] at q
    omega
  · rw [if_neg q]
    by_cases z : x ≤ y
    · rw [if_pos z]
      apply Int32.toInt_inj.mp
      rw [Int32.lt_iff_toInt_lt] at q
      rw [Int32.le_iff_toInt_le] at z
      omega
    · rw [if_neg z]
/-- another log of a server -/
theorem RC_lg {c c' : CS} {a : AA} {v : CV} {s : Nat} {g : List AE} (h : RC c a v) (hF : Ck [32 * 9 + 1] s c c') (hT : cT c' = cT c) (hg : KG c' s g) : RC c' (aLgS a s g) v := by
  have hl : ∀ t, t < 7 → KG c' t (aLg (aLgS a s g) t) := by
    intro t ht
    have e : aLg (aLgS a s g) t = if t = s then g else aLg a t := rfl
    rw [e]
    by_cases q : t = s
    · rw [if_pos q, q]
      exact hg
    · rw [if_neg q]
      exact KG_ne hF (by decide) q (h.2.2.2.2.2.2.2.2.1 t ht)
  exact ⟨KSc_fr hF (by decide) h.1, fun s hs hu => KFr_fr hF (by decide) (h.2.1 s hs hu), fun s hs => KHd_fr hF (by decide) (h.2.2.1 s hs), fun s hs hr => KLd_fr hF (by decide) (h.2.2.2.1 s hs hr), fun s hs hu => KRq_fr hF (by decide) (h.2.2.2.2.1 s hs hu), KBl_fr hF (by decide) h.2.2.2.2.2.1, KDa_fr hF (by decide) h.2.2.2.2.2.2.1, fun s hs => KLw_fr hF (by decide) (h.2.2.2.2.2.2.2.1 s hs), hl, fun s hs => KPg_fr hF (by decide) (h.2.2.2.2.2.2.2.2.2.1 s hs), fun s hs => KCh_fr hF (by decide) (h.2.2.2.2.2.2.2.2.2.2.1 s hs), fun s hs => KMc_fr hF (by decide) (h.2.2.2.2.2.2.2.2.2.2.2.1 s hs), fun s hs => KPc_fr hF (by decide) (h.2.2.2.2.2.2.2.2.2.2.2.2.1 s hs), fun k hk => KCl_fr hF (by decide) (h.2.2.2.2.2.2.2.2.2.2.2.2.2.1 k hk), fun k hk => KDn_fr hF (by decide) (h.2.2.2.2.2.2.2.2.2.2.2.2.2.2.1 k hk), KAk_fr hF (by decide) h.2.2.2.2.2.2.2.2.2.2.2.2.2.2.2.1, KFc_fr hF (by decide) h.2.2.2.2.2.2.2.2.2.2.2.2.2.2.2.2.1, fun s hs => KId_fr hF (by decide) (h.2.2.2.2.2.2.2.2.2.2.2.2.2.2.2.2.2.1 s hs), fun k hk => KIc_fr hF (by decide) (h.2.2.2.2.2.2.2.2.2.2.2.2.2.2.2.2.2.2.1 k hk), KLt_fr hF hT (by decide) h.2.2.2.2.2.2.2.2.2.2.2.2.2.2.2.2.2.2.2.1, KRm_fr hF hT (by decide) h.2.2.2.2.2.2.2.2.2.2.2.2.2.2.2.2.2.2.2.2.1, h.2.2.2.2.2.2.2.2.2.2.2.2.2.2.2.2.2.2.2.2.2.1, h.2.2.2.2.2.2.2.2.2.2.2.2.2.2.2.2.2.2.2.2.2.2⟩
theorem K_cutLogL {F : Nat} {c : CS} {a : AA} {v : CV} {s : Nat} {n : Int32} (hF : 302 ≤ F) (h : RC c a v) (hs : s < 7) (w : WLg a s) (hn : aHas a s n = true) : WP (k_Log_cutFrom F c s n) (fun c' => RC c' (aFindCode (aI (aLgS (aI a 56 s (n - 1)) s ((aLg a s).take (n - 1 - aBase a s).toNatClampNeg)) 77 s (aMin (aS a 77 s) (n - 1))) s) v) := by
  obtain ⟨w1, w2, w3, w4⟩ := id w
  obtain ⟨i, i1, i2, i3, i4⟩ := aHas_i w hn
  have e1 : (n - 1).toInt = (aBase a s).toInt + i := by
    rw [i_subI]
    · rw [i_1]
      omega
    · rw [i_1]
      omega
    · rw [i_1]
      omega
  have ei : (n - 1 - aBase a s).toNatClampNeg = i := by
    have : n - 1 - aBase a s = Int32.ofNat i := by
      rw [i2, Int32.add_comm (aBase a s + 1) (Int32.ofNat i), ← Int32.add_assoc, Int32.add_sub_cancel, Int32.add_sub_cancel]
    rw [this, i_cl (by omega)]
  unfold k_Log_cutFrom k_Log_cutFrom_b0
  refine WP_b ?_
  rw [K_r h (F := 55) (cl := 9) (f := 3) (by decide) hs, K_r h (F := 56) (cl := 9) (f := 6) (by decide) hs]
  have ec : cmax (aS a 55 s) (cmin (aS a 56 s) (n - 1)) = n - 1 := by
    have x2 : (aS a 56 s).toInt = (aLast a s).toInt := rfl
    have x1 : (aS a 55 s).toInt = (aBase a s).toInt := rfl
    have y : cmin (aS a 56 s) (n - 1) = n - 1 := by
      unfold cmin
      rw [if_pos]
      rw [Int32.lt_iff_toInt_lt]
      omega
    rw [y]
    unfold cmax
    split
    · rfl
    · next q =>
      apply Int32.toInt_inj.mp
      rw [Int32.lt_iff_toInt_lt] at q
      omega
  rw [ec]
  have h1 := RC_I (x := n - 1) h (F := 56) (cl := 9) (f := 6) (i := s) (by decide) (by decide)
  refine WP_b ?_
  rw [csI_e, csI_f (show (11 : Nat) ≠ 6 by decide), K_r h (F := 77) (cl := 9) (f := 11) (by decide) hs, cmin_a]
  have h2 : RC (csI c 9 s 6 0 (n - 1)) (aLgS (aI a 56 s (n - 1)) s ((aLg a s).take (n - 1 - aBase a s).toNatClampNeg)) v := by
    refine RC_lg h1 (Ck_w Ck_r (fun _ z => absurd z List.not_mem_nil)) rfl ?_
    refine ⟨fun k hk j hj => ?_, fun e he => (h1.2.2.2.2.2.2.2.2.1 s hs).2 e (List.mem_of_mem_take he)⟩
    rw [List.length_take] at hk
    have := (h1.2.2.2.2.2.2.2.2.1 s hs).1 k (show k < (aLg a s).length by omega) j hj
    rw [this]
    show kF ((aLg a s).getD k aE0) j = _
    rw [List.getD_eq_getElem?_getD, List.getD_eq_getElem?_getD, List.getElem?_take, if_pos (by omega)]
  have h3 := RC_I (x := aMin (aS a 77 s) (n - 1)) h2 (F := 77) (cl := 9) (f := 11) (i := s) (by decide) (by decide)
  refine WP_call (K_findMembers hF h3 hs ?_) (fun c' h' => WP_some h')
  refine ⟨w1, ?_, ?_, ?_⟩
  · have eL : aLast (aI (aLgS (aI a 56 s (n - 1)) s ((aLg a s).take (n - 1 - aBase a s).toNatClampNeg)) 77 s (aMin (aS a 77 s) (n - 1))) s = n - 1 := (aS_If (by decide)).trans (if_pos ⟨rfl, rfl⟩)
    have eB : aBase (aI (aLgS (aI a 56 s (n - 1)) s ((aLg a s).take (n - 1 - aBase a s).toNatClampNeg)) 77 s (aMin (aS a 77 s) (n - 1))) s = aBase a s := (aS_If (by decide)).trans (aS_If (by decide))
    have eG : aLg (aI (aLgS (aI a 56 s (n - 1)) s ((aLg a s).take (n - 1 - aBase a s).toNatClampNeg)) 77 s (aMin (aS a 77 s) (n - 1))) s = (aLg a s).take i := by
      rw [ei]
      exact if_pos rfl
    rw [eL, eB, eG, List.length_take, Nat.min_eq_left (by omega), e1]
  · have eG : aLg (aI (aLgS (aI a 56 s (n - 1)) s ((aLg a s).take (n - 1 - aBase a s).toNatClampNeg)) 77 s (aMin (aS a 77 s) (n - 1))) s = (aLg a s).take i := by
      rw [ei]
      exact if_pos rfl
    rw [eG, List.length_take]
    omega
  · have eL : aLast (aI (aLgS (aI a 56 s (n - 1)) s ((aLg a s).take (n - 1 - aBase a s).toNatClampNeg)) 77 s (aMin (aS a 77 s) (n - 1))) s = n - 1 := (aS_If (by decide)).trans (if_pos ⟨rfl, rfl⟩)
    rw [eL]
    omega
