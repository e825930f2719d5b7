/-! the log: the base moves, an entry more -/
/-- what a log is behind a move of the base -/
theorem K_moveBase {F : Nat} {c : CS} {a : AA} {v : CV} {s : Nat} {n t x : Int32} (hF : 302 ≤ F) (h : RC c a v) (hs : s < 7) (w : WLg a s) (hn : 0 ≤ n.toInt) (hn2 : n.toInt < 1073741824) (ht : ¬ t = -1) (hb : aBase a s < n) : WP (k_Log_moveBase F c s n t x) (fun c' => RC c' (aFindCode (aMoveBase a s n t x) s) v) := by
  obtain ⟨w1, w2, w3, w4⟩ := id w
  unfold k_Log_moveBase k_Log_moveBase_b0
  rw [K_termAt h hs w]
  refine WP_b ?_
  have nb : ¬ n = aBase a s := fun z => by
    rw [z, Int32.lt_iff_toInt_lt] at hb
    omega
  -- the end, for a log that was moved
  have fin : ∀ (g : List AE) (k : Nat) (c1 : CS), k = g.length → k ≤ 300 → n.toInt + k < 1073741824 → RC c1 (aLgS a s g) v → WP (k_Log_moveBase_b50 F c1 s n t x (Int32.ofNat k)) (fun c' => RC c' (aFindCode (aI (aI (aI (aI (aI (aLgS a s g) 55 s n) 57 s t) 58 s x) 56 s (n + Int32.ofNat k)) 77 s (aMin (aS a 77 s) (n + Int32.ofNat k))) s) v) := by
    intro g k c1 hk hk3 hk2 h1
    unfold k_Log_moveBase_b50
    have h2 := RC_I (x := n) h1 (F := 55) (cl := 9) (f := 3) (i := s) (by decide) (by decide)
    have h3 := RC_I (x := t) h2 (F := 57) (cl := 9) (f := 4) (i := s) (by decide) (by decide)
    have h4 := RC_I (x := x) h3 (F := 58) (cl := 9) (f := 5) (i := s) (by decide) (by decide)
    have h5 := RC_I (x := n + Int32.ofNat k) h4 (F := 56) (cl := 9) (f := 6) (i := s) (by decide) (by decide)
    refine WP_b (WP_b (WP_b (WP_b (WP_b ?_))))
    rw [csI_e, K_r h5 (F := 77) (cl := 9) (f := 11) (by decide) hs, cmin_a]
    have e77 : aS (aI (aI (aI (aI (aLgS a s g) 55 s n) 57 s t) 58 s x) 56 s (n + Int32.ofNat k)) 77 s = aS a 77 s := (aS_If (by decide)).trans ((aS_If (by decide)).trans ((aS_If (by decide)).trans (aS_If (by decide))))
    rw [e77]
    have h6 := RC_I (x := aMin (aS a 77 s) (n + Int32.ofNat k)) h5 (F := 77) (cl := 9) (f := 11) (i := s) (by decide) (by decide)
    refine WP_call (K_findMembers hF h6 hs ?_) (fun c' h' => WP_some h')
    have e55 : aBase (aI (aI (aI (aI (aI (aLgS a s g) 55 s n) 57 s t) 58 s x) 56 s (n + Int32.ofNat k)) 77 s (aMin (aS a 77 s) (n + Int32.ofNat k))) s = n := (aS_If (by decide)).trans ((aS_If (by decide)).trans ((aS_If (by decide)).trans ((aS_If (by decide)).trans (if_pos ⟨rfl, rfl⟩))))
    have e56 : aLast (aI (aI (aI (aI (aI (aLgS a s g) 55 s n) 57 s t) 58 s x) 56 s (n + Int32.ofNat k)) 77 s (aMin (aS a 77 s) (n + Int32.ofNat k))) s = n + Int32.ofNat k := (aS_If (by decide)).trans (if_pos ⟨rfl, rfl⟩)
    have eg : aLg (aI (aI (aI (aI (aI (aLgS a s g) 55 s n) 57 s t) 58 s x) 56 s (n + Int32.ofNat k)) 77 s (aMin (aS a 77 s) (n + Int32.ofNat k))) s = g := if_pos rfl
    have ek : (n + Int32.ofNat k).toInt = n.toInt + k := by
      rw [i_addI, Int32.toInt_ofNat_of_lt (by omega)]
      all_goals (rw [Int32.toInt_ofNat_of_lt (by omega)]; omega)
    unfold WLg
    rw [e55, e56, eg, ek, ← hk]
    exact ⟨hn, rfl, hk3, hk2⟩
  by_cases q : aHas a s n = true ∧ aTermAt a s n = t
  · obtain ⟨q1, q2⟩ := q
    rw [if_neg (fun z => c2_ne.mp z q2)]
    obtain ⟨k, k1, k2, k3, k4, k5⟩ := aHas_k w q1
    have e56 : cI c 9 s 6 0 = aLast a s := K_r h (F := 56) (cl := 9) (f := 6) (by decide) hs
    have hg : (aHas a s n && decide (aTermAt a s n = t)) = true := by
      rw [q1, decide_eq_true q2]
      rfl
    have el : aLast a s = n + Int32.ofNat ((aLg a s).length - k) := by
      apply Int32.toInt_inj.mp
      rw [i_addI, Int32.toInt_ofNat_of_lt (by omega), w2, k5]
      · omega
      all_goals (rw [Int32.toInt_ofNat_of_lt (by omega)]; omega)
    have e1 : cI c 9 s 6 0 - n = Int32.ofNat ((aLg a s).length - k) := by
      rw [e56, el, Int32.add_comm, Int32.add_sub_cancel]
    have em : aMoveBase a s n t x = aI (aI (aI (aI (aI (aLgS a s ((aLg a s).drop k)) 55 s n) 57 s t) 58 s x) 56 s (n + Int32.ofNat ((aLg a s).length - k))) 77 s (aMin (aS a 77 s) (n + Int32.ofNat ((aLg a s).length - k))) := by
      unfold aMoveBase
      dsimp only
      rw [hg]
      simp only [if_true]
      rw [k4, ← el]
    rw [e1, em]
    unfold k_Log_moveBase_b19
    refine WP_if (p := (aLg a s).length - k = 0) ?_ (fun z => ?_) (fun z => ?_)
    · rw [c0_le]
      constructor
      · intro y
        rw [Int32.le_iff_toInt_le, Int32.toInt_ofNat_of_lt (by omega), i_0] at y
        omega
      · intro y
        rw [y]
        decide
    · refine fin _ _ c (by rw [List.length_drop]) (by omega) (by omega) (RC_lg h (Ck_w Ck_r (fun _ z => absurd z List.not_mem_nil)) rfl ?_)
      refine ⟨fun i hi => ?_, fun e he => (h.2.2.2.2.2.2.2.2.1 s hs).2 e (List.mem_of_mem_drop he)⟩
      rw [List.length_drop] at hi
      omega
    · unfold k_Log_at k_Log_at_b0
      refine WP_b ?_
      rw [K_r h (F := 55) (cl := 9) (f := 3) (by decide) hs]
      have ea : (n + 1 - aS a 55 s - 1) * 6 = Int32.ofNat (6 * k) := by
        have := at_i (x := n + 1) (b := aS a 55 s) (i := k) (by rw [k3]; show aS a 55 s + Int32.ofNat k + 1 = _; rw [Int32.add_assoc, Int32.add_assoc, Int32.add_comm (Int32.ofNat k)]) 0
        rw [show Int32.ofNat 0 = 0 from rfl, Int32.add_zero, Nat.add_zero] at this
        exact this
      rw [ea, show Int32.ofNat ((aLg a s).length - k) * 6 = Int32.ofNat (((aLg a s).length - k) * 6) from i_mc (s := 6)]
      refine WP_eq (ccpy_n (s := 6 * k) (t := 0) (n := ((aLg a s).length - k) * 6) rfl rfl rfl (show 6 * k + ((aLg a s).length - k) * 6 ≤ 1800 by omega) (show 0 + ((aLg a s).length - k) * 6 ≤ 1800 by omega) (by omega) (by omega)) ?_
      refine fin _ _ _ (by rw [List.length_drop]) (by omega) (by omega) (RC_lg h (Ck_A (Or.inr rfl)) rfl ?_)
      refine ⟨fun i hi j hj => ?_, fun e he => (h.2.2.2.2.2.2.2.2.1 s hs).2 e (List.mem_of_mem_drop he)⟩
      rw [List.length_drop] at hi
      have e2 : cI (csA c 9 s 1 (fun w => if 0 ≤ w ∧ w < 0 + ((aLg a s).length - k) * 6 then cI c 9 s 1 (6 * k + (w - 0)) else cI c 9 s 1 w)) 9 s 1 (6 * i + j) = if 0 ≤ 6 * i + j ∧ 6 * i + j < 0 + ((aLg a s).length - k) * 6 then cI c 9 s 1 (6 * k + (6 * i + j - 0)) else cI c 9 s 1 (6 * i + j) := if_pos ⟨rfl, rfl, rfl⟩
      rw [e2, if_pos (by omega), show 6 * k + (6 * i + j - 0) = 6 * (k + i) + j by omega, (h.2.2.2.2.2.2.2.2.1 s hs).1 (k + i) (by omega) j hj]
      rw [List.getD_eq_getElem?_getD, List.getD_eq_getElem?_getD, List.getElem?_drop]
  · have hg : (aHas a s n && decide (aTermAt a s n = t)) = false := by
      cases q1 : aHas a s n with
      | false => rfl
      | true => exact decide_eq_false (fun z => q ⟨q1, z⟩)
    have hne : ¬ aTermAt a s n = t := by
      intro z
      have q1 : aHas a s n = false := by
        cases q1 : aHas a s n with
        | false => rfl
        | true => exact absurd ⟨q1, z⟩ q
      unfold aTermAt at z
      rw [if_neg nb, q1, if_neg (by decide)] at z
      exact ht z.symm
    rw [if_pos (c2_ne.mpr hne)]
    have em : aMoveBase a s n t x = aI (aI (aI (aI (aI (aLgS a s []) 55 s n) 57 s t) 58 s x) 56 s (n + Int32.ofNat 0)) 77 s (aMin (aS a 77 s) (n + Int32.ofNat 0)) := by
      unfold aMoveBase
      dsimp only
      rw [hg, show Int32.ofNat 0 = 0 from rfl, Int32.add_zero]
      rfl
    rw [em]
    unfold k_Log_moveBase_b19
    rw [if_pos (by decide)]
    exact fin [] 0 c rfl (by omega) (by omega) (RC_lg h (Ck_w Ck_r (fun _ z => absurd z List.not_mem_nil)) rfl ⟨fun i hi => absurd hi (Nat.not_lt_zero _), fun e he => absurd he List.not_mem_nil⟩)
/-- the log gets an entry that lies as a row in an array -/
def gLogAdd (cl f : Nat) (σ : CS) (l0 : Nat) (l1 : Nat) (l2 : Int32) : Option (CS) :=
  (k_Log_length σ l0).bind fun p1 =>
  if xc2 .lt p1 ((300 : Int32)) = true then (
    (k_Log_length σ l0).bind fun p5 =>
    (ccpy σ cl l1 f l2 9 l0 1 (p5 * ((6 : Int32))) ((6 : Int32))).bind fun σ8 =>
    (some (csI σ8 9 l0 6 0 ((cI σ8 9 l0 6 0) + ((1 : Int32))))).bind fun σ10 =>
    (crd σ10 cl l1 f (l2 + ((1 : Int32)))).bind fun x12 =>
    if xc2 .ne x12 ((1 : Int32)) = true then (
      some σ10
    ) else (
      (crd σ10 cl l1 f (l2 + ((3 : Int32)))).bind fun x15 =>
      (some (csI σ10 9 l0 7 0 x15)).bind fun σ17 =>
      (some (csI σ17 9 l0 8 0 (cI σ17 9 l0 6 0))).bind fun σ19 =>
      some σ19
    )
  ) else (
    some σ
  )
theorem gLA_9 : k_Log_add_9_2 = gLogAdd 9 2 := rfl
theorem gLA_8 : k_Log_add_8_18 = gLogAdd 8 18 := rfl
theorem gLA_11 : k_Log_add_11_6 = gLogAdd 11 6 := rfl
/-- the log's part of an entry more -/
def aLogAdd (a : AA) (s : Nat) (e : AE) : AA :=
  let a3 := aI (aLgS a s (aLg a s ++ [e])) 56 s (aLast a s + 1)
  if e.2.1 = 1 then aI (aI a3 64 s (aLast a s + 1)) 65 s e.2.2.2.1 else a3
theorem len_i {a : AA} {s : Nat} (w : WLg a s) : aS a 56 s - aS a 55 s = Int32.ofNat (aLg a s).length := by
  obtain ⟨w1, w2, w3, w4⟩ := id w
  apply Int32.toInt_inj.mp
  have x2 : (aS a 56 s).toInt = (aLast a s).toInt := rfl
  have x1 : (aS a 55 s).toInt = (aBase a s).toInt := rfl
  rw [i_subI (by omega) (by omega), Int32.toInt_ofNat_of_lt (by omega)]
  omega
/-- adding one more: how the log's numbers change (order of writes 65, 64) -/
theorem K_logAdd {cl f l1 m : Nat} {c : CS} {a : AA} {v : CV} {s : Nat} {e : AE} (h : RC c a v) (hs : s < 7) (w : WLg a s) (hl : (aLg a s).length < 300) (hcl : ¬ (cl = 9 ∧ f = 1)) (hcf : ¬ (cl = 9 ∧ (f = 6 ∨ f = 7 ∨ f = 8))) (hm : m + 6 ≤ cal c cl l1 f) (hm2 : m + 6 < 2147483648) (he : ∀ j, j < 6 → cI c cl l1 f (m + j) = kF e j) (ho : eOK e) : WP (gLogAdd cl f c s l1 (Int32.ofNat m)) (fun c' => RC c' (aLogAdd a s e) v) := by
  obtain ⟨w1, w2, w3, w4⟩ := id w
  unfold gLogAdd k_Log_length k_Log_length_b0
  rw [K_r h (F := 55) (cl := 9) (f := 3) (by decide) hs, K_r h (F := 56) (cl := 9) (f := 6) (by decide) hs, len_i w]
  refine WP_b ?_
  rw [if_pos (by rw [c2_lt, show (300 : Int32) = Int32.ofNat 300 from rfl, ← i_nle, i_ltn (by omega) (by omega)]; omega)]
  refine WP_b ?_
  rw [show Int32.ofNat (aLg a s).length * 6 = Int32.ofNat ((aLg a s).length * 6) from i_mc (s := 6)]
  refine WP_eq (ccpy_n (s := m) (t := (aLg a s).length * 6) (n := 6) rfl rfl rfl hm (show (aLg a s).length * 6 + 6 ≤ 1800 by omega) hm2 (by omega)) ?_
  have h1 : RC (csA c 9 s 1 (fun w => if (aLg a s).length * 6 ≤ w ∧ w < (aLg a s).length * 6 + 6 then cI c cl l1 f (m + (w - (aLg a s).length * 6)) else cI c 9 s 1 w)) (aLgS a s (aLg a s ++ [e])) v := by
    refine RC_lg h (Ck_A (Or.inr rfl)) rfl ⟨fun i hi j hj => ?_, fun x hx => (List.mem_append.mp hx).elim (fun z => (h.2.2.2.2.2.2.2.2.1 s hs).2 x z) (fun z => by rw [List.mem_singleton.mp z]; exact ho)⟩
    rw [List.length_append, List.length_singleton] at hi
    have e2 : cI (csA c 9 s 1 (fun w => if (aLg a s).length * 6 ≤ w ∧ w < (aLg a s).length * 6 + 6 then cI c cl l1 f (m + (w - (aLg a s).length * 6)) else cI c 9 s 1 w)) 9 s 1 (6 * i + j) = if (aLg a s).length * 6 ≤ 6 * i + j ∧ 6 * i + j < (aLg a s).length * 6 + 6 then cI c cl l1 f (m + (6 * i + j - (aLg a s).length * 6)) else cI c 9 s 1 (6 * i + j) := if_pos ⟨rfl, rfl, rfl⟩
    rw [e2]
    by_cases q : i = (aLg a s).length
    · subst q
      rw [if_pos (by omega), show m + (6 * (aLg a s).length + j - (aLg a s).length * 6) = m + j by omega, he j hj, List.getD_eq_getElem?_getD, List.getElem?_append_right (Nat.le_refl _), Nat.sub_self]
      rfl
    · rw [if_neg (by omega), (h.2.2.2.2.2.2.2.2.1 s hs).1 i (by omega) j hj, List.getD_eq_getElem?_getD, List.getD_eq_getElem?_getD, List.getElem?_append_left (by omega)]
  have src : ∀ j, cI (csA c 9 s 1 (fun w => if (aLg a s).length * 6 ≤ w ∧ w < (aLg a s).length * 6 + 6 then cI c cl l1 f (m + (w - (aLg a s).length * 6)) else cI c 9 s 1 w)) cl l1 f j = cI c cl l1 f j := fun j => if_neg (fun z => hcl ⟨z.1, z.2.2⟩)
  have cl1 : ∀ j, cal (csA c 9 s 1 (fun w => if (aLg a s).length * 6 ≤ w ∧ w < (aLg a s).length * 6 + 6 then cI c cl l1 f (m + (w - (aLg a s).length * 6)) else cI c 9 s 1 w)) cl j f = cal c cl j f := fun j => rfl
  generalize csA c 9 s 1 (fun w => if (aLg a s).length * 6 ≤ w ∧ w < (aLg a s).length * 6 + 6 then cI c cl l1 f (m + (w - (aLg a s).length * 6)) else cI c 9 s 1 w) = c1 at h1 src cl1
  refine WP_b ?_
  rw [K_r h1 (F := 56) (cl := 9) (f := 6) (by decide) hs]
  have h2 := RC_I (x := aS (aLgS a s (aLg a s ++ [e])) 56 s + 1) h1 (F := 56) (cl := 9) (f := 6) (i := s) (by decide) (by decide)
  have src2 : ∀ j, cI (csI c1 9 s 6 0 (aS (aLgS a s (aLg a s ++ [e])) 56 s + 1)) cl l1 f j = cI c cl l1 f j := fun j => (csI_ne (fun z => hcf ⟨z.1, Or.inl z.2.2.1⟩)).trans (src j)
  rw [show Int32.ofNat m + 1 = Int32.ofNat (m + 1) from i_s, show Int32.ofNat m + 3 = Int32.ofNat (m + 3) from i_ad (s := 3)]
  have cl2 : cal (csI c1 9 s 6 0 (aS (aLgS a s (aLg a s ++ [e])) 56 s + 1)) cl l1 f = cal c cl l1 f := cl1 l1
  refine WP_eq (crd_n rfl (by rw [cl2]; omega) (by omega)) ?_
  rw [src2, he 1 (by omega)]
  unfold aLogAdd
  dsimp only
  refine WP_if (p := ¬ e.2.1 = 1) c2_ne (fun q => ?_) (fun q => ?_)
  · rw [if_neg q]
    exact WP_some h2
  · rw [if_pos (Classical.not_not.mp q)]
    refine WP_eq (crd_n rfl (by rw [cl2]; omega) (by omega)) ?_
    rw [src2, he 3 (by omega)]
    have h3 := RC_I (x := kF e 3) h2 (F := 65) (cl := 9) (f := 7) (i := s) (by decide) (by decide)
    refine WP_b (WP_b (WP_some ?_))
    rw [K_r h3 (F := 56) (cl := 9) (f := 6) (by decide) hs]
    have h4 := RC_I (x := aS (aI (aI (aLgS a s (aLg a s ++ [e])) 56 s (aS (aLgS a s (aLg a s ++ [e])) 56 s + 1)) 65 s (kF e 3)) 56 s) h3 (F := 64) (cl := 9) (f := 8) (i := s) (by decide) (by decide)
    have ee : aI (aI (aI (aLgS a s (aLg a s ++ [e])) 56 s (aS (aLgS a s (aLg a s ++ [e])) 56 s + 1)) 65 s (kF e 3)) 64 s (aS (aI (aI (aLgS a s (aLg a s ++ [e])) 56 s (aS (aLgS a s (aLg a s ++ [e])) 56 s + 1)) 65 s (kF e 3)) 56 s) = aI (aI (aI (aLgS a s (aLg a s ++ [e])) 56 s (aLast a s + 1)) 64 s (aLast a s + 1)) 65 s e.2.2.2.1 := by
      have e1 : aS (aI (aI (aLgS a s (aLg a s ++ [e])) 56 s (aS (aLgS a s (aLg a s ++ [e])) 56 s + 1)) 65 s (kF e 3)) 56 s = aLast a s + 1 := (aS_If (by decide)).trans (if_pos ⟨rfl, rfl⟩)
      rw [e1]
      exact aI_comm (fun z => by omega)
    rw [ee] at h4
    exact h4
