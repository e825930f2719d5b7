/-! a snapshot goes -/
theorem cmax_0 {m : Nat} (hm : m < 2147483648) : cmax 0 (Int32.ofNat m) = Int32.ofNat m := by
  unfold cmax
  by_cases q : m = 0
  · subst q
    rfl
  · rw [if_pos (by rw [Int32.lt_iff_toInt_lt, Int32.toInt_ofNat_of_lt hm, i_0]; omega)]
theorem aMin_n {m k : Nat} (hm : m < 2147483648) (hk : k < 2147483648) : aMin (Int32.ofNat m) (Int32.ofNat k) = Int32.ofNat (min m k) := by
  rw [← cmin_a, cmin_n hm hk]
theorem K_snap {c : CS} {a : AA} {v : CV} {s : Nat} (h : RC c a v) (hs : s < 7) (hu : aS a 52 s = 1) : (aS a 47 s = -1 ∧ aS a 67 s = 0 ∧ aSh a s = ([], [])) ∨ ∃ f, (f = 2 ∨ f = 3) ∧ f < 16 ∧ aS a 47 s = Int32.ofNat f ∧ aS a 67 s = Int32.ofNat (aEnc (aSh a s)).length ∧ (aEnc (aSh a s)).length ≤ cL c 11 (30 * s + cpg f) 8 ∧ cL c 11 (30 * s + cpg f) 8 ≤ 21000 ∧ cI c 11 (30 * s + cpg f) 9 0 = Int32.ofNat (aEnc (aSh a s)).length ∧ ∀ i, i < (aEnc (aSh a s)).length → cI c 11 (30 * s + cpg f) 8 i = (aEnc (cM (aSh a s))).getD i 0 := by
  rcases h.2.2.2.2.2.2.2.2.2.2.2.2.2.2.2.2.2.2.2.2.2.1 s hs hu with q | ⟨f, hf, e47, e0, e4, e67⟩
  · exact Or.inl q
  · have h16 : f < 16 := by omega
    obtain ⟨k1, k2, k3, k4⟩ := ((h.2.2.2.2.2.2.2.2.2.1 s hs f h16).2.2.2.1 hf).2 e0
    rw [e4] at k1 k3 k4
    have hq : 30 * s + cpg f < 210 := by
      have := (cpg_b f h16).1
      omega
    have hc := (h.2.2.2.2.2.2.2.2.2.2.2.2.2.2.2.2.2.2.2.2.1.2.2.2.1 _ hq).2.2
    have hc2 : cL c 11 (30 * s + cpg f) 8 ≤ 21000 := by
      refine Nat.le_trans hc ?_
      split <;> omega
    exact Or.inr ⟨f, hf, h16, e47, e67, k3, hc2, k1, k4⟩
theorem K_snapSize {c : CS} {a : AA} {v : CV} {s : Nat} (h : RC c a v) (hs : s < 7) (hu : aS a 52 s = 1) : k_Disk_snapshotSize c s = some (aS a 67 s) := by
  unfold k_Disk_snapshotSize k_Disk_snapshotSize_b0 k_Disk_snapshotSize_b24
  rw [K_r h (F := 47) (cl := 6) (f := 9) (by decide) hs]
  rcases K_snap h hs hu with ⟨e1, e2, _⟩ | ⟨f, hf, h16, e1, e2, e3, e4, e5, e6⟩
  · rw [e1, e2, if_neg (by decide)]
  · rw [e1, e2]
    have e7 : xc2 .ne (Int32.ofNat f) (-1) = true := by
      rcases hf with rfl | rfl <;> decide
    rw [if_pos e7, cix0 h16]
    show some (cI c 11 (30 * s + cpg f) 9 0) = _
    rw [e5]
theorem K_fill11 {c : CS} {a : AA} {q ad L o : Nat} {H : List (Nat × Option AL)} {U : Nat → Int32} {N : Nat × Nat} (g : RC c a (((ad, none) :: H, U), N)) (hL : L ≤ cL c 11 q 8) (ho : o ≤ L) (hb : cL c 11 q 8 ≤ 21000) : WP (k_Letter_fill_11_8 c ad q (Int32.ofNat o) (Int32.ofNat (L - o))) (fun c' => RC c' a (((ad, none) :: H, U), N) ∧ cI c' 8 ad 17 0 = Int32.ofNat (min 200 (L - o)) ∧ (∀ f, f < 17 → cI c' 8 ad f 0 = cI c 8 ad f 0) ∧ ∀ i, i < min 200 (L - o) → cI c' 8 ad 19 i = cI c 11 q 8 (o + i)) := by
  unfold k_Letter_fill_11_8 k_Letter_fill_11_8_b0 k_Letter_fill_11_8_b45
  have en : cmax 0 (cmin (cmin (Int32.ofNat (L - o)) (Int32.ofNat (cal c 8 ad 19))) (Int32.ofNat (cal c 11 q 8) - Int32.ofNat o)) = Int32.ofNat (min 200 (L - o)) := by
    rw [show cal c 8 ad 19 = 200 from rfl, (cal_g (c := c) (q := q)).2.2, i_subn (by omega), cmin_n (by omega) (by omega), cmin_n (by omega) (by omega), cmax_0 (by omega)]
    congr 1
    omega
  rw [en]
  refine WP_b ?_
  have hn : min 200 (L - o) ≤ 200 ∧ o + min 200 (L - o) ≤ L := by omega
  generalize min 200 (L - o) = n at hn
  have g1 := RC_I8 (ad := ad) (f := 17) (j := 0) (x := Int32.ofNat n) g
  rw [show cI (csI c 8 ad 17 0 (Int32.ofNat n)) 8 ad 17 0 = Int32.ofNat n from csI_e]
  by_cases q0 : n = 0
  · rw [if_pos (by rw [q0]; decide)]
    exact WP_some ⟨g1, csI_e, fun f hf => csI_f (by omega), fun i hi => by omega⟩
  · rw [if_neg (fun z => by
      have := c0_le.mp z
      rw [Int32.le_iff_toInt_le, Int32.toInt_ofNat_of_lt (by omega), i_0] at this
      omega)]
    refine WP_eq (ccpy_n (s := o) (t := 0) (n := n) rfl rfl rfl (show o + n ≤ cL c 11 q 8 by omega) (show 0 + n ≤ 200 by omega) (by omega) (by omega)) (WP_some ⟨RC_A8 g1, ?_, fun f hf => ?_, fun i hi => ?_⟩)
    · exact (if_neg (fun z => absurd z.2.2 (by decide))).trans csI_e
    · exact (if_neg (fun z => by have := z.2.2; omega)).trans (csI_f (by omega))
    · have e6 : cI (csA (csI c 8 ad 17 0 (Int32.ofNat n)) 8 ad 19 (fun w => if 0 ≤ w ∧ w < 0 + n then cI (csI c 8 ad 17 0 (Int32.ofNat n)) 11 q 8 (o + (w - 0)) else cI (csI c 8 ad 17 0 (Int32.ofNat n)) 8 ad 19 w)) 8 ad 19 i = if 0 ≤ i ∧ i < 0 + n then cI (csI c 8 ad 17 0 (Int32.ofNat n)) 11 q 8 (o + (i - 0)) else cI (csI c 8 ad 17 0 (Int32.ofNat n)) 8 ad 19 i := if_pos ⟨rfl, rfl, rfl⟩
      rw [e6, if_pos (by omega), Nat.sub_zero]
      exact csI_cl (by decide)
theorem K_putPiece {c : CS} {a : AA} {s p ad : Nat} {H : List (Nat × Option AL)} {U : Nat → Int32} {N : Nat × Nat} (h : RC c a (((ad, none) :: H, U), N)) (hs : s < 7) (hu : aS a 52 s = 1) (hr : aS a 73 s = 3) (h0 : 0 ≤ aS a 90 (7 * s + p)) (hz : aS a 90 (7 * s + p) ≤ aS a 67 s) (l0 : L6 c ad (Int32.ofNat s) (Int32.ofNat p) 7 (aS a 53 s)) : WP (k_Server_putPiece c s ad (aS a 90 (7 * s + p))) (fun c' => RC c' a (((ad, some (aPiece a s p)) :: H, U), N)) := by
  obtain ⟨l2, l3, l4, l5, l6, l17⟩ := l0
  have eo := i_of h0
  have ho := i_nat h0
  have ho2 := (aS a 90 (7 * s + p)).toInt_lt
  generalize (aS a 90 (7 * s + p)).toNatClampNeg = o at eo ho
  unfold k_Server_putPiece k_Server_putPiece_b0 k_Server_putPiece_b100
  rw [K_r h (F := 55) (cl := 9) (f := 3) (by decide) hs]
  refine WP_b ?_
  have h1 := RC_I8 (ad := ad) (f := 7) (j := 0) (x := aS a 55 s) h
  rw [K_r h1 (F := 57) (cl := 9) (f := 4) (by decide) hs]
  refine WP_b ?_
  have h2 := RC_I8 (ad := ad) (f := 8) (j := 0) (x := aS a 57 s) h1
  rw [K_r h2 (F := 58) (cl := 9) (f := 5) (by decide) hs]
  refine WP_b ?_
  have h3 := RC_I8 (ad := ad) (f := 11) (j := 0) (x := aS a 58 s) h2
  rw [K_snapSize h3 hs hu]
  refine WP_b (WP_b (WP_b ?_))
  have h5 := RC_I8 (ad := ad) (f := 13) (j := 0) (x := aS a 90 (7 * s + p)) (RC_I8 (ad := ad) (f := 12) (j := 0) (x := aS a 67 s) h3)
  rw [(h5.2.2.2.1 s hs hr).2.1]
  refine WP_b ?_
  have h6 := RC_I8 (ad := ad) (f := 10) (j := 0) (x := aS a 83 s) h5
  have c10 : cI (csI (csI (csI (csI (csI (csI c 8 ad 7 0 (aS a 55 s)) 8 ad 8 0 (aS a 57 s)) 8 ad 11 0 (aS a 58 s)) 8 ad 12 0 (aS a 67 s)) 8 ad 13 0 (aS a 90 (7 * s + p))) 8 ad 10 0 (aS a 83 s)) 8 ad 10 0 = aS a 83 s := csI_e
  have c13 : cI (csI (csI (csI (csI (csI (csI c 8 ad 7 0 (aS a 55 s)) 8 ad 8 0 (aS a 57 s)) 8 ad 11 0 (aS a 58 s)) 8 ad 12 0 (aS a 67 s)) 8 ad 13 0 (aS a 90 (7 * s + p))) 8 ad 10 0 (aS a 83 s)) 8 ad 13 0 = aS a 90 (7 * s + p) := (csI_f (by decide)).trans csI_e
  have c12 : cI (csI (csI (csI (csI (csI (csI c 8 ad 7 0 (aS a 55 s)) 8 ad 8 0 (aS a 57 s)) 8 ad 11 0 (aS a 58 s)) 8 ad 12 0 (aS a 67 s)) 8 ad 13 0 (aS a 90 (7 * s + p))) 8 ad 10 0 (aS a 83 s)) 8 ad 12 0 = aS a 67 s := (csI_f (by decide)).trans ((csI_f (by decide)).trans csI_e)
  have c11 : cI (csI (csI (csI (csI (csI (csI c 8 ad 7 0 (aS a 55 s)) 8 ad 8 0 (aS a 57 s)) 8 ad 11 0 (aS a 58 s)) 8 ad 12 0 (aS a 67 s)) 8 ad 13 0 (aS a 90 (7 * s + p))) 8 ad 10 0 (aS a 83 s)) 8 ad 11 0 = aS a 58 s := (csI_f (by decide)).trans ((csI_f (by decide)).trans ((csI_f (by decide)).trans csI_e))
  have c8 : cI (csI (csI (csI (csI (csI (csI c 8 ad 7 0 (aS a 55 s)) 8 ad 8 0 (aS a 57 s)) 8 ad 11 0 (aS a 58 s)) 8 ad 12 0 (aS a 67 s)) 8 ad 13 0 (aS a 90 (7 * s + p))) 8 ad 10 0 (aS a 83 s)) 8 ad 8 0 = aS a 57 s := (csI_f (by decide)).trans ((csI_f (by decide)).trans ((csI_f (by decide)).trans ((csI_f (by decide)).trans csI_e)))
  have c7 : cI (csI (csI (csI (csI (csI (csI c 8 ad 7 0 (aS a 55 s)) 8 ad 8 0 (aS a 57 s)) 8 ad 11 0 (aS a 58 s)) 8 ad 12 0 (aS a 67 s)) 8 ad 13 0 (aS a 90 (7 * s + p))) 8 ad 10 0 (aS a 83 s)) 8 ad 7 0 = aS a 55 s := (csI_f (by decide)).trans ((csI_f (by decide)).trans ((csI_f (by decide)).trans ((csI_f (by decide)).trans ((csI_f (by decide)).trans csI_e))))
  have c0 : ∀ f, f ∈ [2, 3, 4, 5, 17] → cI (csI (csI (csI (csI (csI (csI c 8 ad 7 0 (aS a 55 s)) 8 ad 8 0 (aS a 57 s)) 8 ad 11 0 (aS a 58 s)) 8 ad 12 0 (aS a 67 s)) 8 ad 13 0 (aS a 90 (7 * s + p))) 8 ad 10 0 (aS a 83 s)) 8 ad f 0 = cI c 8 ad f 0 := by
    intro f hf
    simp only [List.mem_cons, List.not_mem_nil, or_false] at hf
    exact (csI_f (by omega)).trans ((csI_f (by omega)).trans ((csI_f (by omega)).trans ((csI_f (by omega)).trans ((csI_f (by omega)).trans (csI_f (by omega))))))
  rw [K_r h6 (F := 47) (cl := 6) (f := 9) (by decide) hs]
  generalize csI (csI (csI (csI (csI (csI c 8 ad 7 0 (aS a 55 s)) 8 ad 8 0 (aS a 57 s)) 8 ad 11 0 (aS a 58 s)) 8 ad 12 0 (aS a 67 s)) 8 ad 13 0 (aS a 90 (7 * s + p))) 8 ad 10 0 (aS a 83 s) = c5 at h6 c7 c8 c10 c11 c12 c13 c0
  have fin : ∀ c6 n, (∀ f, f < 17 → cI c6 8 ad f 0 = cI c5 8 ad f 0) → cI c6 8 ad 17 0 = Int32.ofNat n → aMin 200 (aS a 67 s - aS a 90 (7 * s + p)) = Int32.ofNat n → n ≤ 200 → o < 2147483648 → o + n ≤ (aEnc (aSh a s)).length → (∀ i, i < n → cI c6 8 ad 19 i = (aEnc (cM (aSh a s))).getD (o + i) 0) → LR c6 ad (aPiece a s p) := by
    intro c6 n q1 q2 q3 q4 q5 q6 q7
    refine ⟨fun f hf => ?_, fun f hf => ?_, fun z => ?_, fun _ => ⟨n, o, q3, eo, q2, q4, q5, q6, q7⟩, fun z => ?_⟩
    · rw [q1 f (by simp at hf; omega), c0 f (by simp at hf ⊢; omega)]
      simp only [List.mem_cons, List.not_mem_nil, or_false] at hf
      rcases hf with rfl | rfl | rfl | rfl
      · exact l2
      · exact l3
      · exact l4
      · exact l5
    · have hf' : f ∈ lFs 7 := hf
      rw [lF7] at hf'
      simp only [List.mem_cons, List.not_mem_nil, or_false] at hf'
      rcases hf' with rfl | rfl | rfl | rfl | rfl | rfl
      · rw [q1 7 (by omega), c7]
        rfl
      · rw [q1 8 (by omega), c8]
        rfl
      · rw [q1 11 (by omega), c11]
        rfl
      · rw [q1 12 (by omega), c12]
        rfl
      · rw [q1 13 (by omega), c13]
        rfl
      · rw [q1 10 (by omega), c10]
        rfl
    · exact absurd z (show ¬ (7 : Int32) = 5 by decide)
    · exact absurd z (show ¬ (7 : Int32) = 11 by decide)
  rcases K_snap h6 hs hu with ⟨e1, e2, e3⟩ | ⟨f, hf, h16, e1, e2, e3, e4, e5, e6⟩
  · rw [e1, if_pos (by decide)]
    have o0 : aS a 90 (7 * s + p) = 0 := by
      rw [Int32.le_iff_toInt_le, e2, i_0] at hz
      rw [Int32.le_iff_toInt_le, i_0] at h0
      apply Int32.toInt_inj.mp
      rw [i_0]
      omega
    have oz : o = 0 := by
      rw [o0, i_0] at ho
      omega
    refine WP_some (RC_fin h6 (fin c5 0 (fun _ _ => rfl) ((c0 17 (by decide)).trans l17) ?_ (by omega) (by omega) (by omega) (fun i hi => by omega)))
    rw [e2, o0]
    decide
  · rw [e1, if_neg (by rcases hf with rfl | rfl <;> decide), cix0 h16]
    refine WP_b ?_
    have oL : o ≤ (aEnc (aSh a s)).length := by
      rw [Int32.le_iff_toInt_le, e2, Int32.toInt_ofNat_of_lt (by omega)] at hz
      omega
    rw [c12, e2, eo, i_subn oL]
    refine WP_call (K_fill11 h6 e3 oL e4) (fun c6 h7 => ?_)
    obtain ⟨g1, g2, g3, g4⟩ := h7
    refine WP_some (RC_fin g1 (fin c6 (min 200 ((aEnc (aSh a s)).length - o)) g3 g2 ?_ (by omega) (by omega) (by omega) (fun i hi => ?_)))
    · rw [e2, eo, i_subn oL, show (200 : Int32) = Int32.ofNat 200 from rfl, aMin_n (by omega) (by omega)]
    · rw [g4 i hi]
      exact e6 (o + i) (by omega)
theorem K_fin209 {F : Nat} {c : CS} {b : AA} {s p : Nat} {bt sm : Bool} {H : List (Nat × Option AL)} {U : Nat → Int32} {N : Nat × Nat} (hF : 130 ≤ F) (h : RC c b ((H, U), N)) (hs : s < 7) (hp : p < 7) (hr : aS b 73 s = 3) (w : WLg b s) (h1 : ¬ aS b 86 (7 * s + p) ≤ aBase b s) (h2 : aS b 86 (7 * s + p) ≤ aLast b s + 1) (hH : H.length ≤ 5) : WP (k_Server_sendTo_b209 F c s (Int32.ofNat p) (aB bt) (aB (!sm))) (fun c' => RC c' (aFin s p bt sm (b, false)) ((H, U), N)) := by
  unfold k_Server_sendTo_b209 k_Server_sendTo_b247 aFin
  rw [Bool.or_false]
  refine WP_if c0_eq (fun q => ?_) (fun q => ?_)
  · have : sm = true := by revert q; cases sm <;> decide
    rw [this]
    exact WP_some h
  · have : sm = false := by revert q; cases sm <;> decide
    rw [this]
    refine WP_if c0_eq (fun q2 => ?_) (fun q2 => ?_)
    · have : bt = false := by revert q2; cases bt <;> decide
      rw [this]
      exact WP_some h
    · have : bt = true := by revert q2; cases bt <;> decide
      rw [this]
      obtain ⟨j, e, hj, _⟩ := aB_of w h1 h2
      refine WP_call (K_letterTo (to := Int32.ofNat p) (k := 5) h hs (by omega)) (fun r hr0 => ?_)
      rw [K_crd hr0.1 hs hr (F := 86) (f := 0) (by decide) hp]
      refine WP_b ?_
      show WP ((k_Server_putEntries r.2 s r.1 (aS b 86 (7 * s + p)) (Int32.ofNat 0)).bind _) (fun c' => RC c' (A_post b s (aEntries b s p (aS b 86 (7 * s + p)) 0)) ((H, U), N))
      rw [e]
      refine WP_call (K_putEntries (p := p) hr0.1 hs w hr (by omega) (by omega) hr0.2) (fun c3 h3 => ?_)
      exact WP_call (K_dispatch hF h3 hs (wf_of hs (Or.inl (end_s hp)) rfl rfl) hH) (fun c4 h4 => WP_some h4)
theorem K_stream {F s p : Nat} {bt : Bool} {H : List (Nat × Option AL)} {U : Nat → Int32} {N : Nat × Nat} (hF : 130 ≤ F) (hs : s < 7) (hp : p < 7) (hH : H.length ≤ 5) : ∀ (m n : Nat) (c : CS) (b : AA) (sm : Bool) (lim : Int32), m + 1 ≤ n → RC c b ((H, U), N) → aS b 73 s = 3 → WLg b s → ¬ aS b 86 (7 * s + p) ≤ aBase b s → aS b 86 (7 * s + p) ≤ aLast b s + 1 → 4 ≤ (aS b 88 (7 * s + p)).toInt + m → (if aS b 89 (7 * s + p) = 0 then (4 : Int32) else 1) = lim →
    WP (k_Server_sendTo_b90 F n c s (Int32.ofNat p) (aB bt) (aB (!sm)) lim) (fun c' => RC c' (aFin s p bt sm (aStream s p m b)) ((H, U), N)) := by
  intro m
  induction m with
  | zero =>
    intro n c b sm lim hn h hr w h1 h2 h4 el
    obtain ⟨n, rfl⟩ : ∃ k, n = k + 1 := ⟨n - 1, by omega⟩
    unfold k_Server_sendTo_b90
    dsimp only
    show WP _ (fun c' => RC c' (aFin s p bt sm (b, false)) ((H, U), N))
    have fin := K_fin209 (bt := bt) (sm := sm) hF h hs hp hr w h1 h2 hH
    rw [K_crd h hs hr (F := 86) (f := 0) (by decide) hp]
    refine WP_b ?_
    refine WP_if c2_gt (fun _ => fin) (fun _ => ?_)
    rw [K_crd h hs hr (F := 88) (f := 2) (by decide) hp]
    refine WP_b ?_
    refine WP_if c2_ge (fun _ => fin) (fun q => absurd ?_ q)
    rw [Int32.le_iff_toInt_le]
    have : lim.toInt ≤ 4 := by
      rw [← el]
      split <;> decide
    omega
  | succ m ih =>
    intro n c b sm lim hn h hr w h1 h2 h4 el
    obtain ⟨n, rfl⟩ : ∃ k, n = k + 1 := ⟨n - 1, by omega⟩
    have fin := K_fin209 (bt := bt) (sm := sm) hF h hs hp hr w h1 h2 hH
    have hlim : lim.toInt ≤ 4 := by
      rw [← el]
      split <;> decide
    unfold k_Server_sendTo_b90
    dsimp only
    rw [K_crd h hs hr (F := 86) (f := 0) (by decide) hp]
    refine WP_b ?_
    rw [K_r h (F := 56) (cl := 9) (f := 6) (by decide) hs]
    refine WP_if c2_gt (fun q => ?_) (fun q => ?_)
    · have : aStream s p (m + 1) b = (b, false) := by
        unfold aStream
        dsimp only
        rw [if_neg (fun z => i_nle.mpr q z.1)]
      rw [this]
      exact fin
    · have q : aS b 86 (7 * s + p) ≤ aLast b s := i_nlt.mp q
      rw [K_crd h hs hr (F := 88) (f := 2) (by decide) hp]
      refine WP_b ?_
      refine WP_if c2_ge (fun q2 => ?_) (fun q2 => ?_)
      · have : aStream s p (m + 1) b = (b, false) := by
          unfold aStream
          dsimp only
          rw [if_neg (fun z => by rw [el] at z; exact i_nlt.mpr q2 z.2)]
        rw [this]
        exact fin
      · have q2' : (aS b 88 (7 * s + p)).toInt < 4 := by
          rw [Int32.le_iff_toInt_le] at q2
          omega
        have eq : aStream s p (m + 1) b = (let mm := aMany b s (aS b 86 (7 * s + p))
          let a1 := aAdd (aAdd b 88 (7 * s + p) 1) 86 (7 * s + p) mm
          let r := aStream s p m (A_post a1 s (aEntries a1 s p (aS b 86 (7 * s + p)) mm.toNatClampNeg))
          (r.1, true)) := if_pos ⟨q, by rw [el]; exact i_nle.mp q2⟩
        rw [eq]
        dsimp only
        obtain ⟨j, e, hj, ex⟩ := aB_of w h1 h2
        have hj2 : j < (aLg b s).length := by
          rw [Int32.le_iff_toInt_le] at q
          obtain ⟨w1, w2, w3, w4⟩ := w
          omega
        obtain ⟨M, eM, M1, M2, M3, eL⟩ := aMany_n w ex hj2
        have em : cmin 6 (aS b 56 s - aS b 86 (7 * s + p) + 1) = Int32.ofNat M := by
          rw [cmin_a]
          exact eM
        rw [eM, i_cl (by omega)]
        refine WP_b (WP_b ?_)
        rw [em]
        rw [K_cwr (F := 88) (by decide) hp]
        refine WP_b ?_
        have g1 := RC_ldw (s := s) (x := aS b 88 (7 * s + p) + 1) h (F := 88) (f := 2) (by decide) hp
        rw [K_cwr (F := 86) (by decide) hp]
        refine WP_b ?_
        have g2 := RC_ldw (s := s) (x := aS b 86 (7 * s + p) + Int32.ofNat M) g1 (F := 86) (f := 0) (by decide) hp
        have ed : aAdd (aAdd b 88 (7 * s + p) 1) 86 (7 * s + p) (Int32.ofNat M) = aI (aI b 88 (7 * s + p) (aS b 88 (7 * s + p) + 1)) 86 (7 * s + p) (aS b 86 (7 * s + p) + Int32.ofNat M) := rfl
        rw [ed]
        have fr : AFr [88, 86] [] b (aI (aI b 88 (7 * s + p) (aS b 88 (7 * s + p) + 1)) 86 (7 * s + p) (aS b 86 (7 * s + p) + Int32.ofNat M)) := AFr_w (AFr_t AFr_I AFr_I) (by decide) (by decide)
        have e86 : aS (aI (aI b 88 (7 * s + p) (aS b 88 (7 * s + p) + 1)) 86 (7 * s + p) (aS b 86 (7 * s + p) + Int32.ofNat M)) 86 (7 * s + p) = aS b 86 (7 * s + p) + Int32.ofNat M := if_pos ⟨rfl, rfl⟩
        have e88 : aS (aI (aI b 88 (7 * s + p) (aS b 88 (7 * s + p) + 1)) 86 (7 * s + p) (aS b 86 (7 * s + p) + Int32.ofNat M)) 88 (7 * s + p) = aS b 88 (7 * s + p) + 1 := by
          rw [aS_If (by decide)]
          exact if_pos ⟨rfl, rfl⟩
        generalize aI (aI b 88 (7 * s + p) (aS b 88 (7 * s + p) + 1)) 86 (7 * s + p) (aS b 86 (7 * s + p) + Int32.ofNat M) = d at g2 fr e86 e88
        have wd : WLg d s := WLg_fr fr (by decide) (by decide) w
        have hrd : aS d 73 s = 3 := (fr.1 73 (by decide) s).trans hr
        have eb : aBase d s = aBase b s := fr.1 55 (by decide) s
        have ela : aLast d s = aLast b s := fr.1 56 (by decide) s
        have elg : aLg d = aLg b := fr.2.2.2.1 (by decide)
        refine WP_call (K_letterTo (to := Int32.ofNat p) (k := 5) g2 hs (by omega)) (fun r hr0 => ?_)
        rw [e, ← eb]
        refine WP_call (K_putEntries (p := p) hr0.1 hs wd hrd (by rw [elg]; omega) M2 hr0.2) (fun c3 h3 => ?_)
        refine WP_call (K_dispatch hF h3 hs (wf_of hs (Or.inl (end_s hp)) rfl rfl) hH) (fun c4 g4 => ?_)
        have fp := @AFr_post d s (aEntries d s p (aBase d s + 1 + Int32.ofNat j) M)
        have f2 := AFr_t fr fp
        generalize A_post d s (aEntries d s p (aBase d s + 1 + Int32.ofNat j) M) = d2 at g4 fp f2
        have exN : (aS b 86 (7 * s + p) + Int32.ofNat M).toInt = (aBase b s).toInt + 1 + j + M := by
          obtain ⟨w1, w2, w3, w4⟩ := w
          rw [i_addI (by rw [Int32.toInt_ofNat_of_lt (by omega)]; omega) (by rw [Int32.toInt_ofNat_of_lt (by omega)]; omega), Int32.toInt_ofNat_of_lt (by omega), ex]
        have k86 : aS d2 86 (7 * s + p) = aS b 86 (7 * s + p) + Int32.ofNat M := (fp.1 86 (by decide) _).trans e86
        have k88 : aS d2 88 (7 * s + p) = aS b 88 (7 * s + p) + 1 := (fp.1 88 (by decide) _).trans e88
        have k89 : aS d2 89 (7 * s + p) = aS b 89 (7 * s + p) := f2.1 89 (by decide) _
        have kb : aBase d2 s = aBase b s := f2.1 55 (by decide) s
        have kl : aLast d2 s = aLast b s := f2.1 56 (by decide) s
        have key := ih n c4 d2 true lim (by omega) g4 ((f2.1 73 (by decide) s).trans hr) (WLg_fr f2 (by decide) (by decide) w) (by
          rw [k86, kb]
          intro z
          rw [Int32.le_iff_toInt_le, exN] at z
          omega) (by
          obtain ⟨w1, w2, w3, w4⟩ := w
          rw [k86, kl, Int32.le_iff_toInt_le, exN, i_succ (by omega)]
          omega) (by
          rw [k88, i_succ (by omega)]
          omega) (by
          rw [k89]
          exact el)
        refine WP_mono key (fun σ' hσ => ?_)
        unfold aFin at hσ ⊢
        rw [Bool.true_or] at hσ
        rw [Bool.or_true]
        exact hσ
def WLr (a : AA) (s p : Nat) : Prop := 1 ≤ aS a 86 (7 * s + p) ∧ aS a 86 (7 * s + p) ≤ aLast a s + 1 ∧ aS a 87 (7 * s + p) ≤ aLast a s ∧ 0 ≤ aS a 90 (7 * s + p) ∧ aS a 90 (7 * s + p) ≤ aS a 67 s ∧ 0 ≤ aS a 88 (7 * s + p)
theorem K_send1 {F : Nat} {c : CS} {a : AA} {s p : Nat} {bt : Bool} {H : List (Nat × Option AL)} {U : Nat → Int32} {N : Nat × Nat} (hF : 130 ≤ F) (h : RC c a ((H, U), N)) (hs : s < 7) (hp : p < 7) (hu : aS a 52 s = 1) (hr : aS a 73 s = 3) (w : WLg a s) (wl : WLr a s p) (hH : H.length ≤ 5) : WP (k_Server_sendTo F c s (Int32.ofNat p) (aB bt)) (fun c' => RC c' (A_send a s p bt) ((H, U), N)) := by
  have h88 := wl.2.2.2.2.2
  rw [Int32.le_iff_toInt_le, i_0] at h88
  unfold k_Server_sendTo k_Server_sendTo_b0 k_Server_sendTo_b88 k_Server_sendTo_b68 A_send
  dsimp only
  rw [K_crd h hs hr (F := 86) (f := 0) (by decide) hp]
  refine WP_b ?_
  rw [K_r h (F := 55) (cl := 9) (f := 3) (by decide) hs]
  refine WP_if c2_gt (fun q => ?_) (fun q => ?_)
  · have q' : ¬ aS a 86 (7 * s + p) ≤ aBase a s := i_nle.mpr q
    rw [if_neg q', K_crd h hs hr (F := 89) (f := 6) (by decide) hp]
    refine WP_b ?_
    have key : ∀ lim, (if aS a 89 (7 * s + p) = 0 then (4 : Int32) else 1) = lim → WP (k_Server_sendTo_b90 F F c s (Int32.ofNat p) (aB bt) 1 lim) (fun c' => RC c' (if !(aStream s p 4 a).2 && bt then A_post (aStream s p 4 a).1 s (aEntries (aStream s p 4 a).1 s p (aS (aStream s p 4 a).1 86 (7 * s + p)) 0) else (aStream s p 4 a).1) ((H, U), N)) := by
      intro lim el
      have := K_stream (bt := bt) hF hs hp hH 4 F c a false lim (by omega) h hr w q' wl.2.1 (by omega) el
      refine WP_mono this (fun σ' hσ => ?_)
      unfold aFin at hσ
      rw [Bool.false_or] at hσ
      exact hσ
    exact WP_if c0_eq (fun y => key 4 (if_pos y)) (fun y => key 1 (if_neg y))
  · rw [if_pos (show aS a 86 (7 * s + p) ≤ aBase a s from i_nlt.mp q), K_crd h hs hr (F := 88) (f := 2) (by decide) hp]
    refine WP_b ?_
    refine WP_if c0_ne (fun q2 => ?_) (fun q2 => ?_)
    · rw [if_pos (show 0 < aS a 88 (7 * s + p) by
        rw [Int32.lt_iff_toInt_lt, i_0]
        have : (aS a 88 (7 * s + p)).toInt ≠ 0 := fun z => q2 (Int32.toInt_inj.mp (by rw [z, i_0]))
        omega)]
      exact WP_some h
    · rw [if_neg (show ¬ 0 < aS a 88 (7 * s + p) by rw [Classical.not_not.mp q2]; decide), K_cwr (F := 88) (by decide) hp]
      refine WP_b ?_
      have g1 := RC_ldw (s := s) (x := 1) h (F := 88) (f := 2) (by decide) hp
      have fr : AFr [88] [] a (aI a 88 (7 * s + p) 1) := AFr_I
      have el : aPiece a s p = aPiece (aI a 88 (7 * s + p) 1) s p := rfl
      rw [el]
      generalize aI a 88 (7 * s + p) 1 = d at g1 fr
      have hrd : aS d 73 s = 3 := (fr.1 73 (by decide) s).trans hr
      refine WP_call (K_letterTo (to := Int32.ofNat p) (k := 7) g1 hs (by omega)) (fun r hr0 => ?_)
      rw [K_crd hr0.1 hs hrd (F := 90) (f := 3) (by decide) hp]
      refine WP_b ?_
      refine WP_call (K_putPiece hr0.1 hs ((fr.1 52 (by decide) s).trans hu) hrd (by rw [fr.1 90 (by decide)]; exact wl.2.2.2.1) (by rw [fr.1 90 (by decide), fr.1 67 (by decide)]; exact wl.2.2.2.2.1) hr0.2) (fun c3 h3 => ?_)
      exact WP_call (K_dispatch hF h3 hs (wf_of hs (Or.inl (end_s hp)) rfl rfl) hH) (fun c4 g4 => WP_some g4)
