/-! a read is answered -/
theorem wfM_cM {M : AM} (w : wfM M) : wfM (cM M) := by
  obtain ⟨⟨w1, w2⟩, w3, w4, w5⟩ := w
  refine ⟨⟨?_, w2⟩, w3, fun x hx => w4 x ?_, w5⟩
  · show (M.1.mergeSort (fun x y => decide (x.1 ≤ y.1))).length ≤ 16
    rw [List.length_mergeSort]
    exact w1
  · have hx : x ∈ M.1.mergeSort (fun x y => decide (x.1 ≤ y.1)) := hx
    exact List.mem_mergeSort.mp hx
theorem cmax_sub {p q : Nat} (hp : p ≤ 128) (hq : q ≤ 128) : cmax 0 (Int32.ofNat p - Int32.ofNat q) = Int32.ofNat (p - q) := by
  by_cases z : q ≤ p
  · rw [i_subn z, cmax_0 (by omega)]
  · have e : (Int32.ofNat p - Int32.ofNat q).toInt = (p : Int) - q := by
      rw [i_subI (by rw [Int32.toInt_ofNat_of_lt (by omega), Int32.toInt_ofNat_of_lt (by omega)]; omega) (by rw [Int32.toInt_ofNat_of_lt (by omega), Int32.toInt_ofNat_of_lt (by omega)]; omega), Int32.toInt_ofNat_of_lt (by omega), Int32.toInt_ofNat_of_lt (by omega)]
    unfold cmax
    rw [if_neg (by rw [Int32.lt_iff_toInt_lt, e, i_0]; omega), show p - q = 0 by omega]
    rfl
theorem K_look {F : Nat} {c : CS} {a : AA} {v : CV} {s j n : Nat} (hF : 200 ≤ F) (h : RC c a v) (hs : s < 7) (hj : j < (aAk a).length) (hn : ((aAk a).getD j (fun _ => 0, [])).1 7 = Int32.ofNat n) (hn2 : n ≤ ((aAk a).getD j (fun _ => 0, [])).2.length) (hst : srtM (aMc a s)) : WP (k_Machine_look F c s (Int32.ofNat j)) (fun c' => RC c' a v ∧ ansIs c' s (aQuery (aMc a s) ((aAk a).getD j (fun _ => 0, []))) ∧ PX 10 s [10, 11] c c') := by
  have hcap : ((aAk a).getD j (fun _ => 0, [])).2.length ≤ 232 := by
    rw [List.getD_eq_getElem?_getD, List.getElem?_eq_getElem hj]
    exact h.2.2.2.2.2.2.2.2.2.2.2.2.2.2.2.1.2.2.2.2.2.1 _ (List.getElem_mem _)
  unfold k_Machine_look k_Machine_look_b0 k_Machine_look_b105 k_Machine_look_b116 k_Machine_look_b177
  refine WP_b ?_
  have P1 : PX 10 s [10, 11] c (csI c 10 s 11 0 0) := PX_I (by decide)
  have h1 := RC_ans h P1
  generalize csI c 10 s 11 0 0 = c1 at P1 h1
  have t6 : k_Askings_tell c1 0 (Int32.ofNat j) 6 = some (Int32.ofNat (kOff (aAk a) j)) := K_tellA h1 hj (f := 6) (by omega)
  have t7 : k_Askings_tell c1 0 (Int32.ofNat j) 7 = some (Int32.ofNat n) := by
    rw [← hn]
    exact K_tellA h1 hj (f := 7) (by omega)
  have t9 : k_Askings_tell c1 0 (Int32.ofNat j) 9 = some (Int32.ofNat ((aAk a).getD j (fun _ => 0, [])).2.length) := K_tellA h1 hj (f := 9) (by omega)
  have t1 : k_Askings_tell c1 0 (Int32.ofNat j) 1 = some (((aAk a).getD j (fun _ => 0, [])).1 1) := K_tellA h1 hj (f := 1) (by omega)
  have at1 : kAt c1 (kOff (aAk a) j) ((((aAk a).getD j (fun _ => 0, [])).2).take n) := K_kAt (m := 0) (n := n) h1 hj (by omega)
  have at2 : kAt c1 (kOff (aAk a) j + n) (((aAk a).getD j (fun _ => 0, [])).2.drop n) := by
    have := K_kAt (m := n) (n := ((aAk a).getD j (fun _ => 0, [])).2.length - n) h1 hj (by omega)
    rw [List.take_of_length_le (by rw [List.length_drop]; omega)] at this
    exact this
  have hmc := h1.2.2.2.2.2.2.2.2.2.2.2.1 s hs
  have hw := wfM_cM hmc.1.1
  have hst' : srtM (cM (aMc a s)) := hst
  generalize (aAk a).getD j (fun _ => 0, []) = k at hn hn2 hcap t7 t9 t1 at1 at2
  have len1 : (k.2.take n).length = n := by
    rw [List.length_take]
    omega
  have len2 : (k.2.drop n).length = k.2.length - n := List.length_drop
  have lb1 : k_Machine_lowerBound F c1 s (Int32.ofNat (kOff (aAk a) j)) (Int32.ofNat n) = some (Int32.ofNat (aRank (aMc a s) (k.2.take n))) := by
    have := K_lower hF hmc.2 hw at1 (kMono_of hst' hw (by omega))
    rw [len1] at this
    exact this
  have hr1 : aRank (aMc a s) (k.2.take n) ≤ (aMc a s).2.length := aRank_le
  have h128 : (aMc a s).2.length ≤ 128 := hmc.1.1.2.1
  have hq : aQuery (aMc a s) k = (if k.1 1 = 3 then (match aFind (aMc a s) (k.2.take n) with
      | some w => 1 :: w
      | none => [0])
    else if k.1 1 = 4 then [aLow8 (Int32.ofNat (aRank (aMc a s) (k.2.drop n) - aRank (aMc a s) (k.2.take n))), aLow8 (Int32.ofNat (aRank (aMc a s) (k.2.drop n) - aRank (aMc a s) (k.2.take n)) >>> 8)]
    else match (aMc a s).2[aRank (aMc a s) (k.2.take n)]? with
      | none => [0]
      | some e => 1 :: Int32.ofNat e.1.length :: (e.1 ++ e.2)) := by
    unfold aQuery
    rw [hn, i_cl (by omega)]
    rfl
  rw [hq, t6, t7, t9, t1]
  refine WP_b (WP_b (WP_b ?_))
  rw [lb1]
  refine WP_b (WP_b ?_)
  by_cases k3 : k.1 1 = 3
  · rw [if_pos k3, if_pos k3]
    have ik := K_isKey (F := F) (i := aRank (aMc a s) (k.2.take n)) hF hmc.2 hw at1 (by omega)
    rw [len1] at ik
    rw [ik]
    refine WP_b ?_
    have ef := @aFind_e (aMc a s) (k.2.take n)
    have eM : (cM (aMc a s)).2 = (aMc a s).2 := rfl
    rw [eM]
    by_cases z : aRank (aMc a s) (k.2.take n) < (aMc a s).2.length ∧ aCmp ((aMc a s).2.getD (aRank (aMc a s) (k.2.take n)) ([], [])).1 (k.2.take n) = 0
    · rw [if_pos z.1, if_pos z.2] at ef
      rw [decide_eq_true z.1, decide_eq_true z.2, ef]
      rw [if_neg (show ¬ xc0 ClassFile.Cond.eq (aB (true && true)) = true by decide), if_neg (show ¬ xc0 ClassFile.Cond.eq (aB (true && true)) = true by decide)]
      refine WP_call (K_sayV (x := 1) hmc.2 hw z.1) (fun c2 h2 => WP_some ⟨RC_ans h1 h2.1, ?_, PX_t P1 h2.1⟩)
      exact h2.2
    · have en : (decide (aRank (aMc a s) (k.2.take n) < (aMc a s).2.length) && decide (aCmp ((aMc a s).2.getD (aRank (aMc a s) (k.2.take n)) ([], [])).1 (k.2.take n) = 0)) = false := by
        rw [Bool.and_eq_false_iff, decide_eq_false_iff_not, decide_eq_false_iff_not]
        exact Classical.not_and_iff_not_or_not.mp z
      have ef2 : aFind (aMc a s) (k.2.take n) = none := by
        rw [ef]
        by_cases y : aRank (aMc a s) (k.2.take n) < (aMc a s).2.length
        · rw [if_pos y, if_neg (fun u => z ⟨y, u⟩)]
        · rw [if_neg y]
      rw [en, ef2, if_pos (show xc0 ClassFile.Cond.eq (aB false) = true by decide), if_pos (show xc0 ClassFile.Cond.eq (aB false) = true by decide)]
      refine WP_call (K_say0 (c := c1) (s := s) (x := 0)) (fun c2 h2 => WP_some ⟨RC_ans h1 h2.1, ?_, PX_t P1 h2.1⟩)
      exact h2.2.1
  · rw [if_neg k3, if_neg k3]
    by_cases k4 : k.1 1 = 4
    · rw [if_pos k4, if_pos k4]
      have hr2 : aRank (aMc a s) (k.2.drop n) ≤ (aMc a s).2.length := aRank_le
      have lb2 : k_Machine_lowerBound F c1 s (Int32.ofNat (kOff (aAk a) j) + Int32.ofNat n) (Int32.ofNat k.2.length - Int32.ofNat n) = some (Int32.ofNat (aRank (aMc a s) (k.2.drop n))) := by
        have := K_lower hF hmc.2 hw at2 (kMono_of hst' hw (by omega))
        rw [len2] at this
        rw [i_ad, i_subn hn2]
        exact this
      rw [lb2]
      refine WP_b ?_
      rw [cmax_sub (by omega) (by omega)]
      have hm : aRank (aMc a s) (k.2.drop n) - aRank (aMc a s) (k.2.take n) ≤ 128 := by omega
      generalize aRank (aMc a s) (k.2.drop n) - aRank (aMc a s) (k.2.take n) = m at hm
      have e255 : Int32.ofNat m &&& 255 = Int32.ofNat m := by
        have : Int32.ofNat m &&& 255 = Int32.ofNat (m % 256) := i_and 8 (by decide)
        rw [this, Nat.mod_eq_of_lt (by omega)]
      rw [e255, show (8 : Int32) &&& 31 = 8 by decide]
      refine WP_call (K_say0 (c := c1) (s := s) (x := Int32.ofNat m)) (fun c2 h2 => ?_)
      obtain ⟨p2, ⟨a1, a2⟩, _⟩ := h2
      refine WP_eq (cwr_n (n := 1) rfl (show 1 < 134 by omega) (by omega)) (WP_b (WP_some ?_))
      have p3 : PX 10 s [10, 11] c1 (csI (csI c2 10 s 10 1 (((Int32.ofNat m >>> 8).toInt8.toInt32).toInt8.toInt32)) 10 s 11 0 2) := PX_t p2 (PX_t (PX_I (by decide)) (PX_I (by decide)))
      refine ⟨RC_ans h1 p3, ⟨csI_e, fun i hi => ?_⟩, PX_t P1 p3⟩
      have : i = 0 ∨ i = 1 := by
        have : i < 2 := hi
        omega
      rcases this with rfl | rfl
      · exact (csI_f (by decide)).trans ((csI_j (by decide)).trans (a2 0 (show 0 < 1 by omega)))
      · exact (csI_f (by decide)).trans (csI_e.trans (aLow8_i (x := Int32.ofNat m >>> 8)))
    · rw [if_neg k4, if_neg k4]
      refine WP_call (K_sayNext (M := cM (aMc a s)) hmc.2 hw (show aRank (aMc a s) (k.2.take n) ≤ 128 by omega)) (fun c2 h2 => WP_some ⟨RC_ans h1 h2.1, ?_, PX_t P1 h2.1⟩)
      have h3 := h2.2
      have eM : (cM (aMc a s)).2 = (aMc a s).2 := rfl
      rw [eM] at h3
      by_cases y : aRank (aMc a s) (k.2.take n) < (aMc a s).2.length
      · rw [if_pos y, getD_g y] at h3
        rw [List.getElem?_eq_getElem y]
        exact h3
      · rw [if_neg y] at h3
        rw [List.getElem?_eq_none (by omega)]
        exact h3
