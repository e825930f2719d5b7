/-! the machine: an operation, a command -/
theorem ans_len {M : AM} {kd : Int32} {k v : Nat} {b : List Int32} (w : wfM M) : (aOp M kd k v b).2.length ≤ 101 := (aOp_ans w).1
theorem kind3 {kd : Nat} (h : Int32.ofNat kd < 3) (hk : kd ≤ 5) : kd = 0 ∨ kd = 1 ∨ kd = 2 := by
  rw [show (3 : Int32) = Int32.ofNat 3 from rfl, Int32.lt_iff_toInt_lt, Int32.toInt_ofNat_of_lt (by omega), Int32.toInt_ofNat_of_lt (by omega)] at h
  omega
/-- the row of a session behind an operation -/
theorem K_operate {F : Nat} {c : CS} {a : AA} {v : CV} {s i j : Nat} {M : AM} {n srl : Int32} {k : AK} (hF : 200 ≤ F) (h : RC c a v) (hs : s < 7) (hMe : aMc a s = M) (hi : i < (cM (M)).1.length) (hj : j < (aAk a).length) (hk : (aAk a).getD j (fun _ => 0, []) = k) (wk : wfK k) (h3 : k.1 1 < 3) (hst : srtM (M)) (hn : cI c 10 s 13 0 = n) : WP (k_Machine_operate F c s (Int32.ofNat i) srl (Int32.ofNat j)) (fun c' => PX 10 s m13 c c' ∧
    KM0 c' s ((cM (M)).1.set i (((cM (M)).1.getD i aN0).1, ((cM (M)).1.getD i aN0).2.1, srl, n, (aOp (M) (k.1 1) (k.1 7).toNatClampNeg (k.1 8).toNatClampNeg k.2).2), (aOp (M) (k.1 1) (k.1 7).toNatClampNeg (k.1 8).toNatClampNeg k.2).1.2) ∧ ansIs c' s (aOp (M) (k.1 1) (k.1 7).toNatClampNeg (k.1 8).toNatClampNeg k.2).2 ∧ cI c' 10 s 13 0 = n ∧ cI c' 10 s 12 0 = cI c 10 s 12 0) := by
  subst hMe
  obtain ⟨w, hM⟩ := h.2.2.2.2.2.2.2.2.2.2.2.1 s hs
  have hsh := shN_wf w
  have wc := wfM_cM w.1
  have hst' : srtM (cM (aMc a s)) := hst
  have hal := ans_len (kd := k.1 1) (k := (k.1 7).toNatClampNeg) (v := (k.1 8).toNatClampNeg) (b := k.2) w.1
  have hwo := wfM_op w.1 wk h3
  obtain ⟨kd, f, vv, a1, a2, a3, a4, a5, a6, a7, a8, a9, g0, g1, _, g2⟩ := ask_nat wk
  have bb := wk.2.2
  have t6 : k_Askings_tell c 0 (Int32.ofNat j) 6 = some (Int32.ofNat (kOff (aAk a) j)) := K_tellA h hj (f := 6) (by omega)
  have t7 : k_Askings_tell c 0 (Int32.ofNat j) 7 = some (k.1 7) := by
    rw [← hk]
    exact K_tellA h hj (f := 7) (by omega)
  have t8 : k_Askings_tell c 0 (Int32.ofNat j) 8 = some (k.1 8) := by
    rw [← hk]
    exact K_tellA h hj (f := 8) (by omega)
  have t9 : k_Askings_tell c 0 (Int32.ofNat j) 9 = some (Int32.ofNat k.2.length) := by
    rw [← hk]
    exact K_tellA h hj (f := 9) (by omega)
  have t1 : k_Askings_tell c 0 (Int32.ofNat j) 1 = some (k.1 1) := by
    rw [← hk]
    exact K_tellA h hj (f := 1) (by omega)
  have at0 : ∀ m n, m + n ≤ k.2.length → kAt c (kOff (aAk a) j + m) ((k.2.drop m).take n) := by
    intro m n hmn
    have := K_kAt (m := m) (n := n) h hj (by rw [hk]; exact hmn)
    rw [hk] at this
    exact this
  have at1 : kAt c (kOff (aAk a) j) (k.2.take f) := at0 0 f (by omega)
  have at2 : ∀ m, m ≤ k.2.length → kAt c (kOff (aAk a) j + m) (k.2.drop m) := by
    intro m hm
    have := at0 m (k.2.length - m) (by omega)
    rw [List.take_of_length_le (by rw [List.length_drop]; omega)] at this
    exact this
  have len1 : (k.2.take f).length = f := by
    rw [List.length_take]
    omega
  have b1 : ∀ b ∈ k.2.take f, aLow8 b = b := fun b hb => bb b (List.mem_of_mem_take hb)
  have hmono : kMono (cM (aMc a s)) (k.2.take f) := kMono_of hst' wc (by omega)
  -- what is left to do
  have tail : ∀ c1, PX 10 s [4, 5, 6, 7, 8, 9, 10, 11] c c1 → KM0 c1 s (aOp (cM (aMc a s)) (k.1 1) (k.1 7).toNatClampNeg (k.1 8).toNatClampNeg k.2).1 → ansIs c1 s (aOp (cM (aMc a s)) (k.1 1) (k.1 7).toNatClampNeg (k.1 8).toNatClampNeg k.2).2 → WP (k_Machine_operate_b127 F c1 s (Int32.ofNat i) srl) (fun c' => PX 10 s m13 c c' ∧
      KM0 c' s ((cM (aMc a s)).1.set i (((cM (aMc a s)).1.getD i aN0).1, ((cM (aMc a s)).1.getD i aN0).2.1, srl, n, (aOp (aMc a s) (k.1 1) (k.1 7).toNatClampNeg (k.1 8).toNatClampNeg k.2).2), (aOp (aMc a s) (k.1 1) (k.1 7).toNatClampNeg (k.1 8).toNatClampNeg k.2).1.2) ∧ ansIs c' s (aOp (aMc a s) (k.1 1) (k.1 7).toNatClampNeg (k.1 8).toNatClampNeg k.2).2 ∧ cI c' 10 s 13 0 = n ∧ cI c' 10 s 12 0 = cI c 10 s 12 0) := by
    intro c1 P1 K1 A1
    rw [op_cM] at K1 A1
    generalize aOp (aMc a s) (k.1 1) (k.1 7).toNatClampNeg (k.1 8).toNatClampNeg k.2 = r at K1 A1 hal hwo
    have A1 : ansIs c1 s r.2 := A1
    obtain ⟨x1, x4, x5, xS, f1, xK⟩ := KM0_f K1
    have xS : KSs c1 s (cM (aMc a s)).1 := xS
    have hrow := KSs_r xS hi
    have h13 : cI c1 10 s 13 0 = n := (PX_o P1 (by decide)).trans hn
    obtain ⟨A2, A3⟩ := A1
    have h16 := hsh.1
    unfold k_Machine_operate_b127
    rw [show (2 : Int32) = Int32.ofNat 2 from rfl, show (3 : Int32) = Int32.ofNat 3 from rfl, show (4 : Int32) = Int32.ofNat 4 from rfl, i_5, i_5, i_5, i_101]
    refine WP_eq (cwr_n rfl (show 5 * i + 2 < 80 by omega) (by omega)) ?_
    rw [csI_f (by decide), h13]
    refine WP_eq (cwr_n rfl (show 5 * i + 3 < 80 by omega) (by omega)) ?_
    rw [csI_f (by decide), csI_f (by decide), A2]
    refine WP_eq (cwr_n rfl (show 5 * i + 4 < 80 by omega) (by omega)) ?_
    have P2 : PX 10 s m13 c1 (csI (csI (csI c1 10 s 2 (5 * i + 2) srl) 10 s 2 (5 * i + 3) n) 10 s 2 (5 * i + 4) (Int32.ofNat r.2.length)) := PX_t (PX_t (PX_I (by decide)) (PX_I (by decide))) (PX_I (by decide))
    have y2 : ∀ m, cI (csI (csI (csI c1 10 s 2 (5 * i + 2) srl) 10 s 2 (5 * i + 3) n) 10 s 2 (5 * i + 4) (Int32.ofNat r.2.length)) 10 s 2 m = if m = 5 * i + 4 then Int32.ofNat r.2.length else if m = 5 * i + 3 then n else if m = 5 * i + 2 then srl else cI c1 10 s 2 m := by
      intro m
      by_cases z1 : m = 5 * i + 4
      · rw [if_pos z1, z1, csI_e]
      · rw [if_neg z1, csI_j z1]
        by_cases z2 : m = 5 * i + 3
        · rw [if_pos z2, z2, csI_e]
        · rw [if_neg z2, csI_j z2]
          by_cases z3 : m = 5 * i + 2
          · rw [if_pos z3, z3, csI_e]
          · rw [if_neg z3, csI_j z3]
    have yo : ∀ g m, g ≠ 2 → cI (csI (csI (csI c1 10 s 2 (5 * i + 2) srl) 10 s 2 (5 * i + 3) n) 10 s 2 (5 * i + 4) (Int32.ofNat r.2.length)) 10 s g m = cI c1 10 s g m := fun g m hg => (csI_f hg).trans ((csI_f hg).trans (csI_f hg))
    generalize csI (csI (csI c1 10 s 2 (5 * i + 2) srl) 10 s 2 (5 * i + 3) n) 10 s 2 (5 * i + 4) (Int32.ofNat r.2.length) = c2 at P2 y2 yo
    rw [yo 11 0 (by decide), A2]
    refine WP_eq (ccpy_n (s := 0) (t := 101 * i) (n := r.2.length) rfl rfl rfl (show 0 + r.2.length ≤ 134 by omega) (show 101 * i + r.2.length ≤ 1616 by omega) (by omega) (by omega)) (WP_some ?_)
    have z3 : ∀ m, cI (csA c2 10 s 3 (fun w => if 101 * i ≤ w ∧ w < 101 * i + r.2.length then cI c2 10 s 10 (0 + (w - 101 * i)) else cI c2 10 s 3 w)) 10 s 3 m = if 101 * i ≤ m ∧ m < 101 * i + r.2.length then cI c1 10 s 10 (m - 101 * i) else cI c1 10 s 3 m := fun m => by
      rw [cI_A, yo 10 _ (by decide), yo 3 _ (by decide), Nat.zero_add]
    have zo : ∀ g m, g ≠ 3 → cI (csA c2 10 s 3 (fun w => if 101 * i ≤ w ∧ w < 101 * i + r.2.length then cI c2 10 s 10 (0 + (w - 101 * i)) else cI c2 10 s 3 w)) 10 s g m = cI c2 10 s g m := fun g m hg => cI_Ao hg
    have P3 : PX 10 s m13 c1 (csA c2 10 s 3 (fun w => if 101 * i ≤ w ∧ w < 101 * i + r.2.length then cI c2 10 s 10 (0 + (w - 101 * i)) else cI c2 10 s 3 w)) := PX_t P2 (PX_A (by decide))
    generalize csA c2 10 s 3 (fun w => if 101 * i ≤ w ∧ w < 101 * i + r.2.length then cI c2 10 s 10 (0 + (w - 101 * i)) else cI c2 10 s 3 w) = c3 at z3 zo P3
    have oo : ∀ g m, g ≠ 2 → g ≠ 3 → cI c3 10 s g m = cI c1 10 s g m := fun g m n2 n3 => (zo g m n3).trans (yo g m n2)
    refine ⟨PX_t (PX_w P1 (by decide)) P3, ?_, ⟨(oo 11 0 (by decide) (by decide)).trans A2, fun m hm => (oo 10 m (by decide) (by decide)).trans (A3 m hm)⟩, (oo 13 0 (by decide) (by decide)).trans h13, (oo 12 0 (by decide) (by decide)).trans (PX_o P1 (by decide))⟩
    refine KM0_b (M := ((cM (aMc a s)).1.set i (((cM (aMc a s)).1.getD i aN0).1, ((cM (aMc a s)).1.getD i aN0).2.1, srl, n, r.2), r.1.2)) (f := f1) hwo.2.1 ((oo 1 0 (by decide) (by decide)).trans (x1.trans (by rw [List.length_set]))) ((oo 4 0 (by decide) (by decide)).trans x4) ((oo 5 0 (by decide) (by decide)).trans x5) ?_ (KMs_o xK (fun g hg m => oo g m (by omega) (by omega)))
    refine KSs_set xS hsh hi (fun m hm => ?_) (fun m hm => ?_) ⟨?_, ?_, ?_, ?_, ?_, fun m hm => ?_⟩
    · rw [zo 2 m (by decide), y2, if_neg (by omega), if_neg (by omega), if_neg (by omega)]
    · rw [z3, if_neg (by omega)]
    · rw [zo 2 _ (by decide), y2, if_neg (by omega), if_neg (by omega), if_neg (by omega)]
      exact hrow.1
    · rw [zo 2 _ (by decide), y2, if_neg (by omega), if_neg (by omega), if_neg (by omega)]
      exact hrow.2.1
    · rw [zo 2 _ (by decide), y2, if_neg (by omega), if_neg (by omega), if_pos rfl]
    · rw [zo 2 _ (by decide), y2, if_neg (by omega), if_pos rfl]
    · rw [zo 2 _ (by decide), y2, if_pos rfl]
    · have hm : m < r.2.length := hm
      rw [z3, if_pos (by omega), show 101 * i + m - 101 * i = m by omega]
      exact A3 m hm
  unfold k_Machine_operate k_Machine_operate_b0
  rw [t6, t7, t8, t9, t1]
  refine WP_b (WP_b (WP_b (WP_b (WP_b ?_))))
  rw [a1] at h3
  have c7 : (k.1 7).toNatClampNeg = f := i_clx a3 (by omega)
  have c8 : (k.1 8).toNatClampNeg = vv := i_clx a6 (by omega)
  rw [c7, c8, a1] at tail
  rw [c7, c8, a1, a3, a6]
  rcases kind3 h3 a2 with rfl | rfl | rfl
  · rw [if_pos (show Int32.ofNat 0 = 0 from rfl)]
    have := K_put (v := k.2.drop f) hF hM wc hmono (by omega) (by rw [List.length_drop]; exact g0 rfl) b1 at1 (by rw [len1]; exact at2 f (by omega))
    rw [len1, List.length_drop] at this
    rw [i_subn (by omega)]
    refine WP_call this (fun c1 hc => tail c1 hc.1 ?_ ?_)
    · rw [aOp_R, if_pos (show Int32.ofNat 0 = 0 from rfl)]
      exact hc.2.1
    · rw [aOp_R, if_pos (show Int32.ofNat 0 = 0 from rfl)]
      exact hc.2.2
  · rw [if_neg (show ¬ Int32.ofNat 1 = 0 by decide), if_pos (show Int32.ofNat 1 = 1 from rfl)]
    obtain ⟨q1, q2⟩ := g1 rfl
    have lo : ((k.2.drop f).take vv).length = vv := by
      rw [List.length_take, List.length_drop]
      omega
    have := K_swap (old := (k.2.drop f).take vv) (v := k.2.drop (f + vv)) hF hM wc hmono (by omega) (by rw [List.length_drop]; omega) b1 at1 (by rw [len1]; exact at0 f vv (by omega)) (by rw [len1, lo, Nat.add_assoc]; exact at2 (f + vv) (by omega))
    rw [len1, lo, List.length_drop] at this
    rw [i_subn (by omega), i_subn (by omega), Nat.sub_sub]
    refine WP_call this (fun c1 hc => tail c1 hc.1 ?_ ?_)
    · rw [aOp_R, if_neg (show ¬ Int32.ofNat 1 = 0 by decide), if_pos (show Int32.ofNat 1 = 1 from rfl)]
      exact hc.2.1
    · rw [aOp_R, if_neg (show ¬ Int32.ofNat 1 = 0 by decide), if_pos (show Int32.ofNat 1 = 1 from rfl)]
      exact hc.2.2
  · rw [if_neg (show ¬ Int32.ofNat 2 = 0 by decide), if_neg (show ¬ Int32.ofNat 2 = 1 by decide)]
    have := K_rem hF hM wc hmono (by omega) b1 at1
    rw [len1] at this
    refine WP_call this (fun c1 hc => tail c1 hc.1 ?_ ?_)
    · rw [aOp_R, if_neg (show ¬ Int32.ofNat 2 = 0 by decide), if_neg (show ¬ Int32.ofNat 2 = 1 by decide)]
      exact hc.2.1
    · rw [aOp_R, if_neg (show ¬ Int32.ofNat 2 = 0 by decide), if_neg (show ¬ Int32.ofNat 2 = 1 by decide)]
      exact hc.2.2
/-- what a command left, as it is told -/
def prQ (c : CS) (s : Nat) (r : AM × Int32 × Int32 × List Int32) : Prop := cI c 10 s 12 0 = (if r.2.1 = 0 then 0 else if r.2.1 = 1 then 2 else -1) ∧ (r.2.1 = 0 → cI c 10 s 13 0 = r.2.2.1 ∧ ansIs c s r.2.2.2 ∧ r.2.2.2.length ≤ 101) ∧ (r.2.1 = 1 → cI c 10 s 11 0 = 0)
/-- a session that is used: the same number, used now -/
theorem wfMc_set {M : AM} {i : Nat} {n : Int32} {z : Int32 × Int32 × List Int32} (w : wfMc M) (hb : sBel M n) (hn : 0 ≤ n) (hi : i < M.1.length) (hz : z.2.2.length ≤ 101 ∧ ∀ b ∈ z.2.2, aLow8 b = b) : wfMc (M.1.set i ((M.1.getD i aN0).1, n, z), M.2) := by
  obtain ⟨⟨⟨w1, w2⟩, w3, w4, w5⟩, w6, w7, w8, w9⟩ := w
  have hgi : M.1.getD i aN0 ∈ M.1 := by
    rw [getD_N hi]
    exact List.getElem_mem hi
  have hm : ∀ x ∈ M.1.set i ((M.1.getD i aN0).1, n, z), x ∈ M.1 ∨ x = ((M.1.getD i aN0).1, n, z) := fun x hx => List.mem_or_eq_of_mem_set hx
  refine ⟨⟨⟨?_, w2⟩, w3, fun x hx => ?_, w5⟩, fun x hx => ?_, ?_, ?_, fun x hx => ?_⟩
  · show (M.1.set i _).length ≤ 16
    rw [List.length_set]
    exact w1
  · rcases hm x hx with q | q
    · exact w4 x q
    · rw [q]
      exact ⟨by have := hz.1; show z.2.2.length ≤ 112; omega, hz.2⟩
  · rcases hm x hx with q | q
    · exact w6 x q
    · rw [q]
      exact hz.1
  · have e : (M.1.set i ((M.1.getD i aN0).1, n, z)).map (fun x => x.1) = M.1.map (fun x => x.1) := by
      rw [List.map_set]
      refine List.ext_getElem? (fun j => ?_)
      rw [List.getElem?_set]
      by_cases q : i = j
      · rw [if_pos q, List.length_map, if_pos (by omega), List.getElem?_map, ← q, List.getElem?_eq_getElem hi, getD_N hi]
        rfl
      · rw [if_neg q]
    show ((M.1.set i ((M.1.getD i aN0).1, n, z)).map (fun x => x.1)).Nodup
    rw [e]
    exact w7
  · have p : ((M.1.set i ((M.1.getD i aN0).1, n, z)).map (fun x => x.2.1)).Perm (n :: (M.1.eraseIdx i).map (fun x => x.2.1)) := (perm_set hi).map (fun x : AN => x.2.1)
    refine p.nodup_iff.mpr (List.nodup_cons.mpr ⟨fun hc => ?_, w8.sublist ((List.eraseIdx_sublist _ _).map _)⟩)
    obtain ⟨x, hx, e⟩ := List.mem_map.mp hc
    have := (hb x (List.mem_of_mem_eraseIdx hx)).2
    have e : x.2.1 = n := e
    rw [e] at this
    exact Int32.lt_irrefl this
  · rcases hm x hx with q | q
    · exact w9 x q
    · rw [q]
      exact ⟨(w9 _ hgi).1, hn⟩
/-- in the class's order -/
theorem cM_set {M : AM} {i i2 : Nat} {z : Int32 × Int32 × Int32 × List Int32} {L : List (List Int32 × List Int32)} (hn : (M.1.map (fun x => x.1)).Nodup) (hi : i < M.1.length) (hi2 : i2 < (cM M).1.length) (e : (cM M).1[i2] = M.1[i]) : cM (M.1.set i (M.1[i].1, z), L) = ((cM M).1.set i2 (M.1[i].1, z), L) := by
  refine Prod.ext (cM_uniq (M := (M.1.set i (M.1[i].1, z), L)) ?_ (set_perm2 cM_perm hi2 hi e)) rfl
  have hs := cM_srt hn
  have hm : ((cM M).1.set i2 (M.1[i].1, z)).map (fun x => x.1) = (cM M).1.map (fun x => x.1) := by
    rw [List.map_set]
    refine List.ext_getElem? (fun j => ?_)
    rw [List.getElem?_set]
    by_cases q : i2 = j
    · rw [if_pos q, List.length_map, if_pos (by omega), List.getElem?_map, ← q, List.getElem?_eq_getElem hi2, e]
      rfl
    · rw [if_neg q]
  have h1 : ((cM M).1.map (fun x => x.1)).Pairwise (· < ·) := List.pairwise_map.mpr hs
  rw [← hm] at h1
  have h2 : ((cM M).1.set i2 (M.1[i].1, z)).Pairwise (fun a b : AN => a.1 < b.1) := List.pairwise_map.mp h1
  exact h2
