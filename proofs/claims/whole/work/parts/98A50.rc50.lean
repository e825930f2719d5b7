/-! the machine: a command is performed -/
theorem aMc_S {a : AA} {s : Nat} {M : AM} : aMc (aMcS a s M) s = M := if_pos rfl
theorem ses_none {M : AM} {n : Int32} (h : ∀ m, m < (cM M).1.length → ¬ ((cM M).1.getD m aN0).1 = n) : aSesOf M n = none := by
  unfold aSesOf
  rw [List.findIdx?_eq_none_iff]
  intro x hx
  obtain ⟨m, hm, e⟩ := List.mem_iff_getElem.mp (cM_perm.mem_iff.mpr hx)
  refine decide_eq_false ?_
  have := h m hm
  rw [getD_N hm, e] at this
  exact this
theorem ses_some {M : AM} {n : Int32} {m : Nat} (hn : (M.1.map (fun x => x.1)).Nodup) (hm : m < (cM M).1.length) (e : ((cM M).1.getD m aN0).1 = n) : ∃ i, ∃ hi : i < M.1.length, aSesOf M n = some i ∧ (cM M).1[m] = M.1[i] := by
  rw [getD_N hm] at e
  cases hq : aSesOf M n with
  | none =>
    unfold aSesOf at hq
    rw [List.findIdx?_eq_none_iff] at hq
    have := of_decide_eq_false (hq _ (cM_perm.mem_iff.mp (List.getElem_mem hm)))
    exact absurd e this
  | some i =>
    unfold aSesOf at hq
    rw [List.findIdx?_eq_some_iff_getElem] at hq
    obtain ⟨hi, hp, _⟩ := hq
    have hp : M.1[i].1 = n := of_decide_eq_true hp
    exact ⟨i, hi, rfl, uniq_mem (f := fun x : AN => x.1) hn (cM_perm.mem_iff.mp (List.getElem_mem hm)) (List.getElem_mem hi) (e.trans hp.symm)⟩
/-- a command whose asking is there -/
def cmdOK (K : List AK) (e : AE) : Prop := e.2.2.2.2.2 = -1 ∨ ∃ j, e.2.2.2.2.2 = Int32.ofNat j ∧ j < K.length ∧ wfK (K.getD j (fun _ => 0, [])) ∧ (K.getD j (fun _ => 0, [])).1 1 < 3
/-- what is between admitting and operating -/
def adQ (c : CS) (a : AA) (s : Nat) (n : Int32) (e : AE) (p : Int32 × CS) : Prop :=
  PX 10 s m13 c p.2 ∧ ((p.1 = -1 ∧ KMc p.2 s (aPerf (aAk a) (aMc a s) n e).1 ∧ prQ p.2 s (aPerf (aAk a) (aMc a s) n e)) ∨
  ∃ i i2, ∃ hi : i < (aMc a s).1.length, ∃ hi2 : i2 < (cM (aMc a s)).1.length, p.1 = Int32.ofNat i2 ∧ i2 < 16 ∧ aSesOf (aMc a s) e.2.2.2.1 = some i ∧ (cM (aMc a s)).1[i2] = (aMc a s).1[i] ∧ ¬ e.2.2.2.2.2 = -1 ∧ ¬ e.2.2.2.2.1 < (aMc a s).1[i].2.2.1 ∧ ¬ e.2.2.2.2.1 = (aMc a s).1[i].2.2.1 ∧ KMc p.2 s ((aMc a s).1.set i ((aMc a s).1[i].1, n, (aMc a s).1[i].2.2), (aMc a s).2) ∧ cI p.2 10 s 12 0 = 0 ∧ cI p.2 10 s 13 0 = n)
theorem K_admit {F : Nat} {c : CS} {a : AA} {v : CV} {s i : Nat} {n : Int32} {e : AE} (hF : 20 ≤ F) (h : RC c a v) (hs : s < 7) (h3 : (aLg a s).length ≤ 300) (hi : i < (aLg a s).length) (he : (aLg a s).getD i aE0 = e) (hb : sBel (aMc a s) n) (hn : 0 ≤ n) : WP (k_Machine_admit_9_1 F c s n s (Int32.ofNat (6 * i))) (adQ c a s n e) := by
  obtain ⟨w, hM⟩ := h.2.2.2.2.2.2.2.2.2.2.2.1 s hs
  have hsh := shN_wf w
  have hrow : ∀ j, j < 6 → crd c 9 s 1 (Int32.ofNat (6 * i) + Int32.ofNat j) = some (kF e j) := fun j hj => by
    have := K_row (j := j) (n := Int32.ofNat (6 * i) + Int32.ofNat j) h hs hi h3 hj i_ad
    rw [he] at this
    exact this
  unfold k_Machine_admit_9_1 k_Machine_admit_9_1_b0
  refine WP_b (WP_b (WP_b ?_))
  have P1 : PX 10 s m13 c (csI (csI (csI c 10 s 12 0 0) 10 s 13 0 n) 10 s 11 0 0) := PX_t (PX_t (PX_I (by decide)) (PX_I (by decide))) (PX_I (by decide))
  have M1 : KM0 (csI (csI (csI c 10 s 12 0 0) 10 s 13 0 n) 10 s 11 0 0) s (cM (aMc a s)) := KM0_say (fs := [11, 12, 13]) hM (PX_t (PX_t (PX_I (by decide)) (PX_I (by decide))) (PX_I (by decide))) (by decide)
  have x12 : cI (csI (csI (csI c 10 s 12 0 0) 10 s 13 0 n) 10 s 11 0 0) 10 s 12 0 = 0 := (csI_f (by decide)).trans ((csI_f (by decide)).trans csI_e)
  have x13 : cI (csI (csI (csI c 10 s 12 0 0) 10 s 13 0 n) 10 s 11 0 0) 10 s 13 0 = n := (csI_f (by decide)).trans csI_e
  have x11 : cI (csI (csI (csI c 10 s 12 0 0) 10 s 13 0 n) 10 s 11 0 0) 10 s 11 0 = 0 := csI_e
  generalize csI (csI (csI c 10 s 12 0 0) 10 s 13 0 n) 10 s 11 0 0 = c1 at P1 M1 x12 x13 x11
  rw [crd_P P1 (by decide)]
  refine WP_eq (hrow 5 (by omega)) ?_
  have k5 : kF e 5 = e.2.2.2.2.2 := rfl
  rw [k5]
  refine WP_if c2_ne (fun z => ?_) (fun z => ?_)
  · rw [crd_P P1 (by decide)]
    refine WP_eq (hrow 3 (by omega)) ?_
    have k3 : kF e 3 = e.2.2.2.1 := rfl
    rw [k3]
    obtain ⟨y1, y4, y5, yS, f, yK⟩ := KM0_f M1
    have hfs := K_findSes (n := e.2.2.2.1) hF yS y1 hsh.1
    have ep : aPerf (aAk a) (aMc a s) n e = match aSesOf (aMc a s) e.2.2.2.1 with
        | none => (aMc a s, 1, n, [])
        | some i =>
          let x := (aMc a s).1.getD i (0, 0, 0, 0, [])
          let M1 : AM := ((aMc a s).1.set i (x.1, n, x.2.2), (aMc a s).2)
          if e.2.2.2.2.1 < x.2.2.1 then (M1, 2, n, [])
          else if e.2.2.2.2.1 = x.2.2.1 then (M1, 0, x.2.2.2.1, x.2.2.2.2)
          else
            let k := (aAk a).getD e.2.2.2.2.2.toNatClampNeg (fun _ => 0, [])
            let r := aOp M1 (k.1 1) (k.1 7).toNatClampNeg (k.1 8).toNatClampNeg k.2
            ((r.1.1.set i (x.1, n, e.2.2.2.2.1, n, r.2), r.1.2), 0, n, r.2) := if_neg z
    rcases hfs with ⟨m, hm, em, er⟩ | ⟨hno, er⟩
    · refine WP_eq er ?_
      obtain ⟨i0, hi0, es, ee⟩ := ses_some w.2.2.1 hm em
      rw [es] at ep
      dsimp only at ep
      have gx : (aMc a s).1.getD i0 (0, 0, 0, 0, []) = (aMc a s).1[i0] := getD_N hi0
      rw [gx] at ep
      have h16 := hsh.1
      have hrw := KSs_r yS hm
      rw [getD_N hm, ee] at hrw
      have wx : (aMc a s).1[i0].2.2.2.2.length ≤ 101 ∧ ∀ b ∈ (aMc a s).1[i0].2.2.2.2, aLow8 b = b := ⟨w.2.1 _ (List.getElem_mem hi0), (w.1.2.2.1 _ (List.getElem_mem hi0)).2⟩
      have wset : wfMc ((aMc a s).1.set i0 ((aMc a s).1[i0].1, n, (aMc a s).1[i0].2.2), (aMc a s).2) := by
        have := wfMc_set (z := (aMc a s).1[i0].2.2) w hb hn hi0 wx
        rw [getD_N hi0] at this
        exact this
      have eset := cM_set (z := (n, (aMc a s).1[i0].2.2)) (L := (aMc a s).2) w.2.2.1 hi0 hm ee
      refine WP_if c2_ne (fun _ => ?_) (fun y => absurd (show Int32.ofNat m = -1 from Classical.not_not.mp y) (fun y => by
        have y2 := congrArg Int32.toInt y
        rw [Int32.toInt_ofNat_of_lt (by omega), show (-1 : Int32).toInt = -1 by decide] at y2
        omega))
      rw [show (1 : Int32) = Int32.ofNat 1 from rfl, show (2 : Int32) = Int32.ofNat 2 from rfl, show (3 : Int32) = Int32.ofNat 3 from rfl, i_5, i_5, i_5]
      refine WP_eq (crd_n rfl (show 5 * m + 2 < 80 by omega) (by omega)) (WP_eq (cwr_n rfl (show 5 * m + 1 < 80 by omega) (by omega)) ?_)
      rw [hrw.2.2.1]
      have P2 : PX 10 s m13 c (csI c1 10 s 2 (5 * m + 1) n) := PX_t P1 (PX_I (by decide))
      have K2 : KM0 (csI c1 10 s 2 (5 * m + 1) n) s (cM ((aMc a s).1.set i0 ((aMc a s).1[i0].1, n, (aMc a s).1[i0].2.2), (aMc a s).2)) := by
        rw [eset]
        refine KM0_b (f := f) w.1.2.1 ((csI_f (by decide)).trans (y1.trans (by rw [List.length_set]))) ((csI_f (by decide)).trans y4) ((csI_f (by decide)).trans y5) ?_ (KMs_o yK (fun g hg j => csI_f (by omega)))
        refine KSs_set yS hsh hm (fun j hj => csI_j (by omega)) (fun j hj => csI_f (by decide)) ⟨?_, ?_, ?_, ?_, ?_, fun j hj => ?_⟩
        · exact (csI_j (by omega)).trans hrw.1
        · exact csI_e
        · exact (csI_j (by omega)).trans hrw.2.2.1
        · exact (csI_j (by omega)).trans hrw.2.2.2.1
        · exact (csI_j (by omega)).trans hrw.2.2.2.2.1
        · exact (csI_f (by decide)).trans (hrw.2.2.2.2.2 j hj)
      have z12 : cI (csI c1 10 s 2 (5 * m + 1) n) 10 s 12 0 = 0 := (csI_f (by decide)).trans x12
      have z13 : cI (csI c1 10 s 2 (5 * m + 1) n) 10 s 13 0 = n := (csI_f (by decide)).trans x13
      have hrw2 : KS1 (csI c1 10 s 2 (5 * m + 1) n) s m ((aMc a s).1[i0].1, n, (aMc a s).1[i0].2.2) := by
        refine ⟨(csI_j (by omega)).trans hrw.1, csI_e, (csI_j (by omega)).trans hrw.2.2.1, (csI_j (by omega)).trans hrw.2.2.2.1, (csI_j (by omega)).trans hrw.2.2.2.2.1, fun j hj => (csI_f (by decide)).trans (hrw.2.2.2.2.2 j hj)⟩
      generalize csI c1 10 s 2 (5 * m + 1) n = c2 at P2 K2 z12 z13 hrw2
      rw [crd_P P2 (by decide)]
      refine WP_eq (hrow 4 (by omega)) ?_
      have k4 : kF e 4 = e.2.2.2.2.1 := rfl
      rw [k4]
      refine WP_if c2_le (fun y1 => ?_) (fun y1 => ?_)
      · refine WP_eq (hrow 4 (by omega)) ?_
        rw [k4]
        refine WP_if c2_ge (fun y2 => ?_) (fun y2 => ?_)
        · have eq := Int32.le_antisymm y1 y2
          have hlt : ¬ e.2.2.2.2.1 < (aMc a s).1[i0].2.2.1 := fun u => by
            rw [eq] at u
            exact Int32.lt_irrefl u
          rw [if_neg hlt, if_pos eq] at ep
          refine WP_eq (crd_n rfl (show 5 * m + 3 < 80 by omega) (by omega)) (WP_b ?_)
          rw [show (4 : Int32) = Int32.ofNat 4 from rfl, i_5, i_101]
          refine WP_eq (crd_n rfl (show 5 * m + 4 < 80 by omega) (by omega)) (WP_b ?_)
          rw [csI_f (by decide), hrw2.2.2.2.1, hrw2.2.2.2.2.1, csI_e]
          have wl := wx.1
          refine WP_eq (ccpy_n (s := 101 * m) (t := 0) (n := (aMc a s).1[i0].2.2.2.2.length) rfl rfl rfl (show 101 * m + (aMc a s).1[i0].2.2.2.2.length ≤ 1616 by omega) (show 0 + (aMc a s).1[i0].2.2.2.2.length ≤ 134 by omega) (by omega) (by omega)) (WP_some ?_)
          have P3 : PX 10 s [10, 11, 12, 13] c2 (csA (csI (csI c2 10 s 13 0 (aMc a s).1[i0].2.2.2.1) 10 s 11 0 (Int32.ofNat (aMc a s).1[i0].2.2.2.2.length)) 10 s 10 (fun w => if 0 ≤ w ∧ w < 0 + (aMc a s).1[i0].2.2.2.2.length then cI (csI (csI c2 10 s 13 0 (aMc a s).1[i0].2.2.2.1) 10 s 11 0 (Int32.ofNat (aMc a s).1[i0].2.2.2.2.length)) 10 s 3 (101 * m + (w - 0)) else cI (csI (csI c2 10 s 13 0 (aMc a s).1[i0].2.2.2.1) 10 s 11 0 (Int32.ofNat (aMc a s).1[i0].2.2.2.2.length)) 10 s 10 w)) := PX_t (PX_t (PX_I (by decide)) (PX_I (by decide))) (PX_A (by decide))
          refine ⟨PX_t P2 (PX_w P3 (by decide)), Or.inl ⟨rfl, ?_, ?_⟩⟩
          · rw [ep]
            exact ⟨wset, KM0_say K2 P3 (by decide)⟩
          · rw [ep]
            refine ⟨(cI_Ao (by decide)).trans ((csI_f (by decide)).trans ((csI_f (by decide)).trans z12)), fun _ => ⟨(cI_Ao (by decide)).trans ((csI_f (by decide)).trans csI_e), ⟨(cI_Ao (by decide)).trans csI_e, fun j hj => ?_⟩, wl⟩, fun u => absurd u (show ¬ (0 : Int32) = 1 by decide)⟩
            have hj : j < (aMc a s).1[i0].2.2.2.2.length := hj
            rw [cI_A, if_pos (by omega), csI_f (by decide), csI_f (by decide), Nat.sub_zero]
            exact hrw2.2.2.2.2.2 j hj
        · have hlt : e.2.2.2.2.1 < (aMc a s).1[i0].2.2.1 := i_nle.mp y2
          rw [if_pos hlt] at ep
          refine WP_b (WP_some ?_)
          have P3 : PX 10 s [10, 11, 12, 13] c2 (csI c2 10 s 12 0 (-1)) := PX_I (by decide)
          refine ⟨PX_t P2 (PX_w P3 (by decide)), Or.inl ⟨rfl, ?_, ?_⟩⟩
          · rw [ep]
            exact ⟨wset, KM0_say K2 P3 (by decide)⟩
          · rw [ep]
            exact ⟨csI_e, fun u => absurd u (show ¬ (2 : Int32) = 0 by decide), fun u => absurd u (show ¬ (2 : Int32) = 1 by decide)⟩
      · have hgt := i_nle.mp y1
        have hnl : ¬ e.2.2.2.2.1 < (aMc a s).1[i0].2.2.1 := fun u => Int32.lt_irrefl (Int32.lt_trans u hgt)
        have hne : ¬ e.2.2.2.2.1 = (aMc a s).1[i0].2.2.1 := fun u => by
          rw [u] at hgt
          exact Int32.lt_irrefl hgt
        exact WP_some ⟨P2, Or.inr ⟨i0, m, hi0, hm, rfl, by omega, es, ee, z, hnl, hne, ⟨wset, K2⟩, z12, z13⟩⟩
    · refine WP_eq er ?_
      rw [ses_none hno] at ep
      dsimp only at ep
      rw [if_neg (show ¬ xc2 .ne (-1 : Int32) (-1) = true by decide)]
      refine WP_b (WP_some ?_)
      have P3 : PX 10 s [10, 11, 12, 13] c1 (csI c1 10 s 12 0 2) := PX_I (by decide)
      refine ⟨PX_t P1 (PX_w P3 (by decide)), Or.inl ⟨rfl, ?_, ?_⟩⟩
      · rw [ep]
        exact ⟨w, KM0_say M1 P3 (by decide)⟩
      · rw [ep]
        exact ⟨csI_e, fun u => absurd u (show ¬ (1 : Int32) = 0 by decide), fun _ => (csI_f (by decide)).trans x11⟩
  · have z : e.2.2.2.2.2 = -1 := Classical.not_not.mp z
    have ep : aPerf (aAk a) (aMc a s) n e = (aOpen (aMc a s) n, 0, n, []) := if_pos z
    refine WP_call (K_openSes hF ⟨w, M1⟩ hb hn) (fun c2 hc => WP_some ⟨PX_t P1 (PX_w hc.1 (by decide)), Or.inl ⟨rfl, ?_, ?_⟩⟩)
    · rw [ep]
      exact hc.2
    · rw [ep]
      exact ⟨(PX_o hc.1 (by decide)).trans x12, fun _ => ⟨(PX_o hc.1 (by decide)).trans x13, ⟨(PX_o hc.1 (by decide)).trans x11, fun j hj => absurd hj (Nat.not_lt_zero _)⟩, Nat.zero_le _⟩, fun u => absurd u (show ¬ (0 : Int32) = 1 by decide)⟩
theorem K_perf {F : Nat} {c : CS} {a : AA} {v : CV} {s i : Nat} {n : Int32} {e : AE} {g : CS → Option CS} {Q : CS → Prop} (hF : 200 ≤ F) (h : RC c a v) (hs : s < 7) (h3 : (aLg a s).length ≤ 300) (hi : i < (aLg a s).length) (he : (aLg a s).getD i aE0 = e) (hA : cmdOK (aAk a) e) (hst : srtM (aMc a s)) (hb : sBel (aMc a s) n) (hn : 0 ≤ n)
    (k : ∀ c', RC c' (aMcS a s (aPerf (aAk a) (aMc a s) n e).1) v → PX 10 s m13 c c' → prQ c' s (aPerf (aAk a) (aMc a s) n e) → WP (g c') Q) :
    WP ((k_Machine_admit_9_1 F c s n s (Int32.ofNat (6 * i))).bind fun p18 => if xc2 .eq p18.1 ((-1 : Int32)) = true then g p18.2 else (crd p18.2 9 s 1 (Int32.ofNat (6 * i) + ((4 : Int32)))).bind fun x30 => (crd p18.2 9 s 1 (Int32.ofNat (6 * i) + ((5 : Int32)))).bind fun x32 => (k_Machine_operate F p18.2 s p18.1 x30 x32).bind fun p34 => g p34) Q := by
  refine WP_call (K_admit (by omega) h hs h3 hi he hb hn) (fun p hp => ?_)
  obtain ⟨P, hp⟩ := hp
  rcases hp with ⟨p1, p2, p3⟩ | ⟨i0, m, hi0, hm, p1, m16, es, ee, z, hnl, hne, hK, z12, z13⟩
  · rw [if_pos (c2_eq.mpr p1)]
    exact k p.2 (RC_mc h P p2) P p3
  · obtain ⟨w, hM⟩ := h.2.2.2.2.2.2.2.2.2.2.2.1 s hs
    rw [p1, if_neg (fun y => by
      have y2 := congrArg Int32.toInt (c2_eq.mp y)
      rw [Int32.toInt_ofNat_of_lt (by omega), show (-1 : Int32).toInt = -1 by decide] at y2
      omega)]
    have hrow : ∀ j, j < 6 → crd p.2 9 s 1 (Int32.ofNat (6 * i) + Int32.ofNat j) = some (kF e j) := fun j hj => by
      have := K_row (j := j) (n := Int32.ofNat (6 * i) + Int32.ofNat j) h hs hi h3 hj i_ad
      rw [he] at this
      rw [crd_P P (by decide)]
      exact this
    refine WP_eq (hrow 4 (by omega)) (WP_eq (hrow 5 (by omega)) ?_)
    have k4 : kF e 4 = e.2.2.2.2.1 := rfl
    have k5 : kF e 5 = e.2.2.2.2.2 := rfl
    rw [k4, k5]
    rcases hA with hA | ⟨j, j1, j2, j3, j4⟩
    · exact absurd hA z
    · have h2 := RC_mc h P hK
      have j5 : j < 2147483648 := by
        have := (h.2.2.2.2.2.2.2.2.2.2.2.2.2.2.2.1).2.1
        omega
      have eset := cM_set (z := (n, (aMc a s).1[i0].2.2)) (L := (aMc a s).2) w.2.2.1 hi0 hm ee
      have hm2 : m < (cM ((aMc a s).1.set i0 ((aMc a s).1[i0].1, n, (aMc a s).1[i0].2.2), (aMc a s).2)).1.length := by
        rw [eset]
        show m < ((cM (aMc a s)).1.set m _).length
        rw [List.length_set]
        exact hm
      have hop := K_operate (n := n) (srl := e.2.2.2.2.1) (k := (aAk a).getD j (fun _ => 0, [])) hF h2 hs aMc_S hm2 (show j < (aAk a).length from j2) rfl j3 j4 hst z13
      rw [j1]
      have ep : aPerf (aAk a) (aMc a s) n e = (let r := aOp ((aMc a s).1.set i0 ((aMc a s).1[i0].1, n, (aMc a s).1[i0].2.2), (aMc a s).2) (((aAk a).getD j (fun _ => 0, [])).1 1) (((aAk a).getD j (fun _ => 0, [])).1 7).toNatClampNeg (((aAk a).getD j (fun _ => 0, [])).1 8).toNatClampNeg ((aAk a).getD j (fun _ => 0, [])).2
          ((r.1.1.set i0 ((aMc a s).1[i0].1, n, e.2.2.2.2.1, n, r.2), r.1.2), 0, n, r.2)) := by
        unfold aPerf
        rw [if_neg z, es]
        dsimp only
        have gx : (aMc a s).1.getD i0 (0, 0, 0, 0, []) = (aMc a s).1[i0] := getD_N hi0
        rw [gx, if_neg hnl, if_neg hne, j1, i_cl j5]
      have hses := @aOp_ses ((aMc a s).1.set i0 ((aMc a s).1[i0].1, n, (aMc a s).1[i0].2.2), (aMc a s).2) (((aAk a).getD j (fun _ => 0, [])).1 1) (((aAk a).getD j (fun _ => 0, [])).1 7).toNatClampNeg (((aAk a).getD j (fun _ => 0, [])).1 8).toNatClampNeg ((aAk a).getD j (fun _ => 0, [])).2
      have hkeys := op_S (S := (aMc a s).1.set i0 ((aMc a s).1[i0].1, n, (aMc a s).1[i0].2.2)) (S' := (aMc a s).1) (L := (aMc a s).2) (kd := ((aAk a).getD j (fun _ => 0, [])).1 1) (k := (((aAk a).getD j (fun _ => 0, [])).1 7).toNatClampNeg) (v := (((aAk a).getD j (fun _ => 0, [])).1 8).toNatClampNeg) (b := ((aAk a).getD j (fun _ => 0, [])).2)
      have wop := wfM_op w.1 j3 j4
      have aop := aOp_ans (kd := ((aAk a).getD j (fun _ => 0, [])).1 1) (k := (((aAk a).getD j (fun _ => 0, [])).1 7).toNatClampNeg) (v := (((aAk a).getD j (fun _ => 0, [])).1 8).toNatClampNeg) (b := ((aAk a).getD j (fun _ => 0, [])).2) hK.1.1
      have eM : ((aMc a s).1, (aMc a s).2) = aMc a s := rfl
      rw [eM] at hkeys
      rw [eset] at hop
      generalize aOp ((aMc a s).1.set i0 ((aMc a s).1[i0].1, n, (aMc a s).1[i0].2.2), (aMc a s).2) (((aAk a).getD j (fun _ => 0, [])).1 1) (((aAk a).getD j (fun _ => 0, [])).1 7).toNatClampNeg (((aAk a).getD j (fun _ => 0, [])).1 8).toNatClampNeg ((aAk a).getD j (fun _ => 0, [])).2 = r at hop ep hses hkeys aop
      generalize aOp (aMc a s) (((aAk a).getD j (fun _ => 0, [])).1 1) (((aAk a).getD j (fun _ => 0, [])).1 7).toNatClampNeg (((aAk a).getD j (fun _ => 0, [])).1 8).toNatClampNeg ((aAk a).getD j (fun _ => 0, [])).2 = r0 at hkeys wop
      dsimp only at ep
      have e12 : r.1.2 = r0.1.2 := by rw [hkeys]
      have hses : r.1.1 = (aMc a s).1.set i0 ((aMc a s).1[i0].1, n, (aMc a s).1[i0].2.2) := hses
      rw [hses, List.set_set] at ep
      refine WP_call hop (fun c3 hc => ?_)
      obtain ⟨Q1, Q2, Q3, Q4, Q5⟩ := hc
      have gset : ((cM (aMc a s)).1.set m ((aMc a s).1[i0].1, n, (aMc a s).1[i0].2.2)).getD m aN0 = ((aMc a s).1[i0].1, n, (aMc a s).1[i0].2.2) := by
        rw [getD_set hm, if_pos rfl]
      have Q2 : KM0 c3 s (((cM (aMc a s)).1.set m ((aMc a s).1[i0].1, n, (aMc a s).1[i0].2.2)).set m ((((cM (aMc a s)).1.set m ((aMc a s).1[i0].1, n, (aMc a s).1[i0].2.2)).getD m aN0).1, (((cM (aMc a s)).1.set m ((aMc a s).1[i0].1, n, (aMc a s).1[i0].2.2)).getD m aN0).2.1, e.2.2.2.2.1, n, r.2), r.1.2) := Q2
      rw [gset, List.set_set] at Q2
      have eset2 := cM_set (z := (n, e.2.2.2.2.1, n, r.2)) (L := r.1.2) w.2.2.1 hi0 hm ee
      have wf2 : wfMc ((aMc a s).1.set i0 ((aMc a s).1[i0].1, n, e.2.2.2.2.1, n, r.2), r.1.2) := by
        have hses0 := wop.1
        have w0 : wfMc ((aMc a s).1, r.1.2) := by
          rw [e12]
          exact ⟨⟨⟨w.1.1.1, wop.1.2⟩, wop.2.1, w.1.2.2.1, wop.2.2.2⟩, w.2⟩
        have := wfMc_set (M := ((aMc a s).1, r.1.2)) (z := (e.2.2.2.2.1, n, r.2)) w0 hb hn hi0 aop
        have gx : (aMc a s).1.getD i0 aN0 = (aMc a s).1[i0] := getD_N hi0
        rw [show ((aMc a s).1, r.1.2).1.getD i0 aN0 = (aMc a s).1[i0] from gx] at this
        exact this
      refine k c3 (RC_mc h (PX_t P Q1) ?_) (PX_t P Q1) ?_
      · rw [ep]
        refine ⟨wf2, ?_⟩
        rw [eset2]
        exact Q2
      · rw [ep]
        exact ⟨Q5.trans z12, fun _ => ⟨Q4, Q3, aop.1⟩, fun u => absurd u (show ¬ (0 : Int32) = 1 by decide)⟩
