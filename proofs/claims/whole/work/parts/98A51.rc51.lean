/-! what is agreed is done -/
theorem rq_injC {c : CS} {s : Nat} {n : Int32} {rq : List AQ} (h : KRq c s n rq) : ∀ x ∈ rq, ∀ y ∈ rq, x 0 = y 0 → x = y := by
  obtain ⟨b, b1, b2, b3, b4, b5, b6⟩ := h
  intro x hx y hy e
  obtain ⟨i, hi, ei⟩ := List.getElem_of_mem hx
  obtain ⟨j, hj, ej⟩ := List.getElem_of_mem hy
  have p := List.pairwise_iff_getElem.mp (List.pairwise_map.mp b3)
  have er : qN x = qN y := by unfold qN; rw [e]
  rcases Nat.lt_trichotomy i j with z | z | z
  · have := p i j hi hj z
    rw [ei, ej] at this
    omega
  · subst z
    rw [← ei, ← ej]
  · have := p j i hj hi z
    rw [ei, ej] at this
    omega
theorem dRq_un {a : AA} {s : Nat} {n : Int32} (hd : dRq a s) : ∀ x ∈ aRq a s, ∀ y ∈ aRq a s, wtF n x = true → wtF n y = true → x = y := by
  intro x hx y hy h1 h2
  unfold wtF at h1 h2
  rw [Bool.and_eq_true] at h1 h2
  have x6 := of_decide_eq_true h1.1
  have x4 := of_decide_eq_true h1.2
  have y6 := of_decide_eq_true h2.1
  have y4 := of_decide_eq_true h2.2
  obtain ⟨i, hi, ei⟩ := List.getElem_of_mem hx
  obtain ⟨j, hj, ej⟩ := List.getElem_of_mem hy
  have p := List.pairwise_iff_getElem.mp hd
  rcases Nat.lt_trichotomy i j with z | z | z
  · have := p i j hi hj z
    rw [ei, ej] at this
    exact absurd (x4.trans y4.symm) (this x6 y6)
  · subst z
    rw [← ei, ← ej]
  · have := p j i hj hi z
    rw [ei, ej] at this
    exact absurd (y4.trans x4.symm) (this y6 x6)
theorem cmd_of {K : List AK} {e : AE} (h : wfE K e) (hK : ∀ k ∈ K, wfK k) (h2 : e.2.1 = 2) : cmdOK K e := by
  rcases h.2.2 h2 with z | ⟨z0, z1, z2⟩
  · exact Or.inl z
  · refine Or.inr ⟨e.2.2.2.2.2.toNatClampNeg, i_of z0, z1, hK _ ?_, z2⟩
    rw [List.getD_eq_getElem?_getD, List.getElem?_eq_getElem z1]
    exact List.getElem_mem z1
theorem s_lt {x n : Int32} (h : x < n) (hn : n.toInt < 2147483647) : x < n + 1 := by
  rw [Int32.lt_iff_toInt_lt] at h ⊢
  rw [i_succ hn]
  omega
theorem s_lt0 {n : Int32} (hn : n.toInt < 2147483647) : n < n + 1 := by
  rw [Int32.lt_iff_toInt_lt, i_succ hn]
  omega
theorem sBel_set {M : AM} {n : Int32} {i : Nat} {z : Int32 × Int32 × Int32 × List Int32} {L : List (List Int32 × List Int32)} (hb : sBel M n) (hn : n.toInt < 2147483647) (hz : z.1 = n) (hi : i < M.1.length) : sBel (M.1.set i ((M.1.getD i (0, 0, 0, 0, [])).1, z), L) (n + 1) := by
  intro x hx
  have hx : x ∈ M.1.set i ((M.1.getD i (0, 0, 0, 0, [])).1, z) := hx
  rcases List.mem_or_eq_of_mem_set hx with q | q
  · exact ⟨s_lt (hb x q).1 hn, s_lt (hb x q).2 hn⟩
  · rw [q]
    refine ⟨s_lt (hb (M.1.getD i aN0) ?_).1 hn, by show z.1 < n + 1; rw [hz]; exact s_lt0 hn⟩
    rw [getD_N hi]
    exact List.getElem_mem hi
theorem sBel_perf {K : List AK} {M : AM} {n : Int32} {e : AE} (hb : sBel M n) (hn : n.toInt < 2147483647) : sBel (aPerf K M n e).1 (n + 1) := by
  have base : sBel M (n + 1) := fun x hx => ⟨s_lt (hb x hx).1 hn, s_lt (hb x hx).2 hn⟩
  have sM : ∀ i, aSesOf M e.2.2.2.1 = some i → i < M.1.length := by
    intro i hi
    unfold aSesOf at hi
    rw [List.findIdx?_eq_some_iff_getElem] at hi
    exact hi.1
  unfold aPerf
  by_cases z : e.2.2.2.2.2 = -1
  · rw [if_pos z]
    intro x hx
    have hx : x ∈ (aOpen M n).1 := hx
    unfold aOpen at hx
    dsimp only at hx
    rcases List.mem_append.mp hx with q | q
    · by_cases y : M.1.length = 16
      · rw [if_pos y] at q
        rcases List.mem_or_eq_of_mem_set (List.mem_of_mem_take q) with u | u
        · exact base x u
        · rw [u]
          refine base (M.1.getD 15 aN0) ?_
          rw [getD_N (show 15 < M.1.length by omega)]
          exact List.getElem_mem _
      · rw [if_neg y] at q
        exact base x q
    · rw [List.mem_singleton.mp q]
      exact ⟨s_lt0 hn, s_lt0 hn⟩
  · rw [if_neg z]
    cases hs : aSesOf M e.2.2.2.1 with
    | none => exact base
    | some i =>
      have hi := sM i hs
      dsimp only
      by_cases q1 : e.2.2.2.2.1 < (M.1.getD i (0, 0, 0, 0, [])).2.2.1
      · rw [if_pos q1]
        exact sBel_set hb hn rfl hi
      · rw [if_neg q1]
        by_cases q2 : e.2.2.2.2.1 = (M.1.getD i (0, 0, 0, 0, [])).2.2.1
        · rw [if_pos q2]
          exact sBel_set hb hn rfl hi
        · rw [if_neg q2, aOp_ses]
          dsimp only
          rw [List.set_set]
          exact sBel_set hb hn rfl hi
/-- behind the drop: what is done, and what is said of it -/
theorem K_ap106 {F : Nat} {c : CS} {a : AA} {s i : Nat} {n l3 : Int32} {d : Bool} {H : List (Nat × Option AL)} {U : Nat → Int32} {N : Nat × Nat} {K10 : CS → Nat → Int32 → Option CS} {Q : CS → Prop} (hF : 200 ≤ F) (R : List AQ) (h : RC c (aRqS (aI a 76 s n) s R) ((H, U), N)) (hs : s < 7) (h3 : (aLg a s).length ≤ 300) (hi : i < (aLg a s).length) (he : aEnt a s n = (aLg a s).getD i aE0) (hE : (aEnt a s n).2.1 = 2 → cmdOK (aAk a) (aEnt a s n)) (hst : srtM (aMc a s)) (hb : sBel (aMc a s) n) (hn : 0 ≤ n) (hH : H.length ≤ 5)
    (hq : d = true → ∃ q : AQ, ∃ w, w < 32 ∧ l3 = Int32.ofNat w ∧ aInR (q 1) 8 15 = true ∧ cI c 12 s 1 w = q 1 ∧ cI c 12 s 2 w = q 2 ∧
      ((aEnt a s n).2.1 = 2 → ((apR a s n).2.1 = 0 ∨ (apR a s n).2.1 = 1) → ∀ c', RC c' (aReply (aRqS (aMcS (aI a 76 s n) s (apR a s n).1) s R) s q (if (apR a s n).2.1 = 0 then 0 else 2) (if (apR a s n).2.1 = 0 then (apR a s n).2.2.1 else 0) (if (apR a s n).2.1 = 0 then (apR a s n).2.2.2 else [])) ((H, U), N) → WP (K10 c' s (n + 1)) Q))
    (k : ((aEnt a s n).2.1 = 2 → d = true → ¬ ((apR a s n).2.1 = 0 ∨ (apR a s n).2.1 = 1)) → ∀ c', RC c' (aRqS (aMcS (aI a 76 s n) s (apR a s n).1) s R) ((H, U), N) → WP (K10 c' s (n + 1)) Q) :
    WP (k_Server_apply_b106 F K10 c s n (Int32.ofNat (6 * i)) l3 (aB d)) Q := by
  have hrow : ∀ j, j < 6 → crd c 9 s 1 (Int32.ofNat (6 * i) + Int32.ofNat j) = some (kF (aEnt a s n) j) := fun j hj => by
    rw [he]
    exact K_row (a := aRqS (aI a 76 s n) s R) (j := j) h hs hi h3 hj i_ad
  unfold k_Server_apply_b106 k_Server_apply_b235
  rw [show (1 : Int32) = Int32.ofNat 1 from rfl]
  refine WP_eq (hrow 1 (by omega)) ?_
  have k1 : kF (aEnt a s n) 1 = (aEnt a s n).2.1 := rfl
  rw [k1, show Int32.ofNat 1 = (1 : Int32) from rfl]
  refine WP_if c2_ne (fun z => ?_) (fun z => ?_)
  · refine k (fun y => absurd y z) c ?_
    have e : apR a s n = (aMc a s, 0, 0, []) := if_neg z
    rw [e]
    have e2 : aMcS (aI a 76 s n) s (aMc a s) = aI a 76 s n := aMcS_same (a := aI a 76 s n)
    show RC c (aRqS (aMcS (aI a 76 s n) s (aMc a s)) s R) ((H, U), N)
    rw [e2]
    exact h
  · have z : (aEnt a s n).2.1 = 2 := Classical.not_not.mp z
    have ee : apR a s n = aPerf (aAk a) (aMc a s) n (aEnt a s n) := if_pos z
    have hA := hE z
    refine K_perf (e := aEnt a s n) hF h hs h3 hi he.symm hA hst hb hn (fun c' h' P pr => ?_)
    have pr : prQ c' s (aPerf (aAk a) (aMc a s) n (aEnt a s n)) := pr
    have h' : RC c' (aRqS (aMcS (aI a 76 s n) s (aPerf (aAk a) (aMc a s) n (aEnt a s n)).1) s R) ((H, U), N) := h'
    rw [← ee] at h' pr
    unfold k_Server_apply_b176 k_Server_apply_b235
    cases hd : d with
    | false =>
      rw [if_pos (show xc0 .eq (aB false) = true by decide)]
      exact k (fun _ y => absurd (hd.symm.trans y) (by decide)) c' h'
    | true =>
      rw [if_neg (show ¬ xc0 .eq (aB true) = true by decide)]
      obtain ⟨q, w, w1, w2, w3, w4, w5, kq⟩ := hq hd
      obtain ⟨p1, p2, p3⟩ := pr
      rw [p1]
      by_cases r0 : (apR a s n).2.1 = 0
      · rw [if_pos r0, if_neg (show ¬ xc2 .eq (0 : Int32) (-1) = true by decide)]
        obtain ⟨y1, ⟨y2, y3⟩, y4⟩ := p2 r0
        have kq2 := kq z (Or.inl r0)
        rw [if_pos r0, if_pos r0, if_pos r0] at kq2
        rw [w2]
        refine WP_eq (crd_n rfl (show w < 32 from w1) (by omega)) (WP_eq (crd_n rfl (show w < 32 from w1) (by omega)) ?_)
        rw [PX_c P (by decide), PX_c P (by decide), w4, w5, y1, y2]
        exact WP_call (K_reply (by omega) h' hs (Or.inr w3) (by omega) y3 hH) (fun c2 h2 => kq2 c2 h2)
      · rw [if_neg r0]
        by_cases r1 : (apR a s n).2.1 = 1
        · rw [if_pos r1, if_neg (show ¬ xc2 .eq (2 : Int32) (-1) = true by decide)]
          have kq2 := kq z (Or.inr r1)
          rw [if_neg r0, if_neg r0, if_neg r0] at kq2
          rw [w2]
          refine WP_eq (crd_n rfl (show w < 32 from w1) (by omega)) (WP_eq (crd_n rfl (show w < 32 from w1) (by omega)) ?_)
          rw [PX_c P (by decide), PX_c P (by decide), w4, w5, p3 r1]
          exact WP_call (K_reply2 (bs := []) (by omega) h' hs (Or.inr w3) (Nat.zero_le _) (fun j hj => absurd hj (Nat.not_lt_zero _)) (fun y => absurd y (by decide)) hH) (fun c2 h2 => kq2 c2 h2)
        · rw [if_neg r1, if_pos (show xc2 .eq (-1 : Int32) (-1) = true by decide)]
          exact k (fun _ _ y => y.elim r0 r1) c' h'
theorem K_apply1 {F : Nat} {c : CS} {a : AA} {s : Nat} {n : Int32} {H : List (Nat × Option AL)} {U : Nat → Int32} {N : Nat × Nat} {K10 : CS → Nat → Int32 → Option CS} {Q : CS → Prop} (hF : 200 ≤ F) (h : RC c a ((H, U), N)) (hs : s < 7) (hu : aS a 52 s = 1) (w : WLg a s) (hh : aHas a s n = true) (hd : dRq a s) (hrq : ∀ q ∈ aRq a s, aInR (q 1) 8 15 = true) (hE : (aEnt a s n).2.1 = 2 → cmdOK (aAk a) (aEnt a s n)) (hst : srtM (aMc a s)) (hb : sBel (aMc a s) n) (hn : 0 ≤ n) (hH : H.length ≤ 5) (k : ∀ c', RC c' (aApply1 a s n) ((H, U), N) → WP (K10 c' s (n + 1)) Q) :
    WP ((some (csI c 9 s 10 0 n)).bind fun σ53 => (k_Log_at σ53 s n).bind fun p55 => (k_Requests_waitsFor F σ53 s n).bind fun p63 => if xc2 .eq p63 ((-1 : Int32)) = true then (k_Server_apply_b90 F K10 σ53 s n p55 p63) else ((crd σ53 12 s 5 p63).bind fun x73 => (crd σ53 9 s 1 (p55 + ((0 : Int32)))).bind fun x75 => if xc2 .ne x73 x75 = true then (k_Server_apply_b90 F K10 σ53 s n p55 p63) else (k_Server_apply_b91 F K10 σ53 ((1 : Int32)) s n p55 p63))) Q := by
  have h1 : RC (csI c 9 s 10 0 n) (aI a 76 s n) ((H, U), N) := RC_I h (by decide) (by decide)
  refine WP_b ?_
  generalize csI c 9 s 10 0 n = c1 at h1
  obtain ⟨i, i1, i2, i3, i4⟩ := aHas_i w hh
  have eat : k_Log_at c1 s n = some (Int32.ofNat (6 * i)) := by
    unfold k_Log_at k_Log_at_b0
    rw [K_r h1 (F := 55) (cl := 9) (f := 3) (by decide) hs]
    have e55 : aS (aI a 76 s n) 55 s = aBase a s := rfl
    have := at_i i2 0
    rw [e55, ← Nat.add_zero (6 * i), ← this, show Int32.ofNat 0 = (0 : Int32) from rfl, Int32.add_zero]
  have hent : aEnt a s n = (aLg a s).getD i aE0 := by
    unfold aEnt
    rw [i3]
    rfl
  have h300 := w.2.2.1
  have ewt := K_waits (F := F) (n := n) (by omega) h1 hs (show aS (aI a 76 s n) 52 s = 1 from hu) (dRq_un hd)
  have erq : aRq (aI a 76 s n) s = aRq a s := rfl
  rw [erq] at ewt
  refine WP_eq eat (WP_eq ewt ?_)
  have e1 : aApply1 a s n = (let a2 := aRqS (aMcS (aI a 76 s n) s (apR a s n).1) s ((aRq a s).filter (fun q => !(decide (q 6 = -1) && decide (q 4 = n))))
    match (aRq a s).find? (wtF n) with
    | none => a2
    | some q => if (aEnt a s n).2.1 = 2 ∧ (aEnt a s n).1 = q 5 ∧ ((apR a s n).2.1 = 0 ∨ (apR a s n).2.1 = 1) then aReply a2 s q (if (apR a s n).2.1 = 0 then 0 else 2) (if (apR a s n).2.1 = 0 then (apR a s n).2.2.1 else 0) (if (apR a s n).2.1 = 0 then (apR a s n).2.2.2 else []) else a2) := rfl
  cases hf : (aRq a s).find? (wtF n) with
  | none =>
    rw [hf] at e1
    dsimp only at e1 ⊢
    rw [if_pos (show xc2 .eq (-1 : Int32) (-1) = true by decide)]
    unfold k_Server_apply_b90 k_Server_apply_b91
    rw [if_pos (show xc2 .eq (-1 : Int32) (-1) = true by decide)]
    have eall : (aRq a s).filter (fun q => !(decide (q 6 = -1) && decide (q 4 = n))) = aRq a s := by
      rw [List.filter_eq_self]
      intro q hq
      have := List.find?_eq_none.mp hf q hq
      unfold wtF at this
      revert this
      cases (decide (q 6 = -1) && decide (q 4 = n)) with
      | false => exact fun _ => rfl
      | true => exact fun y => absurd rfl y
    rw [eall] at e1
    have h2 : RC c1 (aRqS (aI a 76 s n) s (aRq a s)) ((H, U), N) := by
      have e2 : aRqS (aI a 76 s n) s (aRq a s) = aI a 76 s n := aRqS_same (a := aI a 76 s n)
      rw [e2]
      exact h1
    refine K_ap106 (d := false) hF (aRq a s) h2 hs h300 i1 hent hE hst hb hn hH (fun y => absurd y (by decide)) (fun _ c' h' => k c' ?_)
    rw [e1]
    exact h'
  | some q =>
    rw [hf] at e1
    dsimp only at e1 ⊢
    have hq : q ∈ aRq a s := List.mem_of_find?_eq_some hf
    have hm : wtF n q = true := List.find?_some hf
    have hinj := rq_injC (h.2.2.2.2.1 s hs hu)
    obtain ⟨fe, ff⟩ := filter_one hd hq hm hinj
    obtain ⟨b, b1, b2, b3, b4, b5, b6⟩ := h1.2.2.2.2.1 s hs hu
    obtain ⟨q1, q2, q3, r1, r2, r3, r4, r5, r6⟩ := b4 q hq
    have hw : qN q % 32 < 32 := Nat.mod_lt _ (by omega)
    have hw1 : ¬ Int32.ofNat (qN q % 32) = -1 := fun y => by
      have y2 := congrArg Int32.toInt y
      rw [Int32.toInt_ofNat_of_lt (by omega), show (-1 : Int32).toInt = -1 by decide] at y2
      omega
    rw [if_neg (fun y => hw1 (c2_eq.mp y))]
    refine WP_eq (crd_n rfl (show qN q % 32 < 32 from hw) (by omega)) ?_
    have hrow0 : crd c1 9 s 1 (Int32.ofNat (6 * i) + 0) = some (kF (aEnt a s n) 0) := by
      rw [hent]
      exact K_row (a := aI a 76 s n) (j := 0) h1 hs i1 h300 (by omega) (i_ad (s := 0))
    refine WP_eq hrow0 ?_
    rw [r5]
    have k0 : kF (aEnt a s n) 0 = (aEnt a s n).1 := rfl
    rw [k0]
    -- the drop
    have drop : ∀ d : Bool, (d = true ↔ (aEnt a s n).1 = q 5) → WP (k_Server_apply_b91 F K10 c1 (aB d) s n (Int32.ofNat (6 * i)) (Int32.ofNat (qN q % 32))) Q := by
      intro d hdd
      unfold k_Server_apply_b91
      rw [if_neg (fun y => hw1 (c2_eq.mp y))]
      refine WP_call (K_drop1 (q := q) h1 hs hu hq) (fun c2 h2 => ?_)
      obtain ⟨h2, hsm⟩ := h2
      rw [erq, fe] at h2
      refine K_ap106 (d := d) hF _ h2 hs h300 i1 hent hE hst hb hn hH (fun y => ⟨q, qN q % 32, hw, rfl, hrq q hq, ((hsm 12 s 1 (fun z => absurd z.2.2 (by decide))).1 _).trans r1, ((hsm 12 s 2 (fun z => absurd z.2.2 (by decide))).1 _).trans r2, fun z1 z2 c' h' => k c' ?_⟩) (fun hno c' h' => k c' ?_)
      · rw [e1, if_pos ⟨z1, hdd.mp y, z2⟩]
        exact h'
      · rw [e1, if_neg (fun z => hno z.1 (hdd.mpr z.2.1) z.2.2)]
        exact h'
    refine WP_if c2_ne (fun z => ?_) (fun z => ?_)
    · unfold k_Server_apply_b90
      exact drop false ⟨fun y => absurd y (by decide), fun y => absurd y.symm z⟩
    · exact drop true ⟨fun _ => (Classical.not_not.mp z).symm, fun _ => rfl⟩
theorem mk_has {a : AA} {s : Nat} (mk : WMk a s) (w : WLg a s) (h : aS a 76 s < aS a 75 s) : aHas a s (aS a 76 s + 1) = true ∧ (aS a 76 s + 1).toInt = (aS a 76 s).toInt + 1 ∧ 0 ≤ aS a 76 s + 1 := by
  obtain ⟨m1, m2, m3, m4⟩ := mk
  obtain ⟨w1, w2, w3, w4⟩ := w
  rw [Int32.le_iff_toInt_le] at m1 m2 m3
  rw [Int32.lt_iff_toInt_lt] at h
  have e := i_succ (x := aS a 76 s) (by omega)
  refine ⟨?_, e, ?_⟩
  · unfold aHas
    rw [Bool.and_eq_true_iff]
    exact ⟨decide_eq_true (Int32.lt_iff_toInt_lt.mpr (by omega)), decide_eq_true (Int32.le_iff_toInt_le.mpr (by omega))⟩
  · rw [Int32.le_iff_toInt_le, e, i_0]
    omega
theorem ap1_mc {a : AA} {s : Nat} {n : Int32} : aMc (aApply1 a s n) s = (apR a s n).1 := by
  rw [aApply1_e]
  dsimp only
  split
  · exact if_pos rfl
  · split
    · rw [AFr_reply.2.2.2.2.1 (by decide)]
      exact if_pos rfl
    · exact if_pos rfl
theorem K_apply {F : Nat} {c : CS} {a : AA} {s : Nat} {H : List (Nat × Option AL)} {U : Nat → Int32} {N : Nat × Nat} (hF : 400 ≤ F) (h : RC c a ((H, U), N)) (hs : s < 7) (hu : aS a 52 s = 1) (w : WLg a s) (mk : WMk a s) (hd : dRq a s) (hrq : ∀ q ∈ aRq a s, aInR (q 1) 8 15 = true) (hK : ∀ k ∈ aAk a, wfK k) (hE : ∀ e ∈ aLg a s, wfE (aAk a) e) (hst : srtM (aMc a s)) (hb : sBel (aMc a s) (aS a 76 s + 1)) (hH : H.length ≤ 5) : WP (k_Server_apply F c s) (fun c' => RC c' (aApplyN s 300 a) ((H, U), N)) := by
  unfold k_Server_apply k_Server_apply_b0
  have hKl : ∀ k ∈ aAk a, k.2.length ≤ 300 ∧ ∀ x ∈ k.2, aLow8 x = x := fun k hk => ⟨Nat.le_trans (h.2.2.2.2.2.2.2.2.2.2.2.2.2.2.2.1.2.2.2.2.2.1 k hk) (by omega), (hK k hk).2.2⟩
  have key : ∀ (m f : Nat) (c : CS) (b : AA), m + 1 ≤ f → RC c b ((H, U), N) → aS b 52 s = 1 → WLg b s → WMk b s → dRq b s → (∀ q ∈ aRq b s, aInR (q 1) 8 15 = true) → aAk b = aAk a → aLg b s = aLg a s → srtM (aMc b s) → sBel (aMc b s) (aS b 76 s + 1) → (aS b 75 s).toInt - (aS b 76 s).toInt ≤ m → WP (k_Server_apply_b10 F f c s (aS b 76 s + 1)) (fun c' => RC c' (aApplyN s m b) ((H, U), N)) := by
    intro m
    induction m with
    | zero =>
      intro f c b g1 g2 g3 g4 g5 g6 g7 g8 g9 g10 g11 g12
      have hz : ¬ aS b 76 s < aS b 75 s := fun y => by
        rw [Int32.lt_iff_toInt_lt] at y
        omega
      cases f with
      | zero => omega
      | succ f =>
        unfold k_Server_apply_b10 k_Server_apply_b241
        dsimp only
        rw [K_r g2 (F := 75) (cl := 9) (f := 9) (by decide) hs, if_pos]
        · exact WP_some g2
        · obtain ⟨m1, m2, m3, m4⟩ := g5
          obtain ⟨w1, w2, w3, w4⟩ := g4
          rw [Int32.le_iff_toInt_le] at m1 m2 m3
          rw [c2_gt, Int32.lt_iff_toInt_lt, i_succ (by omega)]
          rw [Int32.lt_iff_toInt_lt] at hz
          omega
    | succ m ih =>
      intro f c b g1 g2 g3 g4 g5 g6 g7 g8 g9 g10 g11 g12
      cases f with
      | zero => omega
      | succ f =>
        unfold k_Server_apply_b10 k_Server_apply_b241
        dsimp only
        rw [K_r g2 (F := 75) (cl := 9) (f := 9) (by decide) hs]
        by_cases hz : aS b 76 s < aS b 75 s
        · obtain ⟨hh, hp, hn0⟩ := mk_has g5 g4 hz
          rw [if_neg (fun y => by
            have y := c2_gt.mp y
            rw [Int32.lt_iff_toInt_lt, hp] at y
            rw [Int32.lt_iff_toInt_lt] at hz
            omega)]
          refine WP_eq (K_logHas g2 hs) ?_
          rw [hh, if_neg (show ¬ xc0 .eq (aB true) = true by decide)]
          have eN : aApplyN s (m + 1) b = aApplyN s m (aApply1 b s (aS b 76 s + 1)) := if_pos hz
          rw [eN]
          have hmem : aEnt b s (aS b 76 s + 1) ∈ aLg a s := by
            obtain ⟨i, i1, i2, i3, i4⟩ := aHas_i g4 hh
            unfold aEnt
            rw [i3, ← g9, List.getD_eq_getElem?_getD, List.getElem?_eq_getElem i1]
            exact List.getElem_mem i1
          have hE2 : (aEnt b s (aS b 76 s + 1)).2.1 = 2 → cmdOK (aAk b) (aEnt b s (aS b 76 s + 1)) := fun y => by
            rw [g8]
            exact cmd_of (hE _ hmem) hK y
          have fr := @AFr_apply1 b s (aS b 76 s + 1)
          refine K_apply1 (by omega) g2 hs g3 g4 hh g6 g7 hE2 g10 g11 hn0 hH (fun c' h' => ?_)
          have e76 := @ap1_76 b s (aS b 76 s + 1)
          have emc := @ap1_mc b s (aS b 76 s + 1)
          have erq := @ap1_rq b s (aS b 76 s + 1)
          have hdr := dRq_ap (n := aS b 76 s + 1) g6
          generalize aApply1 b s (aS b 76 s + 1) = X at h' fr e76 emc erq hdr
          have f75 : aS X 75 s = aS b 75 s := fr.1 75 (by decide) s
          have f55 : aS X 55 s = aS b 55 s := fr.1 55 (by decide) s
          have f56 : aS X 56 s = aS b 56 s := fr.1 56 (by decide) s
          have f77 : aS X 77 s = aS b 77 s := fr.1 77 (by decide) s
          have flg : aLg X = aLg b := fr.2.2.2.1 (by decide)
          have hlt : (aS b 76 s + 1).toInt < 2147483647 := by
            obtain ⟨m1, m2, m3, m4⟩ := g5
            obtain ⟨w1, w2, w3, w4⟩ := g4
            rw [Int32.le_iff_toInt_le] at m1 m2 m3
            rw [Int32.lt_iff_toInt_lt] at hz
            omega
          have := ih f c' X (by omega) h' (by rw [fr.1 52 (by decide)]; exact g3) ?_ ?_ hdr ?_ (by rw [fr.2.2.2.2.2.2.2.2.2.2.2.1 (by decide)]; exact g8) (by rw [flg]; exact g9) ?_ ?_ (by rw [f75, e76, hp]; omega)
          · rw [e76] at this
            exact this
          · unfold WLg at g4 ⊢
            unfold aBase aLast at g4 ⊢
            rw [f55, f56, flg]
            exact g4
          · unfold WMk at g5 ⊢
            unfold aBase aLast at g5 ⊢
            rw [f55, f56, f75, f77, e76]
            refine ⟨?_, ?_, g5.2.2⟩
            · rw [Int32.le_iff_toInt_le, hp]
              have := g5.1
              rw [Int32.le_iff_toInt_le] at this
              omega
            · rw [Int32.le_iff_toInt_le, hp]
              rw [Int32.lt_iff_toInt_lt] at hz
              omega
          · intro q hq
            rw [erq] at hq
            exact g7 q (List.mem_filter.mp hq).1
          · rw [emc]
            unfold apR
            by_cases y : (aEnt b s (aS b 76 s + 1)).2.1 = 2
            · rw [if_pos y]
              exact perf_srt g10 (g2.2.2.2.2.2.2.2.2.2.2.2.1 s hs).1.1 (by rw [g8]; exact hKl)
            · rw [if_neg y]
              exact g10
          · rw [emc, e76]
            unfold apR
            by_cases y : (aEnt b s (aS b 76 s + 1)).2.1 = 2
            · rw [if_pos y]
              exact sBel_perf g11 hlt
            · rw [if_neg y]
              exact fun x hx => ⟨s_lt (g11 x hx).1 hlt, s_lt (g11 x hx).2 hlt⟩
        · rw [if_pos]
          · have e : aApplyN s (m + 1) b = b := aApplyN_z hz
            rw [e]
            exact WP_some g2
          · obtain ⟨m1, m2, m3, m4⟩ := g5
            obtain ⟨w1, w2, w3, w4⟩ := g4
            rw [Int32.le_iff_toInt_le] at m1 m2 m3
            rw [c2_gt, Int32.lt_iff_toInt_lt, i_succ (by omega)]
            rw [Int32.lt_iff_toInt_lt] at hz
            omega
  rw [K_r h (F := 76) (cl := 9) (f := 10) (by decide) hs]
  refine key 300 F c a (by omega) h hu w mk hd hrq rfl rfl hst hb ?_
  obtain ⟨m1, m2, m3, m4⟩ := mk
  obtain ⟨w1, w2, w3, w4⟩ := w
  rw [Int32.le_iff_toInt_le] at m1 m2 m3
  omega
