/-! a disk is read: slots, segments, the chain -/
theorem K_isSeg {c : CS} {a : AA} {v : CV} {s f : Nat} (h : RC c a v) (hs : s < 7) (hf : f < 16) : k_Disk_isSegment c s (Int32.ofNat f) = some (aB (aIsSeg a s f)) := by
  obtain ⟨p1, _⟩ := h.2.2.2.2.2.2.2.2.2.1 s hs f hf
  obtain ⟨a0, a1, _, _, _, _, _, _, _, a9, _⟩ := p1
  unfold k_Disk_isSegment k_Disk_isSegment_b0 k_Disk_isSegment_b30 k_Disk_isSegment_b31 aIsSeg aWholeHead
  rw [cix0 hf, if_pos (Or.inl rfl), if_pos (Or.inr rfl)]
  show (if xc0 .eq (cI c 11 (30 * s + cpg f) 0 0) = true then _ else if xc2 .lt (cI c 11 (30 * s + cpg f) 1 0) 24 = true then _ else _) = _
  rw [a0, a1]
  rcases a9 with q | q
  · rw [q, if_pos (by decide)]
    rfl
  · rw [q, if_neg (by decide)]
    by_cases z : 24 ≤ (aFc a s f).1 1
    · rw [if_neg (fun y => Int32.not_lt.mpr z (c2_lt.mp y)), decide_eq_true z]
      rfl
    · rw [if_pos (c2_lt.mpr (Int32.not_le.mp z)), decide_eq_false z]
      rfl
theorem K_later {c : CS} {a : AA} {v : CV} {s x y : Nat} {n : Int32} (h : RC c a v) (hs : s < 7) (hx : x < 16) (hy : y < 16) : k_Disk_later c s (Int32.ofNat x) (Int32.ofNat y) n = some (aLater a s x y n) := by
  obtain ⟨p1, _⟩ := h.2.2.2.2.2.2.2.2.2.1 s hs x hx
  obtain ⟨a0, a1, a2, _, _, _, _, _, _, a9, _⟩ := p1
  obtain ⟨p2, _⟩ := h.2.2.2.2.2.2.2.2.2.1 s hs y hy
  obtain ⟨b0, b1, b2, _, _, _, _, _, _, b9, _⟩ := p2
  have st2 : ∀ p : Bool, p = aWholeHead (aFc a s x) n → k_Disk_later_b30 c (aB p) s (Int32.ofNat x) (Int32.ofNat y) n = some (aLater a s x y n) := by
    intro p hp
    have st3 : ∀ q : Bool, q = aWholeHead (aFc a s y) n → k_Disk_later_b62 c (aB q) s (Int32.ofNat x) (Int32.ofNat y) (aB p) = some (aLater a s x y n) := by
      intro q hq
      unfold k_Disk_later_b62 k_Disk_later_b101 k_Disk_later_b120 k_Disk_later_b100 aLater
      rw [← hp, ← hq]
      cases p with
      | false =>
        rw [if_pos (by decide), if_pos (by decide), if_neg (show ¬ (false : Bool) = true by decide)]
        cases q with
        | false =>
          rw [if_pos (by decide), if_neg (show ¬ (false : Bool) = true by decide)]
        | true =>
          rw [if_neg (by decide), if_pos (show (true : Bool) = true from rfl)]
      | true =>
        rw [if_neg (show ¬ xc0 .eq (aB true) = true by decide), if_pos (show (true : Bool) = true from rfl)]
        cases q with
        | false =>
          rw [if_pos (by decide), if_neg (show ¬ xc0 .eq (aB true) = true by decide), if_neg (fun z => absurd z.1 (by decide))]
        | true =>
          rw [if_neg (by decide), cix0 hx, cix0 hy]
          show (if xc2 .le (cI c 11 (30 * s + cpg x) 2 0) (cI c 11 (30 * s + cpg y) 2 0) = true then _ else _) = _
          rw [a2, b2]
          by_cases z : (aFc a s x).1 2 ≤ (aFc a s y).1 2
          · rw [if_pos (c2_le.mpr z), if_pos ⟨rfl, Int32.not_lt.mpr z⟩]
          · rw [if_neg (fun w => z (c2_le.mp w)), if_neg (fun w => w.2 (Int32.not_le.mp z))]
    unfold k_Disk_later_b30 k_Disk_later_b61
    rw [cix0 hy]
    show (if xc0 .eq (cI c 11 (30 * s + cpg y) 0 0) = true then _ else if xc2 .lt (cI c 11 (30 * s + cpg y) 1 0) n = true then _ else _) = _
    rw [b0, b1]
    rcases b9 with w | w
    · rw [w, if_pos (by decide)]
      exact st3 false (by unfold aWholeHead; rw [w]; rfl)
    · rw [w, if_neg (by decide)]
      by_cases z : n ≤ (aFc a s y).1 1
      · rw [if_neg (fun u => Int32.not_lt.mpr z (c2_lt.mp u))]
        exact st3 true (by unfold aWholeHead; rw [w, decide_eq_true z]; rfl)
      · rw [if_pos (c2_lt.mpr (Int32.not_le.mp z))]
        exact st3 false (by unfold aWholeHead; rw [decide_eq_false z, Bool.and_false])
  unfold k_Disk_later k_Disk_later_b0 k_Disk_later_b29
  rw [cix0 hx]
  show (if xc0 .eq (cI c 11 (30 * s + cpg x) 0 0) = true then _ else if xc2 .lt (cI c 11 (30 * s + cpg x) 1 0) n = true then _ else _) = _
  rw [a0, a1]
  rcases a9 with w | w
  · rw [w, if_pos (by decide)]
    exact st2 false (by unfold aWholeHead; rw [w]; rfl)
  · rw [w, if_neg (by decide)]
    by_cases z : n ≤ (aFc a s x).1 1
    · rw [if_neg (fun u => Int32.not_lt.mpr z (c2_lt.mp u))]
      exact st2 true (by unfold aWholeHead; rw [w, decide_eq_true z]; rfl)
    · rw [if_pos (c2_lt.mpr (Int32.not_le.mp z))]
      exact st2 false (by unfold aWholeHead; rw [decide_eq_false z, Bool.and_false])
def fsJ (a : AA) (s : Nat) (o r : Option Nat) : Option Nat := match o with
  | none => r
  | some g => match r with
    | none => some g
    | some k => if (aFc a s k).1 2 ≤ (aFc a s g).1 2 then some g else some k
theorem segs_d : ∀ p, 4 ≤ p → p < 16 → aSegs.drop (p - 4) = p :: aSegs.drop (p - 4 + 1) := by
  intro p h1 h2
  have : ∀ q, q < 12 → aSegs.drop q = (q + 4) :: aSegs.drop (q + 1) := by decide
  have := this (p - 4) (by omega)
  rw [show p - 4 + 4 = p by omega] at this
  exact this
theorem le_tr {x y z : Int32} (h : x ≤ y) (h' : y ≤ z) : x ≤ z := by
  rw [Int32.le_iff_toInt_le] at *
  omega
theorem K_firstSeg {F : Nat} {c : CS} {a : AA} {v : CV} {s : Nat} {b : Int32} (hF : 16 ≤ F) (h : RC c a v) (hs : s < 7) : k_Disk_firstSegment F c s b = some (eB (aFirstSeg a s b aSegs)) := by
  have key : ∀ n p (o : Option Nat), 17 ≤ p + n → 4 ≤ p → p ≤ 16 → (∀ g, o = some g → g < 16) → k_Disk_firstSegment_b4 F n c s b (eB o) (Int32.ofNat p) = some (eB (fsJ a s o (aFirstSeg a s b (aSegs.drop (p - 4))))) := by
    intro n
    induction n with
    | zero => intro p o h1 h2; omega
    | succ n ih =>
      intro p o h1 h2 h3 ho
      unfold k_Disk_firstSegment_b4 k_Disk_firstSegment_b61 k_Disk_firstSegment_b59 k_Disk_firstSegment_b61
      dsimp only
      by_cases q : p = 16
      · subst q
        rw [if_pos (by decide)]
        have e : aSegs.drop (16 - 4) = [] := by decide
        rw [e]
        cases o with
        | none => rfl
        | some g => rfl
      · have hp : p < 16 := by omega
        have i1 := fun o ho => ih (p + 1) o (by omega) (by omega) (by omega) ho
        rw [show p + 1 - 4 = p - 4 + 1 by omega] at i1
        rw [if_neg (fun z => by
          have z := g2_ge.mp z
          rw [Int32.toInt_ofNat_of_lt (by omega), L_16] at z
          omega), K_isSeg h hs hp, i_s, segs_d p h2 hp]
        obtain ⟨p1, _⟩ := h.2.2.2.2.2.2.2.2.2.1 s hs p hp
        have a2 := p1.2.2.1
        generalize aSegs.drop (p - 4 + 1) = r at i1
        have eF : aFirstSeg a s b (p :: r) = match aFirstSeg a s b r with
          | none => if aIsSeg a s p && decide ((aFc a s p).1 2 ≤ b + 1) then some p else none
          | some g => if (aIsSeg a s p && decide ((aFc a s p).1 2 ≤ b + 1)) && decide ((aFc a s g).1 2 ≤ (aFc a s p).1 2) then some p else some g := rfl
        rw [eF]
        show (if xc0 .eq (aB (aIsSeg a s p)) = true then _ else (cix 6 0 (Int32.ofNat p)).bind _) = _
        have skip : (aIsSeg a s p && decide ((aFc a s p).1 2 ≤ b + 1)) = false → k_Disk_firstSegment_b4 F n c s b (eB o) (Int32.ofNat (p + 1)) = some (eB (fsJ a s o (match aFirstSeg a s b r with
          | none => if aIsSeg a s p && decide ((aFc a s p).1 2 ≤ b + 1) then some p else none
          | some g => if (aIsSeg a s p && decide ((aFc a s p).1 2 ≤ b + 1)) && decide ((aFc a s g).1 2 ≤ (aFc a s p).1 2) then some p else some g))) := by
          intro z
          rw [i1 o ho, z]
          cases aFirstSeg a s b r with
          | none => rfl
          | some g => rfl
        cases z1 : aIsSeg a s p with
        | false =>
          rw [if_pos (by decide)]
          have sk := skip (by rw [z1]; rfl)
          rw [z1] at sk
          exact sk
        | true =>
          rw [if_neg (by decide), cix0 hp]
          show (if xc2 .gt (cI c 11 (30 * s + cpg p) 2 0) (b + 1) = true then _ else _) = _
          rw [a2]
          by_cases z2 : (aFc a s p).1 2 ≤ b + 1
          · rw [if_neg (fun w => Int32.not_lt.mpr z2 (c2_gt.mp w)), decide_eq_true z2]
            have tk : k_Disk_firstSegment_b4 F n c s b (Int32.ofNat p) (Int32.ofNat (p + 1)) = some (eB (fsJ a s (some p) (aFirstSeg a s b r))) := i1 (some p) (fun g hg => by cases hg; exact hp)
            cases o with
            | none =>
              rw [if_pos (show xc2 .eq (eB none) (-1) = true by decide), tk]
              cases aFirstSeg a s b r with
              | none => rfl
              | some k =>
                show some (eB (if (aFc a s k).1 2 ≤ (aFc a s p).1 2 then some p else some k)) = some (eB (if (true && true && decide ((aFc a s k).1 2 ≤ (aFc a s p).1 2)) = true then some p else some k))
                by_cases w : (aFc a s k).1 2 ≤ (aFc a s p).1 2
                · rw [if_pos w, if_pos (by rw [decide_eq_true w]; rfl)]
                · rw [if_neg w, if_neg (by rw [decide_eq_false w]; decide)]
            | some g =>
              have hg := ho g rfl
              obtain ⟨g1, _⟩ := h.2.2.2.2.2.2.2.2.2.1 s hs g hg
              have g2 := g1.2.2.1
              rw [if_neg (fun w => by
                have w := c2_eq.mp w
                have w : Int32.ofNat g = -1 := w
                have w := congrArg Int32.toInt w
                rw [Int32.toInt_ofNat_of_lt (by omega), show (-1 : Int32).toInt = -1 by decide] at w
                omega), Option.bind_some, show eB (some g) = Int32.ofNat g from rfl, cix0 hg, Option.bind_some, a2, g2]
              have i2 : k_Disk_firstSegment_b4 F n c s b (Int32.ofNat g) (Int32.ofNat (p + 1)) = _ := i1 (some g) ho
              by_cases w : (aFc a s p).1 2 ≤ (aFc a s g).1 2
              · rw [if_pos (c2_le.mpr w), i2]
                cases aFirstSeg a s b r with
                | none =>
                  show some (eB (some g)) = some (eB (if (aFc a s p).1 2 ≤ (aFc a s g).1 2 then some g else some p))
                  rw [if_pos w]
                | some k =>
                  show some (eB (if (aFc a s k).1 2 ≤ (aFc a s g).1 2 then some g else some k)) = some (eB (fsJ a s (some g) (if (true && true && decide ((aFc a s k).1 2 ≤ (aFc a s p).1 2)) = true then some p else some k)))
                  by_cases y : (aFc a s k).1 2 ≤ (aFc a s p).1 2
                  · rw [if_pos (le_tr y w), if_pos (show (true && true && decide ((aFc a s k).1 2 ≤ (aFc a s p).1 2)) = true by rw [decide_eq_true y]; rfl)]
                    show _ = some (eB (if (aFc a s p).1 2 ≤ (aFc a s g).1 2 then some g else some p))
                    rw [if_pos w]
                  · rw [if_neg (show ¬ (true && true && decide ((aFc a s k).1 2 ≤ (aFc a s p).1 2)) = true by rw [decide_eq_false y]; decide)]
                    rfl
              · rw [if_neg (fun y => w (c2_le.mp y)), tk]
                have w2 : (aFc a s g).1 2 ≤ (aFc a s p).1 2 := Int32.le_of_lt (Int32.not_le.mp w)
                cases aFirstSeg a s b r with
                | none =>
                  show some (eB (some p)) = some (eB (if (aFc a s p).1 2 ≤ (aFc a s g).1 2 then some g else some p))
                  rw [if_neg w]
                | some k =>
                  show some (eB (if (aFc a s k).1 2 ≤ (aFc a s p).1 2 then some p else some k)) = some (eB (fsJ a s (some g) (if (true && true && decide ((aFc a s k).1 2 ≤ (aFc a s p).1 2)) = true then some p else some k)))
                  by_cases y : (aFc a s k).1 2 ≤ (aFc a s p).1 2
                  · rw [if_pos y, if_pos (show (true && true && decide ((aFc a s k).1 2 ≤ (aFc a s p).1 2)) = true by rw [decide_eq_true y]; rfl)]
                    show _ = some (eB (if (aFc a s p).1 2 ≤ (aFc a s g).1 2 then some g else some p))
                    rw [if_neg w]
                  · rw [if_neg y, if_neg (show ¬ (true && true && decide ((aFc a s k).1 2 ≤ (aFc a s p).1 2)) = true by rw [decide_eq_false y]; decide)]
                    show _ = some (eB (if (aFc a s k).1 2 ≤ (aFc a s g).1 2 then some g else some k))
                    rw [if_neg (fun z => y (le_tr z w2))]
          · rw [if_pos (c2_gt.mpr (Int32.not_le.mp z2))]
            have sk := skip (by rw [decide_eq_false z2, Bool.and_false])
            rw [z1] at sk
            exact sk
  have k0 := key F 4 none (by omega) (Nat.le_refl _) (by omega) (fun g hg => by cases hg)
  unfold k_Disk_firstSegment k_Disk_firstSegment_b0
  exact k0
theorem K_tells {c : CS} {q : Nat} {F : AF} {n t : Int32} (h : PG c q F) : k_Disk_tellsTerm c q n t = some (aB (aTells F n t)) := by
  obtain ⟨_, _, f2, f3, _, f5, f6, f7, f8, _, f10, _⟩ := h
  have el := Int32.toInt_ofNat_of_lt (n := (aWhole F).length) (by omega)
  have cmp : ∀ x y : Int32, k_Disk_tellsTerm_b45 c x y = some (aB (decide (x = y))) := by
    intro x y
    unfold k_Disk_tellsTerm_b45 k_Disk_tellsTerm_b53
    rw [if_pos (Or.inl rfl), if_pos (Or.inr rfl)]
    by_cases z : x = y
    · rw [if_neg (fun w => c2_ne.mp w z), decide_eq_true z]
      rfl
    · rw [if_pos (c2_ne.mpr z), decide_eq_false z]
      rfl
  unfold k_Disk_tellsTerm k_Disk_tellsTerm_b0 k_Disk_tellsTerm_b20 aTells
  rw [f2, f5, f3]
  dsimp only
  generalize n - F.1 2 = k
  by_cases q1 : k < -1
  · rw [if_pos (c2_lt.mpr q1), if_pos (Or.inl q1), if_pos (Or.inl rfl)]
    rfl
  rw [if_neg (fun z => q1 (c2_lt.mp z))]
  by_cases q2 : Int32.ofNat (aWhole F).length ≤ k
  · rw [if_neg (fun z => Int32.not_lt.mpr q2 (c2_lt.mp z)), if_pos (Or.inr q2), if_pos (Or.inl rfl)]
    rfl
  rw [if_pos (c2_lt.mpr (Int32.not_le.mp q2)), if_neg (show ¬ (k < -1 ∨ Int32.ofNat (aWhole F).length ≤ k) from fun z => z.elim q1 q2)]
  by_cases q3 : k < 0
  · rw [if_neg (fun z => Int32.not_lt.mpr (c0_ge.mp z) q3), if_pos q3]
    exact cmp _ _
  · rw [if_pos (c0_ge.mpr (Int32.not_lt.mp q3)), if_neg q3]
    obtain ⟨ex, ex2⟩ := i_ofx q3
    have hk : k.toNatClampNeg < (aWhole F).length := by
      rw [Int32.le_iff_toInt_le, el] at q2
      omega
    have ei : k * 6 + 0 = Int32.ofNat (6 * k.toNatClampNeg) := by
      rw [Int32.add_zero, show (6 : Int32) = Int32.ofNat 6 from rfl]
      conv => lhs; rw [ex]
      rw [← Int32.ofNat_mul, Nat.mul_comm]
    rw [ei, crd_n (c := c) (cl := 11) (i := q) (f := 6) rfl (show 6 * k.toNatClampNeg < cL c 11 q 6 by omega) (by omega)]
    show k_Disk_tellsTerm_b45 c t (cI c 11 q 6 (6 * k.toNatClampNeg)) = _
    have e6 := (f6 _ hk).1 0 (by omega)
    rw [Nat.add_zero] at e6
    rw [e6]
    exact cmp _ _
theorem K_lastT {c : CS} {q : Nat} {F : AF} {e : AE} (h : PG c q F) (he : (aWhole F).getLast? = some e) : k_Page_lastTerm c q = some e.1 := by
  obtain ⟨_, _, f2, f3, _, f5, f6, f7, f8, _, f10, _⟩ := h
  have hl : 1 ≤ (aWhole F).length := by
    cases hw : aWhole F with
    | nil =>
      rw [hw] at he
      cases he
    | cons x r => exact Nat.succ_le_succ (Nat.zero_le _)
  have eg : (aWhole F).getD ((aWhole F).length - 1) aE0 = e := by
    rw [List.getLast?_eq_getElem?] at he
    rw [List.getD_eq_getElem?_getD, he]
    rfl
  unfold k_Page_lastTerm k_Page_lastTerm_b0 k_Page_lastTerm_b30
  rw [f5, if_neg (fun z => by
    have z := c0_le.mp z
    rw [Int32.le_iff_toInt_le, Int32.toInt_ofNat_of_lt (by omega), i_0] at z
    omega)]
  have ei : (Int32.ofNat (aWhole F).length - 1) * 6 + 0 = Int32.ofNat (6 * ((aWhole F).length - 1)) := by
    rw [Int32.add_zero, i_pre hl, show (6 : Int32) = Int32.ofNat 6 from rfl, ← Int32.ofNat_mul, Nat.mul_comm]
  rw [ei, crd_n (c := c) (cl := 11) (i := q) (f := 6) rfl (show 6 * ((aWhole F).length - 1) < cL c 11 q 6 by omega) (by omega)]
  have e6 := (f6 ((aWhole F).length - 1) (by omega)).1 0 (by omega)
  rw [Nat.add_zero, eg] at e6
  exact congrArg some e6
theorem K_segAt {F : Nat} {c : CS} {a : AA} {v : CV} {s : Nat} {n t : Int32} (hF : 16 ≤ F) (h : RC c a v) (hs : s < 7) : k_Disk_segmentAt F c s n t = some (eB (aSegAt a s n t)) := by
  have key : ∀ m p, 17 ≤ p + m → 4 ≤ p → p ≤ 16 → k_Disk_segmentAt_b2 F m c s n t (Int32.ofNat p) = some (eB ((aSegs.drop (p - 4)).find? (fun f => aIsSeg a s f && decide ((aFc a s f).1 2 = n) && decide ((aFc a s f).1 3 = t)))) := by
    intro m
    induction m with
    | zero => intro p h1 h2; omega
    | succ m ih =>
      intro p h1 h2 h3
      unfold k_Disk_segmentAt_b2 k_Disk_segmentAt_b44
      dsimp only
      by_cases q : p = 16
      · subst q
        rw [if_pos (by decide)]
        have e : aSegs.drop (16 - 4) = [] := by decide
        rw [e]
        rfl
      · have hp : p < 16 := by omega
        have i1 := ih (p + 1) (by omega) (by omega) (by omega)
        rw [show p + 1 - 4 = p - 4 + 1 by omega] at i1
        rw [if_neg (fun z => by
          have z := g2_ge.mp z
          rw [Int32.toInt_ofNat_of_lt (by omega), L_16] at z
          omega), K_isSeg h hs hp, i_s, segs_d p h2 hp, i1, List.find?_cons]
        obtain ⟨p1, _⟩ := h.2.2.2.2.2.2.2.2.2.1 s hs p hp
        have a2 := p1.2.2.1
        have a3 := p1.2.2.2.1
        show (if xc0 .eq (aB (aIsSeg a s p)) = true then _ else (cix 6 0 (Int32.ofNat p)).bind _) = _
        cases z1 : aIsSeg a s p with
        | false =>
          rw [if_pos (by decide)]
          rfl
        | true =>
          rw [if_neg (by decide), cix0 hp]
          show (if xc2 .ne (cI c 11 (30 * s + cpg p) 2 0) n = true then _ else if xc2 .ne (cI c 11 (30 * s + cpg p) 3 0) t = true then _ else _) = _
          rw [a2, a3]
          by_cases z2 : (aFc a s p).1 2 = n
          · rw [if_neg (fun w => c2_ne.mp w z2), decide_eq_true z2]
            by_cases z3 : (aFc a s p).1 3 = t
            · rw [if_neg (fun w => c2_ne.mp w z3), decide_eq_true z3]
              rfl
            · rw [if_pos (c2_ne.mpr z3), decide_eq_false z3]
              rfl
          · rw [if_pos (c2_ne.mpr z2), decide_eq_false z2]
            rfl
  unfold k_Disk_segmentAt k_Disk_segmentAt_b0
  exact key F 4 (by omega) (Nat.le_refl _) (by omega)
theorem chain_le {a : AA} {s : Nat} : ∀ n m f, (aChain a s n f).length < n → n ≤ m → aChain a s m f = aChain a s n f := by
  intro n
  induction n with
  | zero => intro m f h; exact absurd h (Nat.not_lt_zero _)
  | succ n ih =>
    intro m f h hm
    obtain ⟨m', rfl⟩ : ∃ m', m = m' + 1 := ⟨m - 1, by omega⟩
    unfold aChain at h ⊢
    dsimp only at h ⊢
    cases hl : (aWhole (aFc a s f)).getLast? with
    | none => rfl
    | some e =>
      rw [hl] at h
      dsimp only at h ⊢
      cases hg : aSegAt a s ((aFc a s f).1 2 + Int32.ofNat (aWhole (aFc a s f)).length) e.1 with
      | none => rfl
      | some g =>
        rw [hg] at h
        dsimp only at h ⊢
        rw [List.length_cons] at h
        rw [ih m' g (by omega) (by omega)]
theorem segAt_lt {a : AA} {s g : Nat} {n t : Int32} (h : aSegAt a s n t = some g) : 4 ≤ g ∧ g < 16 := by
  unfold aSegAt at h
  have := List.mem_of_find?_eq_some h
  have k : ∀ x ∈ aSegs, 4 ≤ x ∧ x < 16 := by decide
  exact k g this
/-- the chain is written down -/
theorem K_chainL {F : Nat} {c0 : CS} {a : AA} {v : CV} {s : Nat} (hF : 20 ≤ F) (h : RC c0 a v) (hs : s < 7) : ∀ n m c ch (o : Option Nat), PX 6 s [4, 5] c0 c → KCh c s ch → ch.length + n = 12 → n + 2 ≤ m → (∀ g, o = some g → 4 ≤ g ∧ g < 16) → (∀ f, o = some f → (aChain a s (n + 1) f).length ≤ n) →
    WP (k_Disk_findChain_b81 F m c s (eB o)) (fun c' => PX 6 s [4, 5] c0 c' ∧ KCh c' s (ch ++ match o with
      | none => []
      | some f => aChain a s n f)) := by
  intro n
  induction n with
  | zero =>
    intro m c ch o P hc hl hm ho hch
    cases o with
    | some f =>
      have := hch f rfl
      unfold aChain at this
      dsimp only at this
      rw [List.length_cons] at this
      omega
    | none =>
      obtain ⟨m', rfl⟩ : ∃ m', m = m' + 1 := ⟨m - 1, by omega⟩
      unfold k_Disk_findChain_b81 k_Disk_findChain_b159
      dsimp only
      rw [if_pos (show xc2 .eq (eB none) (-1) = true by decide)]
      rw [List.append_nil]
      exact WP_some ⟨P, hc⟩
  | succ n ih =>
    intro m c ch o P hc hl hm ho hch
    obtain ⟨m', rfl⟩ : ∃ m', m = m' + 1 := ⟨m - 1, by omega⟩
    unfold k_Disk_findChain_b81 k_Disk_findChain_b159
    dsimp only
    cases o with
    | none =>
      rw [if_pos (show xc2 .eq (eB none) (-1) = true by decide)]
      rw [List.append_nil]
      exact WP_some ⟨P, hc⟩
    | some f =>
      obtain ⟨f4, f16⟩ := ho f rfl
      have hcf := hch f rfl
      obtain ⟨k1, k2, k3⟩ := id hc
      rw [if_neg (fun w => by
        have w := c2_eq.mp w
        have w : Int32.ofNat f = -1 := w
        have w := congrArg Int32.toInt w
        rw [Int32.toInt_ofNat_of_lt (by omega), show (-1 : Int32).toInt = -1 by decide] at w
        omega), k1, if_neg (fun w => by
        have w := g2_ge.mp w
        rw [Int32.toInt_ofNat_of_lt (by omega), L_16] at w
        omega)]
      show WP ((cwr c 6 s 4 (Int32.ofNat ch.length) (Int32.ofNat f)).bind _) _
      refine WP_eq (cwr_n rfl (show ch.length < 16 by omega) (by omega)) (WP_b ?_)
      rw [show cI (csI c 6 s 4 ch.length (Int32.ofNat f)) 6 s 5 0 = Int32.ofNat ch.length from (csI_f (by decide)).trans k1, i_s]
      have P2 : PX 6 s [4, 5] c0 (csI (csI c 6 s 4 ch.length (Int32.ofNat f)) 6 s 5 0 (Int32.ofNat (ch.length + 1))) := PX_t P (PX_t (PX_I (by decide)) (PX_I (by decide)))
      have hc2 : KCh (csI (csI c 6 s 4 ch.length (Int32.ofNat f)) 6 s 5 0 (Int32.ofNat (ch.length + 1))) s (ch ++ [f]) := by
        refine KCh_push hc ⟨f4, f16⟩ (by omega) csI_e (fun i => ?_)
        rw [csI_f (show (4 : Nat) ≠ 5 by decide)]
        by_cases q : i = ch.length
        · rw [if_pos q, q]
          exact csI_e
        · rw [if_neg q]
          exact csI_j q
      generalize csI (csI c 6 s 4 ch.length (Int32.ofNat f)) 6 s 5 0 (Int32.ofNat (ch.length + 1)) = c2 at P2 hc2
      rw [show eB (some f) = Int32.ofNat f from rfl, cix0 f16]
      refine WP_b ?_
      have h2 : RC c2 (aChS a s (ch ++ [f])) v := RC_ch h (PX_k P2 (Or.inr rfl) (by decide)) P2.2.1 hc2
      obtain ⟨y1, _⟩ := h2.2.2.2.2.2.2.2.2.2.1 s hs f f16
      have y1 : PG c2 (30 * s + cpg f) (aFc a s f) := y1
      have e2 := y1.2.2.1
      have e5 := y1.2.2.2.2.2.1
      have el : (aWhole (aFc a s f)).length ≤ 320 := y1.2.2.2.2.2.2.2.2.2.2.1
      rw [e2, e5]
      have eC : aChain a s (n + 1) f = f :: match (aWhole (aFc a s f)).getLast? with
        | none => []
        | some e => match aSegAt a s ((aFc a s f).1 2 + Int32.ofNat (aWhole (aFc a s f)).length) e.1 with
          | none => []
          | some g => aChain a s n g := rfl
      have eC2 : aChain a s (n + 1 + 1) f = f :: match (aWhole (aFc a s f)).getLast? with
        | none => []
        | some e => match aSegAt a s ((aFc a s f).1 2 + Int32.ofNat (aWhole (aFc a s f)).length) e.1 with
          | none => []
          | some g => aChain a s (n + 1) g := rfl
      have sa : ∀ n t, aSegAt (aChS a s (ch ++ [f])) s n t = aSegAt a s n t := fun _ _ => rfl
      dsimp only
      rw [eC]
      cases hl2 : (aWhole (aFc a s f)).getLast? with
      | none =>
        have l0 : (aWhole (aFc a s f)).length = 0 := by
          rw [List.getLast?_eq_none_iff.mp hl2]
          rfl
        rw [l0]
        refine WP_if c0_ne (fun z => absurd rfl z) (fun _ => ?_)
        unfold k_Disk_findChain_b155
        have i1 := ih m' c2 (ch ++ [f]) none P2 hc2 (by rw [List.length_append]; show ch.length + 1 + n = 12; omega) (by omega) (fun g hg => by cases hg) (fun g hg => by cases hg)
        rw [List.append_nil] at i1
        exact i1
      | some e =>
        have l1 : ¬ Int32.ofNat (aWhole (aFc a s f)).length = 0 := by
          intro z
          have z := congrArg Int32.toInt z
          rw [Int32.toInt_ofNat_of_lt (by omega), i_0] at z
          have : aWhole (aFc a s f) = [] := List.length_eq_zero_iff.mp (by omega)
          rw [this] at hl2
          cases hl2
        refine WP_if c0_ne (fun _ => ?_) (fun z => absurd l1 z)
        rw [K_lastT y1 hl2]
        refine WP_b ?_
        rw [K_segAt (by omega) h2 hs, sa]
        refine WP_b ?_
        unfold k_Disk_findChain_b155
        rw [eC2, hl2] at hcf
        dsimp only at hcf ⊢
        cases hg : aSegAt a s ((aFc a s f).1 2 + Int32.ofNat (aWhole (aFc a s f)).length) e.1 with
        | none =>
          have i1 := ih m' c2 (ch ++ [f]) none P2 hc2 (by rw [List.length_append]; show ch.length + 1 + n = 12; omega) (by omega) (fun g hg => by cases hg) (fun g hg => by cases hg)
          rw [List.append_nil] at i1
          exact i1
        | some g =>
          rw [hg] at hcf
          dsimp only at hcf ⊢
          rw [List.length_cons] at hcf
          have i1 := ih m' c2 (ch ++ [f]) (some g) P2 hc2 (by rw [List.length_append]; show ch.length + 1 + n = 12; omega) (by omega) (fun x hx => by cases hx; exact segAt_lt hg) (fun x hx => by cases hx; omega)
          rw [List.append_assoc] at i1
          exact i1
/-! a disk is read: what is found is kept, the rest goes -/
theorem RC_47n {c : CS} {a : AA} {v : CV} {s : Nat} {x : Int32} (h : RC c a v) (hd : aS a 52 s = 0) : RC (csI c 6 s 9 0 x) (aI a 47 s x) v := by
  have hF : Ck [201] s c (csI c 6 s 9 0 x) := Ck_I (cl := 6) (i := s) (f := 9) (Or.inr rfl)
  have e := eI1 (a := a) (f := 47) (i := s) (x := x)
  have hsh : ∀ t, t < 7 → aS (aI a 47 s x) 52 t = 1 → shOK (aI a 47 s x) t := by
    intro t ht hu
    rw [e 52 (by decide)] at hu
    have q : t ≠ s := fun z => by rw [z, hd] at hu; exact absurd hu (by decide)
    exact shOK_f (h.2.2.2.2.2.2.2.2.2.2.2.2.2.2.2.2.2.2.2.2.2.1 t ht hu) (if_neg (fun z => q z.2)) (aS_If (by decide)) rfl (fun _ _ => rfl)
  exact ⟨KSc_I (by decide) h.1, fr_k hF (by decide) e (by decide) h.2.1, hd_k hF (by decide) e (by decide) h.2.2.1, ld_k hF (by decide) e (by decide) h.2.2.2.1, rq_k hF (by decide) e (by decide) rfl h.2.2.2.2.1, bl_k hF (by decide) e (by decide) h.2.2.2.2.2.1, da_k hF (by decide) e (by decide) rfl h.2.2.2.2.2.2.1, lw_k hF (by decide) e (by decide) h.2.2.2.2.2.2.2.1, fun s hs => KG_fr hF (by decide) (h.2.2.2.2.2.2.2.2.1 s hs), fun s hs => KPg_fr hF (by decide) (h.2.2.2.2.2.2.2.2.2.1 s hs), fun s hs => KCh_fr hF (by decide) (h.2.2.2.2.2.2.2.2.2.2.1 s hs), fun s hs => KMc_fr hF (by decide) (h.2.2.2.2.2.2.2.2.2.2.2.1 s hs), pc_k hF (by decide) e (by decide) rfl h.2.2.2.2.2.2.2.2.2.2.2.2.1, cl_k hF (by decide) e (by decide) h.2.2.2.2.2.2.2.2.2.2.2.2.2.1, fun k hk => KDn_fr hF (by decide) (h.2.2.2.2.2.2.2.2.2.2.2.2.2.2.1 k hk), KAk_fr hF (by decide) h.2.2.2.2.2.2.2.2.2.2.2.2.2.2.2.1, KFc_fr hF (by decide) h.2.2.2.2.2.2.2.2.2.2.2.2.2.2.2.2.1, id_k hF (by decide) e (by decide) h.2.2.2.2.2.2.2.2.2.2.2.2.2.2.2.2.2.1, fun k hk => KIc_fr hF (by decide) (h.2.2.2.2.2.2.2.2.2.2.2.2.2.2.2.2.2.2.1 k hk), KLt_fr hF rfl (by decide) h.2.2.2.2.2.2.2.2.2.2.2.2.2.2.2.2.2.2.2.1, KRm_fr hF rfl (by decide) h.2.2.2.2.2.2.2.2.2.2.2.2.2.2.2.2.2.2.2.2.1, hsh, nw_k e (by decide) h.2.2.2.2.2.2.2.2.2.2.2.2.2.2.2.2.2.2.2.2.2.2⟩
def cB (a : AA) (s : Nat) (b T : Int32) : Prop := (aS a 47 s = -1 ∧ b = 0 ∧ T = 0) ∨ ∃ f, f < 16 ∧ aS a 47 s = Int32.ofNat f ∧ b = (aFc a s f).1 2 ∧ T = (aFc a s f).1 3
theorem K_findChain {F : Nat} {c : CS} {a : AA} {v : CV} {s : Nat} {b T : Int32} (hF : 40 ≤ F) (h : RC c a v) (hs : s < 7) (hb : cB a s b T) (hl : ∀ f, aFirstSeg a s b aSegs = some f → (aChain a s 13 f).length ≤ 12) : WP (k_Disk_findChain F c s) (fun c' => RC c' (aChS a s (recC a s b T)) v ∧ PX 6 s [4, 5] c c') := by
  have P0 : PX 6 s [4, 5] c (csI c 6 s 5 0 0) := PX_I (by decide)
  have hc0 : KCh (csI c 6 s 5 0 0) s [] := ⟨csI_e, Nat.zero_le _, fun i hi => absurd hi (Nat.not_lt_zero _)⟩
  have h0 : RC (csI c 6 s 5 0 0) (aChS a s []) v := RC_ch h (PX_k P0 (Or.inr rfl) (by decide)) P0.2.1 hc0
  have e47 : cI (csI c 6 s 5 0 0) 6 s 9 0 = aS a 47 s := by
    have := K_r h0 (F := 47) (cl := 6) (f := 9) (by decide) hs
    exact this
  unfold k_Disk_findChain k_Disk_findChain_b0 k_Disk_findChain_b29
  refine WP_b ?_
  generalize csI c 6 s 5 0 0 = c0 at P0 hc0 h0 e47
  rw [e47]
  have last : WP (k_Disk_findChain_b54 F c0 T s b) (fun c' => RC c' (aChS a s (recC a s b T)) v ∧ PX 6 s [4, 5] c c') := by
    unfold k_Disk_findChain_b54 k_Disk_findChain_b80
    rw [K_firstSeg (by omega) h0 hs, first_c (a := aChS a s []) (a' := a) rfl]
    refine WP_b ?_
    unfold recC
    cases hf : aFirstSeg a s b aSegs with
    | none =>
      rw [if_pos (show xc2 .eq (eB none) (-1) = true by decide)]
      exact WP_some ⟨h0, P0⟩
    | some f =>
      obtain ⟨i1, _, _, _⟩ := first_mem hf
      obtain ⟨f4, f16⟩ := seg_mem.mp i1
      dsimp only
      rw [if_neg (fun w => by
        have w := c2_eq.mp w
        have w : Int32.ofNat f = -1 := w
        have w := congrArg Int32.toInt w
        rw [Int32.toInt_ofNat_of_lt (by omega), show (-1 : Int32).toInt = -1 by decide] at w
        omega)]
      show WP ((cix 6 0 (Int32.ofNat f)).bind _) _
      rw [cix0 f16]
      obtain ⟨y1, _⟩ := h0.2.2.2.2.2.2.2.2.2.1 s hs f f16
      have y1 : PG c0 (30 * s + cpg f) (aFc a s f) := y1
      refine WP_b ?_
      rw [K_tells y1]
      refine WP_b ?_
      cases ht : aTells (aFc a s f) b T with
      | false =>
        rw [if_neg (show ¬ xc0 .ne (aB false) = true by decide), if_neg (show ¬ (false : Bool) = true by decide)]
        exact WP_some ⟨h0, P0⟩
      | true =>
        rw [if_pos (c0_ne.mpr (show ¬ aB true = 0 by decide)), if_pos (show (true : Bool) = true from rfl)]
        refine WP_mono (K_chainL (by omega) h hs 12 F c0 [] (some f) P0 hc0 rfl (by omega) (fun g hg => by cases hg; exact ⟨f4, f16⟩) (fun g hg => by cases hg; exact hl f hf)) (fun c' hc' => ?_)
        obtain ⟨P', k'⟩ := hc'
        exact ⟨RC_ch h (PX_k P' (Or.inr rfl) (by decide)) P'.2.1 k', P'⟩
  rcases hb with ⟨z1, z2, z3⟩ | ⟨f, z1, z2, z3, z4⟩
  · rw [z1, if_neg (show ¬ xc2 .ne (-1 : Int32) (-1) = true by decide), if_neg (show ¬ xc2 .ne (-1 : Int32) (-1) = true by decide)]
    subst z2
    subst z3
    exact last
  · obtain ⟨y1, _⟩ := h0.2.2.2.2.2.2.2.2.2.1 s hs f z1
    have y1 : PG c0 (30 * s + cpg f) (aFc a s f) := y1
    have n1 : xc2 .ne (Int32.ofNat f) (-1) = true := c2_ne.mpr (fun w => by
      have w := congrArg Int32.toInt w
      rw [Int32.toInt_ofNat_of_lt (by omega), show (-1 : Int32).toInt = -1 by decide] at w
      omega)
    rw [z2, if_pos n1, cix0 z1]
    refine WP_b ?_
    rw [if_pos n1]
    refine WP_b ?_
    rw [y1.2.2.1, y1.2.2.2.1, ← z3, ← z4]
    exact last
theorem K_isChained {F : Nat} {c : CS} {s f : Nat} {ch : List Nat} (hF : 14 ≤ F) (h : KCh c s ch) (hf : f < 16) : k_Disk_isChained F c s (Int32.ofNat f) = some (aB (decide (f ∈ ch))) := by
  obtain ⟨h1, h2, h3⟩ := h
  have key : ∀ n i, ch.length + 1 ≤ i + n → i ≤ ch.length → k_Disk_isChained_b2 F n c s (Int32.ofNat f) (Int32.ofNat i) = some (aB (decide (f ∈ ch.drop i))) := by
    intro n
    induction n with
    | zero => intro i a1 a2; omega
    | succ n ih =>
      intro i a1 a2
      unfold k_Disk_isChained_b2
      dsimp only
      rw [h1, if_pos (Or.inl rfl), if_pos (Or.inr rfl)]
      by_cases q : i = ch.length
      · subst q
        rw [if_pos ((i_gei (by omega) (by omega)).mpr (Nat.le_refl _)), List.drop_of_length_le (Nat.le_refl _)]
        rfl
      · have hi : i < ch.length := by omega
        rw [if_neg (fun z => q (by have := (i_gei (by omega) (by omega)).mp z; omega)), crd_n (c := c) (cl := 6) (i := s) (f := 4) rfl (show i < 16 by omega) (by omega)]
        obtain ⟨g1, g2, g3⟩ := h3 i hi
        show (if xc2 .ne (cI c 6 s 4 i) (Int32.ofNat f) = true then _ else _) = _
        have eg : ch.getD i 0 = ch[i] := by
          rw [List.getD_eq_getElem?_getD, List.getElem?_eq_getElem hi]
          rfl
        rw [g3, List.drop_eq_getElem_cons hi, eg]
        rw [eg] at g2
        by_cases z : ch[i] = f
        · rw [z, if_neg (fun w => c2_ne.mp w rfl), decide_eq_true List.mem_cons_self]
          rfl
        · rw [if_pos (c2_ne.mpr (fun w => z (by
            have w := congrArg Int32.toInt w
            rw [Int32.toInt_ofNat_of_lt (by omega), Int32.toInt_ofNat_of_lt (by omega)] at w
            omega))), i_s, ih (i + 1) (by omega) (by omega)]
          have e : decide (f ∈ ch.drop (i + 1)) = decide (f ∈ ch[i] :: ch.drop (i + 1)) := by
            rw [decide_eq_decide, List.mem_cons]
            exact ⟨Or.inr, fun w => w.resolve_left (fun y => z y.symm)⟩
          rw [e]
  unfold k_Disk_isChained k_Disk_isChained_b0
  exact key F 0 (by omega) (Nat.zero_le _)
/-! a file cut behind its last whole entry -/
theorem wholes_le {es : List AE} : ∀ {n : Int}, aWholes es n ≤ es.length := by
  induction es with
  | nil => intro n; exact Nat.le_refl _
  | cons e r ih =>
    intro n
    unfold aWholes
    split
    · exact Nat.succ_le_succ ih
    · exact Nat.zero_le _
theorem wholes_sum : ∀ (es : List AE) (k : Nat), (∀ e ∈ es, eOK e) → k ≤ es.length → aWholes es ((es.take k).map aEsz).sum = k
  | [], k, _, hk => by
    have : k = 0 := by have : k ≤ 0 := hk; omega
    rw [this]
    rfl
  | e :: r, 0, h, _ => by
    have h25 := eOK_25 h e List.mem_cons_self
    unfold aWholes
    rw [if_neg (by
      show ¬ aEsz e ≤ 0
      omega)]
  | e :: r, k + 1, h, hk => by
    have ih := wholes_sum r k (fun x hx => h x (List.mem_cons_of_mem _ hx)) (by rw [List.length_cons] at hk; omega)
    have h0 : 0 ≤ ((r.take k).map aEsz).sum := by
      have : ∀ l : List AE, (∀ x ∈ l, eOK x) → 0 ≤ (l.map aEsz).sum := by
        intro l
        induction l with
        | nil => exact fun _ => Int.le_refl _
        | cons x q i2 =>
          intro hh
          rw [List.map_cons, List.sum_cons]
          have := i2 (fun y hy => hh y (List.mem_cons_of_mem _ hy))
          have := eOK_25 hh x List.mem_cons_self
          omega
      exact this _ (fun x hx => h x (List.mem_cons_of_mem _ (List.mem_of_mem_take hx)))
    rw [List.take_succ_cons, List.map_cons, List.sum_cons]
    unfold aWholes
    rw [if_pos (by omega), show aEsz e + ((r.take k).map aEsz).sum - aEsz e = ((r.take k).map aEsz).sum by omega, ih]
theorem fT_facts {F : AF} (he : ∀ e ∈ F.2.1, eOK e) (h24 : 24 ≤ (F.1 1).toInt) : 24 ≤ aFrame F.2.1 (aWhole F).length ∧ aFrame F.2.1 (aWhole F).length ≤ (F.1 1).toInt ∧ aWhole (fT F) = aWhole F ∧ aWhole ((aU F.1 1 (Int32.ofInt (aFrame F.2.1 (aWhole F).length)), F.2) : AF) = aWhole F ∧ ∀ k, k ≤ (aWhole F).length → aFrame (fT F).2.1 k = aFrame F.2.1 k := by
  have hsz := Int32.toInt_lt (F.1 1)
  have hwl : (aWhole F).length = aWholes F.2.1 ((F.1 1).toInt - 24) := by
    unfold aWhole
    rw [List.length_take, Nat.min_eq_left wholes_le]
  have hle : (aWhole F).length ≤ F.2.1.length := by
    rw [hwl]
    exact wholes_le
  have hew : ∀ e ∈ aWhole F, eOK e := fun e h => he e (List.mem_of_mem_take h)
  have s0 : ∀ l : List AE, (∀ x ∈ l, eOK x) → 0 ≤ (l.map aEsz).sum := by
    intro l
    induction l with
    | nil => exact fun _ => Int.le_refl _
    | cons x q i2 =>
      intro hh
      rw [List.map_cons, List.sum_cons]
      have := i2 (fun y hy => hh y (List.mem_cons_of_mem _ hy))
      have := eOK_25 hh x List.mem_cons_self
      omega
  have f1 : 24 ≤ aFrame F.2.1 (aWhole F).length := by
    unfold aFrame
    have := s0 (F.2.1.take (aWhole F).length) (fun x hx => he x (List.mem_of_mem_take hx))
    omega
  have f2 : aFrame F.2.1 (aWhole F).length ≤ (F.1 1).toInt := by
    by_cases z : (aWhole F).length = 0
    · rw [z]
      unfold aFrame
      rw [List.take_zero]
      show 24 + 0 ≤ _
      omega
    · have := (aw_le (es := F.2.1) (m := (F.1 1).toInt - 24) (k := (aWhole F).length) he hle (by omega)).mp (by rw [← hwl]; exact Nat.le_refl _)
      omega
  have ez : (Int32.ofInt (aFrame F.2.1 (aWhole F).length)).toInt = aFrame F.2.1 (aWhole F).length := i_ofI (by omega) (by omega)
  have et : ∀ k, k ≤ (aWhole F).length → (aWhole F).take k = F.2.1.take k := by
    intro k hk
    have e : aWhole F = F.2.1.take (aWhole F).length := by
      rw [hwl]
      rfl
    refine (congrArg (List.take k) e).trans ?_
    rw [List.take_take, Nat.min_eq_left hk]
  have es : aFrame F.2.1 (aWhole F).length - 24 = ((F.2.1.take (aWhole F).length).map aEsz).sum := by
    unfold aFrame
    omega
  refine ⟨f1, f2, ?_, ?_, fun k hk => ?_⟩
  · show (aWhole F).take (aWholes (aWhole F) ((Int32.ofInt (aFrame F.2.1 (aWhole F).length)).toInt - 24)) = aWhole F
    rw [ez, es, ← et _ (Nat.le_refl _), wholes_sum _ _ hew (Nat.le_refl _), List.take_length]
  · show F.2.1.take (aWholes F.2.1 ((Int32.ofInt (aFrame F.2.1 (aWhole F).length)).toInt - 24)) = aWhole F
    rw [ez, es, wholes_sum _ _ he hle, ← et _ (Nat.le_refl _), List.take_length]
  · show 24 + (((aWhole F).take k).map aEsz).sum = 24 + ((F.2.1.take k).map aEsz).sum
    rw [et k hk]
/-- entries that a file holds no more are nobody's -/
theorem RC_fswap {c : CS} {a : AA} {v : CV} {s f : Nat} {G : AF} (h : RC c a v) (hs : s < 7) (hf : f < 16) (h4 : 4 ≤ f) (e1 : G.1 = (aFc a s f).1) (ew : aWhole G = aWhole (aFc a s f)) (ef : ∀ k, k ≤ (aWhole (aFc a s f)).length → aFrame G.2.1 k = aFrame (aFc a s f).2.1 k) (eo : ∀ e ∈ G.2.1, eOK e) : RC c (aPut a s f G) v := by
  have hF : Ck [] 0 c c := Ck_r
  have efc : ∀ t g, aFc (aPut a s f G) t g = if t = s ∧ g = f then G else aFc a t g := fun t g => aFc_put
  have hpg : ∀ t, t < 7 → KPg c t (aFc (aPut a s f G) t) (aFk (aPut a s f G) t) := by
    intro t ht g hg
    have efk : aFk (aPut a s f G) t = aFk a t := rfl
    rw [efk, efc]
    obtain ⟨y1, y2, y3, y4, y5⟩ := h.2.2.2.2.2.2.2.2.2.1 t ht g hg
    by_cases q : t = s ∧ g = f
    · obtain ⟨q1, q2⟩ := q
      subst q1
      subst q2
      rw [if_pos ⟨rfl, rfl⟩]
      refine ⟨?_, y2, fun w1 w2 => ?_, fun w => by omega, fun w => by omega⟩
      · obtain ⟨g0, g1, g2, g3, g4, g5, g6, g7, g8, g9, g10, g11⟩ := y1
        unfold PG
        rw [e1, ew]
        refine ⟨g0, g1, g2, g3, g4, g5, fun i hi => ⟨(g6 i hi).1, ?_⟩, g7, g8, g9, g10, eo⟩
        rw [ef (i + 1) (by omega)]
        exact (g6 i hi).2
      · obtain ⟨m, m1, m2, m3, m4⟩ := y3 w1 w2
        exact ⟨m, m1, by rw [ew]; exact m2, m3, by rw [ew]; exact m4⟩
    · rw [if_neg q]
      exact ⟨y1, y2, y3, y4, y5⟩
  have hsh : ∀ t, t < 7 → aS (aPut a s f G) 52 t = 1 → shOK (aPut a s f G) t := fun t ht hu => shOK_f (h.2.2.2.2.2.2.2.2.2.2.2.2.2.2.2.2.2.2.2.2.2.1 t ht hu) rfl rfl rfl (fun g hg => by rw [efc, if_neg (fun z => by omega)])
  exact ⟨KSc_fr hF (by decide) h.1, fun s hs hu => KFr_fr hF (by decide) (h.2.1 s hs hu), fun s hs => KHd_fr hF (by decide) (h.2.2.1 s hs), fun s hs hr => KLd_fr hF (by decide) (h.2.2.2.1 s hs hr), fun s hs hu => KRq_fr hF (by decide) (h.2.2.2.2.1 s hs hu), KBl_fr hF (by decide) h.2.2.2.2.2.1, KDa_fr hF (by decide) h.2.2.2.2.2.2.1, fun s hs => KLw_fr hF (by decide) (h.2.2.2.2.2.2.2.1 s hs), fun s hs => KG_fr hF (by decide) (h.2.2.2.2.2.2.2.2.1 s hs), hpg, fun s hs => KCh_fr hF (by decide) (h.2.2.2.2.2.2.2.2.2.2.1 s hs), fun s hs => KMc_fr hF (by decide) (h.2.2.2.2.2.2.2.2.2.2.2.1 s hs), fun s hs => KPc_fr hF (by decide) (h.2.2.2.2.2.2.2.2.2.2.2.2.1 s hs), fun k hk => KCl_fr hF (by decide) (h.2.2.2.2.2.2.2.2.2.2.2.2.2.1 k hk), fun k hk => KDn_fr hF (by decide) (h.2.2.2.2.2.2.2.2.2.2.2.2.2.2.1 k hk), KAk_fr hF (by decide) h.2.2.2.2.2.2.2.2.2.2.2.2.2.2.2.1, KFc_fr hF (by decide) h.2.2.2.2.2.2.2.2.2.2.2.2.2.2.2.2.1, fun s hs => KId_fr hF (by decide) (h.2.2.2.2.2.2.2.2.2.2.2.2.2.2.2.2.2.1 s hs), fun k hk => KIc_fr hF (by decide) (h.2.2.2.2.2.2.2.2.2.2.2.2.2.2.2.2.2.2.1 k hk), KLt_fr hF rfl (by decide) h.2.2.2.2.2.2.2.2.2.2.2.2.2.2.2.2.2.2.2.1, KRm_fr hF rfl (by decide) h.2.2.2.2.2.2.2.2.2.2.2.2.2.2.2.2.2.2.2.2.1, hsh, h.2.2.2.2.2.2.2.2.2.2.2.2.2.2.2.2.2.2.2.2.2.2⟩
/-! what the disk holds behind each file -/
def gT (a : AA) (s : Nat) (c : List Nat) (p f : Nat) : AF := if 4 ≤ f ∧ f < p then (if f ∈ c then fT (aFc a s f) else fX (aFc a s f)) else aFc a s f
theorem gT_s {a : AA} {s p : Nat} {c : List Nat} (hp : 4 ≤ p) : aU (gT a s c p) p (if p ∈ c then fT (aFc a s p) else fX (aFc a s p)) = gT a s c (p + 1) := by
  funext f
  unfold aU gT
  by_cases q : f = p
  · rw [if_pos q, if_pos (show 4 ≤ f ∧ f < p + 1 by omega), q]
  · rw [if_neg q]
    by_cases z : 4 ≤ f ∧ f < p
    · rw [if_pos z, if_pos (show 4 ≤ f ∧ f < p + 1 by omega)]
    · rw [if_neg z, if_neg (show ¬ (4 ≤ f ∧ f < p + 1) by omega)]
theorem gT_16 {a : AA} {s : Nat} {c : List Nat} : gT a s c 16 = aTdF a s c aSegs := by
  funext f
  unfold gT aTdF
  by_cases z : 4 ≤ f ∧ f < 16
  · rw [if_pos z, if_pos (seg_mem.mpr z)]
  · rw [if_neg z, if_neg (fun y => z (seg_mem.mp y))]
theorem gT_4 {a : AA} {s : Nat} {c : List Nat} : gT a s c 4 = aFc a s := by
  funext f
  unfold gT
  rw [if_neg (by omega)]
theorem zA_put {Y : AA} {s f : Nat} {V : AF} {x : Int32} (hf : f < 16) : zA s 0 (aI (aPut Y s f V) 43 (16 * s + f) x) = aPut (zA s 0 Y) s f V := by
  refine Prod.ext ?_ rfl
  show z43 s 0 (setI Y.1 43 (16 * s + f) x) = z43 s 0 Y.1
  refine Prod.ext (funext fun g => funext fun j => ?_) rfl
  show (if g = 43 ∧ j / 16 = s ∧ 0 ≤ j % 16 then 0 else (if g = 43 ∧ j = 16 * s + f then x else Y.1.1 g j)) = if g = 43 ∧ j / 16 = s ∧ 0 ≤ j % 16 then 0 else Y.1.1 g j
  by_cases q : g = 43 ∧ j / 16 = s ∧ 0 ≤ j % 16
  · rw [if_pos q, if_pos q]
  · rw [if_neg q, if_neg q, if_neg (fun z => q ⟨z.1, by omega, Nat.zero_le _⟩)]
theorem K_findL {F : Nat} {c : CS} {X : AA} {v : CV} {s : Nat} {ch : List Nat} (hF : 400 ≤ F) (h : RC c X v) (hs : s < 7) (hch : aCh X s = ch) (h7 : cI c 6 s 7 0 = 0) (hsg : ∀ f ∈ ch, aIsSeg X s f = true) : WP (k_Disk_find_b35 F F c s 4) (fun c' => ∃ Y, RC c' Y v ∧ zA s 0 Y = zA s 0 (aFcS X s (aTdF X s ch aSegs)) ∧ cI c' 6 s 7 0 = 0) := by
  have key : ∀ n p c1 Y, 17 ≤ p + n → 4 ≤ p → p ≤ 16 → RC c1 Y v → zA s 0 Y = zA s 0 (aFcS X s (gT X s ch p)) → cI c1 6 s 7 0 = 0 → WP (k_Disk_find_b35 F n c1 s (Int32.ofNat p)) (fun c' => ∃ Y, RC c' Y v ∧ zA s 0 Y = zA s 0 (aFcS X s (aTdF X s ch aSegs)) ∧ cI c' 6 s 7 0 = 0) := by
    intro n
    induction n with
    | zero => intro p c1 Y h1 h2; omega
    | succ n ih =>
      intro p c1 Y h1 h2 h3 hc hz h7
      unfold k_Disk_find_b35 k_Disk_find_b80
      dsimp only
      by_cases q : p = 16
      · subst q
        rw [if_pos (by decide)]
        rw [gT_16] at hz
        exact WP_some ⟨Y, hc, hz, h7⟩
      · have hp : p < 16 := by omega
        rw [if_neg (fun y => by
          rw [show (16 : Int32) = Int32.ofNat 16 from rfl] at y
          have := (i_gei (by omega) (by omega)).mp y
          omega)]
        have eCh : aCh Y s = ch := by
          have := congrArg (fun z => aCh z s) hz
          exact this.trans hch
        have eFc : aFc Y s = gT X s ch p := by
          have := congrArg (fun z => aFc z s) hz
          exact this.trans (if_pos rfl)
        have eFp : aFc Y s p = aFc X s p := by
          rw [eFc]
          unfold gT
          rw [if_neg (by omega)]
        have kch := h.2.2.2.2.2.2.2.2.2.2.1 s hs
        have kch := hc.2.2.2.2.2.2.2.2.2.2.1 s hs
        rw [eCh] at kch
        rw [K_isChained (by omega) kch hp]
        refine WP_b ?_
        obtain ⟨y1, _⟩ := hc.2.2.2.2.2.2.2.2.2.1 s hs p hp
        have step : ∀ V x, V = (if p ∈ ch then fT (aFc X s p) else fX (aFc X s p)) → zA s 0 (aI (aPut Y s p V) 43 (16 * s + p) x) = zA s 0 (aFcS X s (gT X s ch (p + 1))) := by
          intro V x hV
          rw [zA_put hp]
          show aFcS (zA s 0 Y) s (aU (aFc Y s) p V) = _
          rw [hz, eFc, hV, gT_s h2]
          show zA s 0 (aFcS (aFcS X s (gT X s ch p)) s (gT X s ch (p + 1))) = _
          rw [aFcS_2]
        by_cases hm : p ∈ ch
        · rw [decide_eq_true hm, if_neg (show ¬ xc0 .eq (aB true) = true by decide), cix0 hp]
          refine WP_b (WP_b ?_)
          rw [y1.2.2.2.2.2.1]
          have he : ∀ e ∈ (aFc Y s p).2.1, eOK e := y1.2.2.2.2.2.2.2.2.2.2.2
          have hl320 : (aWhole (aFc Y s p)).length ≤ 320 := y1.2.2.2.2.2.2.2.2.2.2.1
          have h24 : 24 ≤ ((aFc Y s p).1 1).toInt := by
            rw [eFp]
            have := (isSeg_b.mp (hsg p hm)).2
            rw [Int32.le_iff_toInt_le, show (24 : Int32).toInt = 24 by decide] at this
            exact this
          obtain ⟨t1, t2, t3, t4, t5⟩ := fT_facts he h24
          have hfr : k_Page_frameStart c1 (30 * s + cpg p) (Int32.ofNat (aWhole (aFc Y s p)).length) = some (Int32.ofInt (aFrame (aFc Y s p).2.1 (aWhole (aFc Y s p)).length)) := by
            by_cases z : (aWhole (aFc Y s p)).length = 0
            · rw [z]
              unfold k_Page_frameStart k_Page_frameStart_b0 k_Page_frameStart_b23 k_Page_frameStart_b25
              rw [if_pos (by decide)]
              unfold aFrame
              rw [List.take_zero]
              rfl
            · exact K_frame y1 rfl (by omega) (Nat.le_refl _)
          rw [hfr]
          refine WP_b ?_
          have hsz := Int32.toInt_lt ((aFc Y s p).1 1)
          have ez : (Int32.ofInt (aFrame (aFc Y s p).2.1 (aWhole (aFc Y s p)).length)).toInt = aFrame (aFc Y s p).2.1 (aWhole (aFc Y s p)).length := i_ofI (by omega) (by omega)
          have em : aMin ((aFc Y s p).1 1) (Int32.ofInt (aFrame (aFc Y s p).2.1 (aWhole (aFc Y s p)).length)) = Int32.ofInt (aFrame (aFc Y s p).2.1 (aWhole (aFc Y s p)).length) := by
            apply Int32.toInt_inj.mp
            rw [aMin_t, ez]
            split <;> omega
          have k1 := K_cutTo (F := F) (n := Int32.ofInt (aFrame (aFc Y s p).2.1 (aWhole (aFc Y s p)).length)) (by omega) hc hs hp (by omega)
          have k2 : WP (k_Disk_cutTo F c1 s (Int32.ofNat p) (Int32.ofInt (aFrame (aFc Y s p).2.1 (aWhole (aFc Y s p)).length))) (fun c' => cI c' 6 s 7 0 = 0) := by
            unfold k_Disk_cutTo k_Disk_cutTo_b0
            rw [cix0 hp]
            refine WP_b (WP_call (K_pageCut (by omega) y1) (fun c2 hc2 => ?_))
            have p1 := hc2.1
            refine WP_eq (crd_n rfl (show p < 16 from hp) (by omega)) (WP_b (WP_eq (cwr_n rfl (show p < 16 from hp) (by omega)) ?_))
            refine WP_eq (crd_n rfl (show p < 16 from hp) (by omega)) (WP_b (WP_eq (cwr_n rfl (show p < 16 from hp) (by omega)) (WP_some ?_)))
            exact (csI_f (by decide)).trans ((csI_f (by decide)).trans (((p1.1 6 s 7 (fun w => by omega)).1 0).trans h7))
          obtain ⟨c2, m1, m2⟩ := k1
          obtain ⟨c3, m3, m4⟩ := k2
          rw [m1] at m3
          cases m3
          refine WP_eq m1 ?_
          rw [i_s]
          have ec : aCut Y s p (Int32.ofInt (aFrame (aFc Y s p).2.1 (aWhole (aFc Y s p)).length)) = aI (aPut Y s p (aU (aFc Y s p).1 1 (Int32.ofInt (aFrame (aFc Y s p).2.1 (aWhole (aFc Y s p)).length)), (aFc Y s p).2)) 43 (16 * s + p) (aMin (aS Y 43 (16 * s + p)) (Int32.ofInt (aFrame (aFc Y s p).2.1 (aWhole (aFc Y s p)).length))) := by
            show aI (aPut Y s p (aU (aFc Y s p).1 1 (aMin ((aFc Y s p).1 1) (Int32.ofInt (aFrame (aFc Y s p).2.1 (aWhole (aFc Y s p)).length))), (aFc Y s p).2)) 43 (16 * s + p) (aMin (aS Y 43 (16 * s + p)) (aMin ((aFc Y s p).1 1) (Int32.ofInt (aFrame (aFc Y s p).2.1 (aWhole (aFc Y s p)).length)))) = _
            rw [em]
          rw [ec] at m2
          generalize aMin (aS Y 43 (16 * s + p)) (Int32.ofInt (aFrame (aFc Y s p).2.1 (aWhole (aFc Y s p)).length)) = x at m2
          have eg : aFc (aI (aPut Y s p (aU (aFc Y s p).1 1 (Int32.ofInt (aFrame (aFc Y s p).2.1 (aWhole (aFc Y s p)).length)), (aFc Y s p).2)) 43 (16 * s + p) x) s p = (aU (aFc Y s p).1 1 (Int32.ofInt (aFrame (aFc Y s p).2.1 (aWhole (aFc Y s p)).length)), (aFc Y s p).2) := aFc_put.trans (if_pos ⟨rfl, rfl⟩)
          have m5 := RC_fswap (G := fT (aFc Y s p)) m2 hs hp h2 (by rw [eg]; rfl) (by rw [eg, t3, t4]) (by
            rw [eg, t4]
            exact fun k hk => t5 k hk) (fun e hh => he e (List.mem_of_mem_take hh))
          have e2 : aPut (aI (aPut Y s p (aU (aFc Y s p).1 1 (Int32.ofInt (aFrame (aFc Y s p).2.1 (aWhole (aFc Y s p)).length)), (aFc Y s p).2)) 43 (16 * s + p) x) s p (fT (aFc Y s p)) = aI (aPut Y s p (fT (aFc Y s p))) 43 (16 * s + p) x := by
            show aI (aFcS (aFcS Y s (aU (aFc Y s) p _)) s (aU (aFc (aFcS Y s (aU (aFc Y s) p _)) s) p (fT (aFc Y s p)))) 43 (16 * s + p) x = _
            rw [aFcS_2]
            have e3 : ∀ G : AF, aFc (aFcS Y s (aU (aFc Y s) p G)) s = aU (aFc Y s) p G := fun G => if_pos rfl
            rw [e3, aU_2]
            rfl
          rw [e2] at m5
          refine ih (p + 1) c2 _ (by omega) (by omega) (by omega) m5 (step _ x ?_) m4
          rw [if_pos hm, eFp]
        · rw [decide_eq_false hm, if_pos (show xc0 .eq (aB false) = true by decide)]
          have k1 := K_remove (f := p) hc hs hp (by omega)
          have k2 : WP (k_Disk_remove c1 s (Int32.ofNat p)) (fun c' => cI c' 6 s 7 0 = 0) := by
            unfold k_Disk_remove k_Disk_remove_b0 k_Page_remove k_Page_remove_b0 cputZ
            rw [cix0 hp]
            refine WP_b ?_
            rw [if_pos (Or.inl rfl)]
            refine WP_b ?_
            refine WP_eq (cwr_n rfl (show p < 16 from hp) (by omega)) (WP_eq (cwr_n rfl (show p < 16 from hp) (by omega)) (WP_some ?_))
            exact (csI_f (by decide)).trans ((csI_f (by decide)).trans ((csI_cl (by decide)).trans ((csI_cl (by decide)).trans ((csI_cl (by decide)).trans h7))))
          obtain ⟨c2, m1, m2⟩ := k1
          obtain ⟨c3, m3, m4⟩ := k2
          rw [m1] at m3
          cases m3
          refine WP_eq m1 ?_
          rw [i_s]
          refine ih (p + 1) c2 _ (by omega) (by omega) (by omega) m2 (step (fX (aFc Y s p)) 0 ?_) m4
          rw [if_neg hm, eFp]
  exact key F 4 c X (by omega) (by omega) (by omega) h (by rw [gT_4, aFcS_s]) h7
/-! numbers of a server set one behind another -/
def sI (σ : RS) (s : Nat) : List (Nat × Int32) → RS
  | [] => σ
  | p :: r => sI (setI σ p.1 s p.2) s r
def lk (f : Nat) : List (Nat × Int32) → Option Int32
  | [] => none
  | p :: r => match lk f r with
    | some w => some w
    | none => if p.1 = f then some p.2 else none
theorem sI_v : ∀ (L : List (Nat × Int32)) (σ : RS) (s f i : Nat), (sI σ s L).1 f i = if i = s then (lk f L).getD (σ.1 f i) else σ.1 f i
  | [], σ, s, f, i => by
    show σ.1 f i = if i = s then σ.1 f i else σ.1 f i
    split <;> rfl
  | p :: r, σ, s, f, i => by
    show (sI (setI σ p.1 s p.2) s r).1 f i = _
    rw [sI_v r]
    show (if i = s then (lk f r).getD (if f = p.1 ∧ i = s then p.2 else σ.1 f i) else (if f = p.1 ∧ i = s then p.2 else σ.1 f i)) = if i = s then (match lk f r with
      | some w => some w
      | none => if p.1 = f then some p.2 else none).getD (σ.1 f i) else σ.1 f i
    by_cases q : i = s
    · rw [if_pos q, if_pos q]
      cases lk f r with
      | some w => rfl
      | none =>
        dsimp only
        by_cases z : p.1 = f
        · rw [if_pos z, if_pos ⟨z.symm, q⟩]
          rfl
        · rw [if_neg z, if_neg (fun y => z y.1.symm)]
    · rw [if_neg q, if_neg q, if_neg (fun y => q y.2)]
theorem sI_2 : ∀ (L : List (Nat × Int32)) (σ : RS) (s : Nat), (sI σ s L).2 = σ.2
  | [], _, _ => rfl
  | p :: r, σ, s => by
    show (sI (setI σ p.1 s p.2) s r).2 = _
    rw [sI_2 r]
    rfl
theorem sI_eq {σ : RS} {s : Nat} {L L' : List (Nat × Int32)} (h : ∀ f, lk f L = lk f L') : sI σ s L = sI σ s L' := by
  refine Prod.ext (funext fun f => funext fun i => ?_) ?_
  · rw [sI_v, sI_v, h f]
  · rw [sI_2, sI_2]
theorem sI_app : ∀ (L : List (Nat × Int32)) (σ : RS) (s : Nat) (L' : List (Nat × Int32)), sI (sI σ s L) s L' = sI σ s (L ++ L')
  | [], _, _, _ => rfl
  | p :: r, σ, s, L' => sI_app r (setI σ p.1 s p.2) s L'
theorem lk_lg1 {w b d l a x : Int32} : ∀ f, lk f [(56, w), (64, b), (65, d), (56, l), (64, a), (65, x)] = lk f [(56, l), (64, a), (65, x)] := by
  intro f
  by_cases h56 : 56 = f
  · subst h56
    rfl
  by_cases h64 : 64 = f
  · subst h64
    rfl
  by_cases h65 : 65 = f
  · subst h65
    rfl
  simp only [lk, if_neg h56, if_neg h64, if_neg h65]
theorem lk_lg0 {w b d l : Int32} : ∀ f, lk f [(56, w), (64, b), (65, d), (56, l)] = lk f [(56, l), (64, b), (65, d)] := by
  intro f
  by_cases h56 : 56 = f
  · subst h56
    rfl
  by_cases h64 : 64 = f
  · subst h64
    rfl
  by_cases h65 : 65 = f
  · subst h65
    rfl
  simp only [lk, if_neg h56, if_neg h64, if_neg h65]
/-- a log that was read so far -/
def lgw (a : AA) (s b : Nat) (d : Int32) (l : List AE) : AA := aI (aI (aI (aLgS a s l) 56 s (Int32.ofNat (b + l.length))) 64 s (Int32.ofNat b + Int32.ofNat (aMemAt l))) 65 s (aMemC d l)
theorem lgw_e {a : AA} {s b : Nat} {d : Int32} {l : List AE} : lgw a s b d l = (sI a.1 s [(56, Int32.ofNat (b + l.length)), (64, Int32.ofNat b + Int32.ofNat (aMemAt l)), (65, aMemC d l)], (aLgS a s l).2) := rfl
theorem lgS_2 {a : AA} {s : Nat} {g l : List AE} : aLgS (aLgS a s g) s l = aLgS a s l := by
  show (a.1, aWay a, aWt a, aU (aU (aLg a) s g) s l, a.2.2.2.2) = (a.1, aWay a, aWt a, aU (aLg a) s l, a.2.2.2.2)
  rw [aU_2]
theorem lgw_add {a : AA} {s b : Nat} {d : Int32} {l : List AE} {e : AE} : aLogAdd (lgw a s b d l) s e = lgw a s b d (l ++ [e]) := by
  have eg : aLg (lgw a s b d l) s = l := if_pos rfl
  have el : aLast (lgw a s b d l) s + 1 = Int32.ofNat (b + l.length + 1) := by
    have : aLast (lgw a s b d l) s = Int32.ofNat (b + l.length) := (aS_If (by decide)).trans ((aS_If (by decide)).trans (if_pos ⟨rfl, rfl⟩))
    rw [this, i_s]
  have en : Int32.ofNat (b + (l ++ [e]).length) = Int32.ofNat (b + l.length + 1) := by
    rw [List.length_append]
    rfl
  have e2 : (aLgS (lgw a s b d l) s (l ++ [e])).2 = (aLgS a s (l ++ [e])).2 := by
    have h := congrArg (fun x : AA => x.2) (lgS_2 (a := a) (s := s) (g := l) (l := l ++ [e]))
    exact h
  unfold aLogAdd
  dsimp only
  rw [eg, el, lgw_e (l := l ++ [e]), en, aMemAt_s, aMemC_s]
  by_cases q : e.2.1 = 1
  · rw [if_pos q, if_pos q, if_pos q]
    have e64 : Int32.ofNat b + Int32.ofNat (l.length + 1) = Int32.ofNat (b + l.length + 1) := i_ad
    rw [e64]
    refine Prod.ext ?_ e2
    show sI a.1 s [(56, Int32.ofNat (b + l.length)), (64, Int32.ofNat b + Int32.ofNat (aMemAt l)), (65, aMemC d l), (56, Int32.ofNat (b + l.length + 1)), (64, Int32.ofNat (b + l.length + 1)), (65, e.2.2.2.1)] = _
    exact sI_eq lk_lg1
  · rw [if_neg q, if_neg q, if_neg q]
    refine Prod.ext ?_ e2
    show sI a.1 s [(56, Int32.ofNat (b + l.length)), (64, Int32.ofNat b + Int32.ofNat (aMemAt l)), (65, aMemC d l), (56, Int32.ofNat (b + l.length + 1))] = _
    exact sI_eq lk_lg0
theorem lgw_S {a : AA} {s b f : Nat} {d : Int32} {l : List AE} (hf : f ≠ 56 ∧ f ≠ 64 ∧ f ≠ 65) (i : Nat) : aS (lgw a s b d l) f i = aS a f i := (aS_If hf.2.2).trans ((aS_If hf.2.1).trans (aS_If hf.1))
theorem lgw_W {a : AA} {s b : Nat} {d : Int32} {l : List AE} (h55 : aS a 55 s = Int32.ofNat b) (hb : b + 300 < 1073741824) (hl : l.length ≤ 300) : WLg (lgw a s b d l) s := by
  have e1 : aBase (lgw a s b d l) s = Int32.ofNat b := (lgw_S (by decide) s).trans h55
  have e2 : aLast (lgw a s b d l) s = Int32.ofNat (b + l.length) := (aS_If (by decide)).trans ((aS_If (by decide)).trans (if_pos ⟨rfl, rfl⟩))
  have eg : aLg (lgw a s b d l) s = l := if_pos rfl
  unfold WLg
  rw [e1, e2, eg, Int32.toInt_ofNat_of_lt (by omega), Int32.toInt_ofNat_of_lt (by omega)]
  omega
/-! what does not touch the disks' fields -/
def O6 (c c' : CS) : Prop := ∀ i f j, cI c' 6 i f j = cI c 6 i f j
def Pf (c : CS) (m : Option CS) : Prop := ∀ c', m = some c' → O6 c c'
theorem Pf_bind {α : Type} {c : CS} {m : Option α} {g : α → Option CS} (h : ∀ x, m = some x → Pf c (g x)) : Pf c (m.bind g) := by
  intro c' h'
  cases hm : m with
  | none =>
    rw [hm] at h'
    cases h'
  | some x =>
    rw [hm] at h'
    exact h x hm c' h'
theorem Pf_some {c c' : CS} (h : O6 c c') : Pf c (some c') := fun c2 h2 => by
  cases h2
  exact h
theorem Pf_none {c : CS} : Pf c none := fun c2 h2 => by cases h2
theorem O6_r {c : CS} : O6 c c := fun _ _ _ => rfl
theorem O6_I {c c' : CS} {cl i f j : Nat} {x : Int32} (h : O6 c c') (hc : cl ≠ 6) : O6 c (csI c' cl i f j x) := fun a b y => (csI_cl (fun z => hc z.symm)).trans (h a b y)
theorem O6_cpy {c c1 c' : CS} {a i f a' i' f' : Nat} {x y z : Int32} (h : O6 c c1) (hc : a' ≠ 6) (e : ccpy c1 a i f x a' i' f' y z = some c') : O6 c c' := by
  unfold ccpy at e
  split at e
  · cases e
  · cases e
    intro p q j
    exact (if_neg (fun w => hc w.1.symm)).trans (h p q j)
theorem Pf_find {F : Nat} {c c1 : CS} {s : Nat} (h : O6 c c1) : Pf c (k_Log_findMembers F c1 s) := by
  unfold k_Log_findMembers k_Log_findMembers_b0 k_Log_findMembers_b46
  refine Pf_bind (fun x _ => Pf_bind (fun c2 h2 => ?_))
  cases h2
  have h3 : O6 c (csI c1 9 s 8 0 x) := O6_I h (by decide)
  generalize csI c1 9 s 8 0 x = c3 at h3
  split
  · exact Pf_bind (fun y _ => Pf_bind (fun z _ => Pf_bind (fun c4 h4 => by
      cases h4
      exact Pf_some (O6_I h3 (by decide)))))
  · exact Pf_bind (fun c4 h4 => by
      cases h4
      exact Pf_some (O6_I h3 (by decide)))
theorem Pf_mb50 {F : Nat} {c c1 : CS} {s : Nat} {n t x k : Int32} (h : O6 c c1) : Pf c (k_Log_moveBase_b50 F c1 s n t x k) := by
  unfold k_Log_moveBase_b50
  refine Pf_bind (fun c2 h2 => Pf_bind (fun c3 h3 => Pf_bind (fun c4 h4 => Pf_bind (fun c5 h5 => Pf_bind (fun c6 h6 => Pf_bind (fun c7 h7 => ?_))))))
  cases h2
  cases h3
  cases h4
  cases h5
  cases h6
  have h8 : O6 c c7 := Pf_find (O6_I (O6_I (O6_I (O6_I (O6_I h (by decide)) (by decide)) (by decide)) (by decide)) (by decide)) c7 h7
  exact Pf_some h8
theorem Pf_move {F : Nat} {c c1 : CS} {s : Nat} {n t x : Int32} (h : O6 c c1) : Pf c (k_Log_moveBase F c1 s n t x) := by
  unfold k_Log_moveBase k_Log_moveBase_b0 k_Log_moveBase_b19
  refine Pf_bind (fun y _ => ?_)
  have go : ∀ k : Int32, Pf c (if xc0 .le k = true then k_Log_moveBase_b50 F c1 s n t x k else (k_Log_at c1 s (n + 1)).bind fun p22 => (ccpy c1 9 s 1 p22 9 s 1 0 (k * 6)).bind fun σ25 => k_Log_moveBase_b50 F σ25 s n t x k) := by
    intro k
    split
    · exact Pf_mb50 h
    · exact Pf_bind (fun z _ => Pf_bind (fun c2 h2 => Pf_mb50 (O6_cpy h (by decide) h2)))
  split
  · exact go 0
  · exact go _
theorem Pf_add {c c1 : CS} {s q : Nat} {n : Int32} (h : O6 c c1) : Pf c (k_Log_add_11_6 c1 s q n) := by
  rw [gLA_11]
  unfold gLogAdd
  refine Pf_bind (fun y _ => ?_)
  split
  · refine Pf_bind (fun z _ => Pf_bind (fun c2 h2 => Pf_bind (fun c3 h3 => Pf_bind (fun u _ => ?_))))
    cases h3
    have h4 : O6 c (csI c2 9 s 6 0 (cI c2 9 s 6 0 + 1)) := O6_I (O6_cpy h (by decide) h2) (by decide)
    generalize csI c2 9 s 6 0 (cI c2 9 s 6 0 + 1) = c3 at h4
    split
    · exact Pf_some h4
    · refine Pf_bind (fun x _ => Pf_bind (fun c4 h5 => Pf_bind (fun c5 h6 => ?_)))
      cases h5
      cases h6
      exact Pf_some (O6_I (O6_I h4 (by decide)) (by decide))
  · exact Pf_some h
theorem WP_pf {c : CS} {m : Option CS} {Q : CS → Prop} (h : WP m Q) (p : Pf c m) : WP m (fun c' => Q c' ∧ O6 c c') := by
  obtain ⟨c', h1, h2⟩ := h
  exact ⟨c', h1, h2, p c' h1⟩
/-! the rows of a chain -/
theorem cmax_z {x : Int32} : cmax 0 x = Int32.ofNat x.toNatClampNeg := by
  unfold cmax
  by_cases q : 0 < x
  · rw [if_pos q]
    refine (i_ofx (fun z => ?_)).1
    rw [Int32.lt_iff_toInt_lt, i_0] at z q
    omega
  · have e : x.toNatClampNeg = 0 := by
      rw [Int32.lt_iff_toInt_lt, i_0] at q
      show x.toInt.toNat = 0
      omega
    rw [e, if_neg q]
    rfl
theorem K_rows {F : Nat} {c0 : CS} {A : AA} {v : CV} {s b f i : Nat} {d : Int32} {ch : List Nat} {es : List AE} {K : CS → Nat → Int32 → Option CS} {Q : CS → Prop} (hs : s < 7) (hf : f < 16) (h55 : aS A 55 s = Int32.ofNat b) (hb : b + 300 < 1073741824) (hl : es.length ≤ 300)
    (go : ∀ c' l', l'.length ≤ 300 → RC c' (lgw A s b d l') v → O6 c0 c' → l' = es → WP (K c' s (Int32.ofNat i + 1)) Q) :
    ∀ n j c l, (aWhole (aFc A s f)).length + 1 ≤ j + n → 1 ≤ n → l ++ (aWhole (aFc A s f)).drop j = es → j < 2147483000 → RC c (lgw A s b d l) v → O6 c0 c → WP (k_Server_loadLog_b153 F K n c s (Int32.ofNat i) (30 * s + cpg f) (Int32.ofNat j)) Q := by
  intro n
  induction n with
  | zero => intro j c l h1 h2; omega
  | succ n ih =>
    intro j c l h1 h2 h3 hj h4 h5
    unfold k_Server_loadLog_b153
    dsimp only
    obtain ⟨y1, _⟩ := h4.2.2.2.2.2.2.2.2.2.1 s hs f hf
    have y1 : PG c (30 * s + cpg f) (aFc A s f) := y1
    obtain ⟨_, _, _, _, _, f5, f6, f7, f8, _, f10, f11⟩ := y1
    rw [f5]
    by_cases q : (aWhole (aFc A s f)).length ≤ j
    · rw [if_pos ((i_gei (by omega) (by omega)).mpr q)]
      have e : l = es := by
        rw [← h3, List.drop_of_length_le q, List.append_nil]
      exact go c l (by rw [e]; exact hl) h4 h5 e
    · rw [if_neg (fun z => q ((i_gei (by omega) (by omega)).mp z))]
      have hj2 : j < (aWhole (aFc A s f)).length := by omega
      have dL : (aWhole (aFc A s f)).drop j = (aWhole (aFc A s f))[j] :: (aWhole (aFc A s f)).drop (j + 1) := List.drop_eq_getElem_cons hj2
      have eg : (aWhole (aFc A s f)).getD j aE0 = (aWhole (aFc A s f))[j] := by
        rw [List.getD_eq_getElem?_getD, List.getElem?_eq_getElem hj2]
        rfl
      have hll : l.length + 1 ≤ es.length := by
        rw [← h3, dL, List.length_append, List.length_cons]
        omega
      have r6 := (f6 j hj2).1
      rw [eg] at r6
      have ho : eOK (aWhole (aFc A s f))[j] := f11 _ (List.mem_of_mem_take (List.getElem_mem hj2))
      have ei : Int32.ofNat j * 6 = Int32.ofNat (6 * j) := by
        rw [show (6 : Int32) = Int32.ofNat 6 from rfl, ← Int32.ofNat_mul, Nat.mul_comm]
      rw [ei]
      have eg2 : aLg (lgw A s b d l) s = l := if_pos rfl
      have k1 := K_logAdd (cl := 11) (f := 6) (l1 := 30 * s + cpg f) (m := 6 * j) (e := (aWhole (aFc A s f))[j]) h4 hs (lgw_W h55 hb (by omega)) (by rw [eg2]; omega) (by omega) (by omega) (show 6 * j + 6 ≤ cL c 11 (30 * s + cpg f) 6 by omega) (by omega) r6 ho
      rw [← gLA_11, lgw_add] at k1
      refine WP_call (WP_pf k1 (Pf_add h5)) (fun c2 h6 => ?_)
      rw [i_s]
      refine ih (j + 1) c2 (l ++ [(aWhole (aFc A s f))[j]]) (by omega) (by omega) ?_ (by omega) h6.1 h6.2
      rw [← h3, dL, List.append_assoc]
      rfl
theorem K_files {F : Nat} {c0 : CS} {A : AA} {v : CV} {s b : Nat} {d : Int32} {es : List AE} (hF : 400 ≤ F) (hs : s < 7) (h55 : aS A 55 s = Int32.ofNat b) (hb : b + 300 < 1073741824) (hl : es.length ≤ 300) (hlt : ∀ j ∈ aCh A s, (Int32.ofNat b + 1 - (aFc A s j).1 2).toNatClampNeg < 2147483000) :
    ∀ n i c l, (aCh A s).length + 1 ≤ i + n → i ≤ (aCh A s).length → l ++ aLoad A s (Int32.ofNat b) ((aCh A s).drop i) = es → RC c (lgw A s b d l) v → O6 c0 c → WP (k_Server_loadLog_b105 F n c s (Int32.ofNat i)) (fun c' => RC c' (aI (lgw A s b d es) 77 s (Int32.ofNat (b + es.length))) v ∧ O6 c0 c') := by
  intro n
  induction n with
  | zero => intro i c l h1 h2; omega
  | succ n ih =>
    intro i c l h1 h2 h3 h4 h5
    unfold k_Server_loadLog_b105
    dsimp only
    obtain ⟨k1, k2, k3⟩ := h4.2.2.2.2.2.2.2.2.2.2.1 s hs
    have ech : aCh (lgw A s b d l) s = aCh A s := rfl
    rw [ech] at k1 k2 k3
    rw [k1]
    by_cases q : i = (aCh A s).length
    · subst q
      rw [if_pos ((i_gei (by omega) (by omega)).mpr (Nat.le_refl _))]
      have e : l = es := by
        rw [← h3, List.drop_of_length_le (Nat.le_refl _)]
        exact (List.append_nil l).symm
      subst e
      rw [K_r h4 (F := 56) (cl := 9) (f := 6) (by decide) hs, show aS (lgw A s b d l) 56 s = Int32.ofNat (b + l.length) from (aS_If (by decide)).trans ((aS_If (by decide)).trans (if_pos ⟨rfl, rfl⟩))]
      exact WP_b (WP_some ⟨RC_I h4 (F := 77) (cl := 9) (f := 11) (i := s) (by decide) (by decide), O6_I h5 (by decide)⟩)
    · have hi : i < (aCh A s).length := by omega
      rw [if_neg (fun z => q (by have := (i_gei (by omega) (by omega)).mp z; omega))]
      obtain ⟨g1, g2, g3⟩ := k3 i hi
      have eg : (aCh A s).getD i 0 = (aCh A s)[i] := by
        rw [List.getD_eq_getElem?_getD, List.getElem?_eq_getElem hi]
        rfl
      rw [eg] at g1 g2 g3
      refine WP_eq (crd_n rfl (show i < 16 by omega) (by omega)) ?_
      rw [g3, cix0 g2]
      refine WP_b ?_
      obtain ⟨y1, _⟩ := h4.2.2.2.2.2.2.2.2.2.1 s hs _ g2
      have y1 : PG c (30 * s + cpg (aCh A s)[i]) (aFc A s (aCh A s)[i]) := y1
      have hw := y1.2.2.2.2.2.2.2.2.2.2.1
      rw [y1.2.2.1, K_r h4 (F := 55) (cl := 9) (f := 3) (by decide) hs, lgw_S (by decide), h55, cmax_z]
      have dL : (aCh A s).drop i = (aCh A s)[i] :: (aCh A s).drop (i + 1) := List.drop_eq_getElem_cons hi
      have eL : aLoad A s (Int32.ofNat b) ((aCh A s).drop i) = (aWhole (aFc A s (aCh A s)[i])).drop (Int32.ofNat b + 1 - (aFc A s (aCh A s)[i]).1 2).toNatClampNeg ++ aLoad A s (Int32.ofNat b) ((aCh A s).drop (i + 1)) := by
        rw [dL]
        rfl
      rw [eL, ← List.append_assoc] at h3
      refine K_rows (es := l ++ (aWhole (aFc A s (aCh A s)[i])).drop (Int32.ofNat b + 1 - (aFc A s (aCh A s)[i]).1 2).toNatClampNeg) (ch := []) hs g2 h55 hb ?_ (fun c' l' hl' hc' ho' e' => ?_) F _ c l (by omega) (by omega) rfl (hlt _ (List.getElem_mem hi)) h4 h5
      · have := congrArg List.length h3
        rw [List.length_append] at this
        omega
      · subst e'
        rw [i_s]
        exact ih (i + 1) c' _ (by omega) (by omega) h3 hc' ho'
theorem lk_ld0 {d0 mc x : Int32} : ∀ f, lk f [(55, 0), (57, 0), (58, d0), (56, 0), (64, mc), (65, x), (75, 0), (76, 0)] = lk f [(55, 0), (57, 0), (58, d0), (75, 0), (76, 0), (56, 0), (64, mc), (65, x)] := by
  intro f
  by_cases h55 : 55 = f
  · subst h55
    rfl
  by_cases h57 : 57 = f
  · subst h57
    rfl
  by_cases h58 : 58 = f
  · subst h58
    rfl
  by_cases h56 : 56 = f
  · subst h56
    rfl
  by_cases h64 : 64 = f
  · subst h64
    rfl
  by_cases h65 : 65 = f
  · subst h65
    rfl
  by_cases h75 : 75 = f
  · subst h75
    rfl
  by_cases h76 : 76 = f
  · subst h76
    rfl
  simp only [lk, if_neg h55, if_neg h57, if_neg h58, if_neg h56, if_neg h64, if_neg h65, if_neg h75, if_neg h76]
theorem lk_ld1 {d0 mc x b T D w l d : Int32} : ∀ f, lk f [(55, 0), (57, 0), (58, d0), (56, 0), (64, mc), (65, x), (55, b), (57, T), (58, D), (56, b), (77, w), (64, l), (65, d), (75, b), (76, b)] = lk f [(77, w), (55, b), (57, T), (58, D), (75, b), (76, b), (56, b), (64, l), (65, d)] := by
  intro f
  by_cases h55 : 55 = f
  · subst h55
    rfl
  by_cases h57 : 57 = f
  · subst h57
    rfl
  by_cases h58 : 58 = f
  · subst h58
    rfl
  by_cases h56 : 56 = f
  · subst h56
    rfl
  by_cases h64 : 64 = f
  · subst h64
    rfl
  by_cases h65 : 65 = f
  · subst h65
    rfl
  by_cases h77 : 77 = f
  · subst h77
    rfl
  by_cases h75 : 75 = f
  · subst h75
    rfl
  by_cases h76 : 76 = f
  · subst h76
    rfl
  simp only [lk, if_neg h55, if_neg h57, if_neg h58, if_neg h56, if_neg h64, if_neg h65, if_neg h77, if_neg h75, if_neg h76]
theorem lk_ld2 {b T D l a d : Int32} : ∀ f, lk f [(55, b), (57, T), (58, D), (75, b), (76, b), (56, l), (64, a), (65, d), (77, l)] = lk f [(55, b), (57, T), (58, D), (56, l), (64, a), (65, d), (75, b), (76, b), (77, l)] := by
  intro f
  by_cases h55 : 55 = f
  · subst h55
    rfl
  by_cases h57 : 57 = f
  · subst h57
    rfl
  by_cases h58 : 58 = f
  · subst h58
    rfl
  by_cases h75 : 75 = f
  · subst h75
    rfl
  by_cases h76 : 76 = f
  · subst h76
    rfl
  by_cases h56 : 56 = f
  · subst h56
    rfl
  by_cases h64 : 64 = f
  · subst h64
    rfl
  by_cases h65 : 65 = f
  · subst h65
    rfl
  by_cases h77 : 77 = f
  · subst h77
    rfl
  simp only [lk, if_neg h55, if_neg h57, if_neg h58, if_neg h75, if_neg h76, if_neg h56, if_neg h64, if_neg h65, if_neg h77]
theorem lk_ld3 {w b T D l a d : Int32} : ∀ f, lk f [(77, w), (55, b), (57, T), (58, D), (75, b), (76, b), (56, l), (64, a), (65, d), (77, l)] = lk f [(55, b), (57, T), (58, D), (56, l), (64, a), (65, d), (75, b), (76, b), (77, l)] := by
  intro f
  by_cases h77 : 77 = f
  · subst h77
    rfl
  by_cases h55 : 55 = f
  · subst h55
    rfl
  by_cases h57 : 57 = f
  · subst h57
    rfl
  by_cases h58 : 58 = f
  · subst h58
    rfl
  by_cases h75 : 75 = f
  · subst h75
    rfl
  by_cases h76 : 76 = f
  · subst h76
    rfl
  by_cases h56 : 56 = f
  · subst h56
    rfl
  by_cases h64 : 64 = f
  · subst h64
    rfl
  by_cases h65 : 65 = f
  · subst h65
    rfl
  simp only [lk, if_neg h77, if_neg h55, if_neg h57, if_neg h58, if_neg h75, if_neg h76, if_neg h56, if_neg h64, if_neg h65]
theorem RC_lgz {c : CS} {a : AA} {v : CV} {s : Nat} (h : RC c a v) : RC c (aLgS a s []) v := RC_lg h (Ck_w (Ck_r (s := s)) (by decide)) rfl ⟨fun i hi => absurd hi (Nat.not_lt_zero _), fun e he => absurd he List.not_mem_nil⟩
/-- the snapshot that a disk begins from: number, term, members, machine -/
def shB (Y : AA) (s b : Nat) (T D : Int32) (M : AM) : Prop := (aS Y 47 s = -1 ∧ b = 0 ∧ T = 0 ∧ D = aS Y 145 0 ∧ M = ([], [])) ∨ ∃ f, (f = 2 ∨ f = 3) ∧ aS Y 47 s = Int32.ofNat f ∧ (aFc Y s f).1 0 = 1 ∧ (aFc Y s f).1 2 = Int32.ofNat b ∧ (aFc Y s f).1 3 = T ∧ (aFc Y s f).1 4 = D ∧ (aFc Y s f).2.2 = M ∧ 1 ≤ b ∧ ¬ T = -1 ∧ wfMc M
def ldL (b : Nat) (T D : Int32) (es : List AE) : List (Nat × Int32) := [(55, Int32.ofNat b), (57, T), (58, D), (56, Int32.ofNat (b + es.length)), (64, Int32.ofNat b + Int32.ofNat (aMemAt es)), (65, aMemC D es), (75, Int32.ofNat b), (76, Int32.ofNat b), (77, Int32.ofNat (b + es.length))]
theorem mcS_2 {a : AA} {s : Nat} {M M' : AM} : aMcS (aMcS a s M) s M' = aMcS a s M' := by
  show (a.1, aWay a, aWt a, aLg a, aU (aU (aMc a) s M) s M', a.2.2.2.2.2) = (a.1, aWay a, aWt a, aLg a, aU (aMc a) s M', a.2.2.2.2.2)
  rw [aU_2]
theorem K_loadLog {F : Nat} {c : CS} {Y : AA} {v : CV} {s b : Nat} {T D : Int32} {M : AM} {es : List AE} (hF : 400 ≤ F) (h : RC c Y v) (hs : s < 7) (hsh : shB Y s b T D M) (hb : b + 300 < 1073741824) (he : es = aLoad Y s (Int32.ofNat b) (aCh Y s)) (hl : es.length ≤ 300) (hlt : ∀ j ∈ aCh Y s, (Int32.ofNat b + 1 - (aFc Y s j).1 2).toNatClampNeg < 2147483000) :
    WP (k_Server_loadLog F c s) (fun c' => RC c' (sI Y.1 s (ldL b T D es), (aLgS (aMcS Y s M) s es).2) v ∧ O6 c c') := by
  have e145 : cI c 9 s 0 0 = aS Y 145 0 := (h.2.2.2.2.2.2.2.2.2.2.2.2.2.2.2.2.2.1 s hs).2.1
  unfold k_Server_loadLog k_Server_loadLog_b0 k_Log_clear k_Log_clear_b0
  have h0 := RC_lgz (s := s) h
  have h1 := RC_I (x := 0) h0 (F := 55) (cl := 9) (f := 3) (i := s) (by decide) (by decide)
  have h2 := RC_I (x := 0) h1 (F := 57) (cl := 9) (f := 4) (i := s) (by decide) (by decide)
  have h3 := RC_I (x := aS Y 145 0) h2 (F := 58) (cl := 9) (f := 5) (i := s) (by decide) (by decide)
  have h4 := RC_I (x := 0) h3 (F := 56) (cl := 9) (f := 6) (i := s) (by decide) (by decide)
  have o4 : O6 c (csI (csI (csI (csI c 9 s 3 0 0) 9 s 4 0 0) 9 s 5 0 (aS Y 145 0)) 9 s 6 0 0) := O6_I (O6_I (O6_I (O6_I O6_r (by decide)) (by decide)) (by decide)) (by decide)
  refine WP_call (Q1 := fun c' => RC c' (sI Y.1 s [(55, 0), (57, 0), (58, aS Y 145 0), (56, 0), (64, 0 + Int32.ofNat 0), (65, aS Y 145 0)], (aLgS Y s []).2) v ∧ O6 c c') ?_ (fun c1 hc1 => ?_)
  · refine WP_b (WP_b ?_)
    rw [show cI (csI (csI c 9 s 3 0 0) 9 s 4 0 0) 9 s 0 0 = aS Y 145 0 from (csI_f (by decide)).trans ((csI_f (by decide)).trans e145)]
    refine WP_b (WP_b ?_)
    refine WP_call (WP_pf (K_findMembers (by omega) h4 hs ?_) (Pf_find o4)) (fun c' h' => ?_)
    rotate_left
    · have g1 : aBase (aI (aI (aI (aI (aLgS Y s []) 55 s 0) 57 s 0) 58 s (aS Y 145 0)) 56 s 0) s = 0 := (aS_If (by decide)).trans ((aS_If (by decide)).trans ((aS_If (by decide)).trans (if_pos ⟨rfl, rfl⟩)))
      have g4 : aS (aI (aI (aI (aI (aLgS Y s []) 55 s 0) 57 s 0) 58 s (aS Y 145 0)) 56 s 0) 58 s = aS Y 145 0 := (aS_If (by decide)).trans (if_pos ⟨rfl, rfl⟩)
      have g3 : aLg (aI (aI (aI (aI (aLgS Y s []) 55 s 0) 57 s 0) 58 s (aS Y 145 0)) 56 s 0) s = [] := if_pos rfl
      have e : aFindCode (aI (aI (aI (aI (aLgS Y s []) 55 s 0) 57 s 0) 58 s (aS Y 145 0)) 56 s 0) s = (sI Y.1 s [(55, 0), (57, 0), (58, aS Y 145 0), (56, 0), (64, 0 + Int32.ofNat 0), (65, aS Y 145 0)], (aLgS Y s []).2) := by
        unfold aFindCode
        rw [g1, g3, g4]
        rfl
      rw [e] at h'
      exact WP_some h'
    have g1 : aBase (aI (aI (aI (aI (aLgS Y s []) 55 s 0) 57 s 0) 58 s (aS Y 145 0)) 56 s 0) s = 0 := (aS_If (by decide)).trans ((aS_If (by decide)).trans ((aS_If (by decide)).trans (if_pos ⟨rfl, rfl⟩)))
    have g2 : aLast (aI (aI (aI (aI (aLgS Y s []) 55 s 0) 57 s 0) 58 s (aS Y 145 0)) 56 s 0) s = 0 := if_pos ⟨rfl, rfl⟩
    have g3 : aLg (aI (aI (aI (aI (aLgS Y s []) 55 s 0) 57 s 0) 58 s (aS Y 145 0)) 56 s 0) s = [] := if_pos rfl
    unfold WLg
    rw [g1, g2, g3]
    decide
  obtain ⟨hc1, o1⟩ := hc1
  -- the machine is cleared
  refine WP_call (Q1 := fun c' => RC c' (sI Y.1 s [(55, 0), (57, 0), (58, aS Y 145 0), (56, 0), (64, 0 + Int32.ofNat 0), (65, aS Y 145 0)], (aLgS (aMcS Y s ([], [])) s []).2) v ∧ O6 c c') ?_ (fun c2 hc2 => ?_)
  · unfold k_Machine_clear k_Machine_clear_b0
    refine WP_b (WP_b (WP_b (WP_some ⟨?_, O6_I (O6_I (O6_I o1 (by decide)) (by decide)) (by decide)⟩)))
    have P : PX 10 s m13 c1 (csI (csI (csI c1 10 s 1 0 0) 10 s 4 0 0) 10 s 5 0 0) := PX_t (PX_t (PX_I (by decide)) (PX_I (by decide))) (PX_I (by decide))
    have e1 : cI (csI (csI (csI c1 10 s 1 0 0) 10 s 4 0 0) 10 s 5 0 0) 10 s 1 0 = 0 := (csI_f (by decide)).trans ((csI_f (by decide)).trans csI_e)
    have e4 : cI (csI (csI (csI c1 10 s 1 0 0) 10 s 4 0 0) 10 s 5 0 0) 10 s 4 0 = 0 := (csI_f (by decide)).trans csI_e
    have e5 : cI (csI (csI (csI c1 10 s 1 0 0) 10 s 4 0 0) 10 s 5 0 0) 10 s 5 0 = 0 := csI_e
    have e6 : ∀ k, cI (csI (csI (csI c1 10 s 1 0 0) 10 s 4 0 0) 10 s 5 0 0) 10 s 6 k = cI c1 10 s 6 k := fun k => (csI_f (by decide)).trans ((csI_f (by decide)).trans (csI_f (by decide)))
    obtain ⟨_, _, _, _, _, sl, s1, s2, s3, s4, _⟩ := hc1.2.2.2.2.2.2.2.2.2.2.2.1 s hs
    have hM : KMc (csI (csI (csI c1 10 s 1 0 0) 10 s 4 0 0) 10 s 5 0 0) s ([], []) := by
      refine ⟨⟨⟨⟨Nat.zero_le _, Nat.zero_le _⟩, Nat.zero_le _, fun x hx => absurd hx List.not_mem_nil, fun x hx => absurd hx List.not_mem_nil⟩, fun x hx => absurd hx List.not_mem_nil, List.nodup_nil, List.nodup_nil, fun x hx => absurd hx List.not_mem_nil⟩, ?_⟩
      have ec : cM (([], []) : AM) = ([], []) := by simp [cM]
      rw [ec]
      exact ⟨e1, e4, e5, fun i hi => absurd hi (Nat.not_lt_zero _), sl, s1, s2, s3, fun k hk => (e6 k).trans (s4 k hk), fun i hi => absurd hi (Nat.not_lt_zero _)⟩
    exact RC_mc hc1 P hM
  obtain ⟨hc2, o2⟩ := hc2
  have e47 : cI c2 6 s 9 0 = aS Y 47 s := (K_r hc2 (F := 47) (cl := 6) (f := 9) (by decide) hs).trans (by
    show (sI Y.1 s _).1 47 s = _
    rw [sI_v, if_pos rfl]
    rfl)
  rw [e47]
  -- the end, for any beginning
  have fin : ∀ (w : List (Nat × Int32)) (A : AA) (c3 : CS), A.1 = sI Y.1 s (w ++ [(55, Int32.ofNat b), (57, T), (58, D), (75, Int32.ofNat b), (76, Int32.ofNat b)]) → A.2 = (aMcS Y s M).2 → (∀ l a d, sI Y.1 s (w ++ [(55, Int32.ofNat b), (57, T), (58, D), (75, Int32.ofNat b), (76, Int32.ofNat b)] ++ [(56, l), (64, a), (65, d), (77, l)]) = sI Y.1 s [(55, Int32.ofNat b), (57, T), (58, D), (56, l), (64, a), (65, d), (75, Int32.ofNat b), (76, Int32.ofNat b), (77, l)]) → RC c3 (lgw A s b D []) v → O6 c c3 → WP (k_Server_loadLog_b105 F F c3 s 0) (fun c' => RC c' (sI Y.1 s (ldL b T D es), (aLgS (aMcS Y s M) s es).2) v ∧ O6 c c') := by
    intro w A c3 a1 a2 a3 hc3 o3
    have h55 : aS A 55 s = Int32.ofNat b := by
      show A.1.1 55 s = _
      rw [a1, ← sI_app, sI_v, if_pos rfl]
      rfl
    have eFc : aFc A = aFc Y := by
      have h := congrArg (fun x : AX => x.2.2.2.2.2.2.1) a2
      exact h
    have eCh : aCh A = aCh Y := by
      have h := congrArg (fun x : AX => x.2.2.2.2.2.2.2.2.1) a2
      exact h
    have eLd : aLoad A s (Int32.ofNat b) (aCh A s) = es := by
      rw [eCh, load_c (a := A) (a' := Y) (by rw [eFc]), he]
    have k := K_files (c0 := c) (v := v) (d := D) (es := es) hF hs h55 hb hl (by rw [eFc, eCh]; exact hlt) F 0 c3 [] (by
      have := (hc3.2.2.2.2.2.2.2.2.2.2.1 s hs).2.1
      have ec : aCh (lgw A s b D []) s = aCh A s := rfl
      rw [ec] at this
      omega) (Nat.zero_le _) eLd hc3 o3
    refine WP_mono k (fun c' hc' => ⟨?_, hc'.2⟩)
    have e : aI (lgw A s b D es) 77 s (Int32.ofNat (b + es.length)) = (sI Y.1 s (ldL b T D es), (aLgS (aMcS Y s M) s es).2) := by
      refine Prod.ext ?_ ?_
      · show sI A.1 s [(56, Int32.ofNat (b + es.length)), (64, Int32.ofNat b + Int32.ofNat (aMemAt es)), (65, aMemC D es), (77, Int32.ofNat (b + es.length))] = _
        rw [a1, sI_app, a3]
        rfl
      · show (aLgS A s es).2 = _
        have : ∀ X X' : AA, X.2 = X'.2 → (aLgS X s es).2 = (aLgS X' s es).2 := fun X X' q => by
          show (X.2.1, X.2.2.1, aU X.2.2.2.1 s es, X.2.2.2.2) = (X'.2.1, X'.2.2.1, aU X'.2.2.2.1 s es, X'.2.2.2.2)
          rw [q]
        exact this _ _ a2
    rw [← e]
    exact hc'.1
  unfold k_Server_loadLog_b75
  rcases hsh with ⟨z1, z2, z3, z4, z5⟩ | ⟨f, f23, z2, z0, z3, z4, z5, z6, z7, z8, z9⟩
  · subst z2
    subst z3
    subst z4
    subst z5
    rw [z1, if_pos (show xc2 .eq (-1 : Int32) (-1) = true by decide)]
    have d55 : cI c2 9 s 3 0 = 0 := (K_r hc2 (F := 55) (cl := 9) (f := 3) (by decide) hs).trans (by
      show (sI Y.1 s _).1 55 s = _
      rw [sI_v, if_pos rfl]
      rfl)
    rw [d55]
    have h5 := RC_I (x := 0) hc2 (F := 75) (cl := 9) (f := 9) (i := s) (by decide) (by decide)
    refine WP_b ?_
    rw [show cI (csI c2 9 s 9 0 0) 9 s 3 0 = 0 from (csI_f (by decide)).trans d55]
    have h6 := RC_I (x := 0) h5 (F := 76) (cl := 9) (f := 10) (i := s) (by decide) (by decide)
    refine WP_b ?_
    refine fin [] (sI Y.1 s [(55, Int32.ofNat 0), (57, 0), (58, aS Y 145 0), (75, Int32.ofNat 0), (76, Int32.ofNat 0)], (aMcS Y s ([], [])).2) _ rfl rfl (fun l a d => sI_eq lk_ld2) ?_ (O6_I (O6_I o2 (by decide)) (by decide))
    have e : aI (aI (sI Y.1 s [(55, 0), (57, 0), (58, aS Y 145 0), (56, 0), (64, 0 + Int32.ofNat 0), (65, aS Y 145 0)], (aLgS (aMcS Y s ([], [])) s []).2) 75 s 0) 76 s 0 = lgw (sI Y.1 s [(55, Int32.ofNat 0), (57, 0), (58, aS Y 145 0), (75, Int32.ofNat 0), (76, Int32.ofNat 0)], (aMcS Y s ([], [])).2) s 0 (aS Y 145 0) [] := by
      refine Prod.ext ?_ rfl
      show sI Y.1 s [(55, 0), (57, 0), (58, aS Y 145 0), (56, 0), (64, 0 + Int32.ofNat 0), (65, aS Y 145 0), (75, 0), (76, 0)] = sI Y.1 s [(55, 0), (57, 0), (58, aS Y 145 0), (75, 0), (76, 0), (56, 0), (64, 0 + Int32.ofNat 0), (65, aS Y 145 0)]
      exact sI_eq lk_ld0
    rw [← e]
    exact h6
  · have hf : f < 16 := by omega
    have n1 : ¬ xc2 .eq (Int32.ofNat f) (-1) = true := fun w => by
      have w := congrArg Int32.toInt (c2_eq.mp w)
      rw [Int32.toInt_ofNat_of_lt (by omega), show (-1 : Int32).toInt = -1 by decide] at w
      omega
    rw [z2, if_neg n1, cix0 hf]
    refine WP_b ?_
    obtain ⟨y1, _, _, y4, _⟩ := hc2.2.2.2.2.2.2.2.2.2.1 s hs f hf
    have y1 : PG c2 (30 * s + cpg f) (aFc Y s f) := y1
    rw [y1.2.2.1, y1.2.2.2.1, y1.2.2.2.2.1, z3, z4, z5]
    have a55 : aBase (sI Y.1 s [(55, 0), (57, 0), (58, aS Y 145 0), (56, 0), (64, 0 + Int32.ofNat 0), (65, aS Y 145 0)], (aLgS (aMcS Y s ([], [])) s []).2) s = 0 := by
      show (sI Y.1 s _).1 55 s = _
      rw [sI_v, if_pos rfl]
      rfl
    have a56 : aLast (sI Y.1 s [(55, 0), (57, 0), (58, aS Y 145 0), (56, 0), (64, 0 + Int32.ofNat 0), (65, aS Y 145 0)], (aLgS (aMcS Y s ([], [])) s []).2) s = 0 := by
      show (sI Y.1 s _).1 56 s = _
      rw [sI_v, if_pos rfl]
      rfl
    have aLg0 : aLg (sI Y.1 s [(55, 0), (57, 0), (58, aS Y 145 0), (56, 0), (64, 0 + Int32.ofNat 0), (65, aS Y 145 0)], (aLgS (aMcS Y s ([], [])) s []).2) s = [] := if_pos rfl
    have eb := Int32.toInt_ofNat_of_lt (n := b) (by omega)
    have k1 := K_moveBase (F := F) (n := Int32.ofNat b) (t := T) (x := D) (by omega) hc2 hs (by unfold WLg; rw [a55, a56, aLg0]; decide) (by omega) (by omega) z8 (by rw [a55, Int32.lt_iff_toInt_lt, i_0, eb]; omega)
    refine WP_call (WP_pf k1 (Pf_move o2)) (fun c3 hc3 => ?_)
    obtain ⟨hc3, o3⟩ := hc3
    have ehas : (aHas (sI Y.1 s [(55, 0), (57, 0), (58, aS Y 145 0), (56, 0), (64, 0 + Int32.ofNat 0), (65, aS Y 145 0)], (aLgS (aMcS Y s ([], [])) s []).2) s (Int32.ofNat b) && decide (aTermAt (sI Y.1 s [(55, 0), (57, 0), (58, aS Y 145 0), (56, 0), (64, 0 + Int32.ofNat 0), (65, aS Y 145 0)], (aLgS (aMcS Y s ([], [])) s []).2) s (Int32.ofNat b) = T)) = false := by
      unfold aHas
      rw [a56, decide_eq_false (p := Int32.ofNat b ≤ 0) (fun z => by rw [Int32.le_iff_toInt_le, eb, i_0] at z; omega), Bool.and_false, Bool.false_and]
    have eM : aFindCode (aMoveBase (sI Y.1 s [(55, 0), (57, 0), (58, aS Y 145 0), (56, 0), (64, 0 + Int32.ofNat 0), (65, aS Y 145 0)], (aLgS (aMcS Y s ([], [])) s []).2) s (Int32.ofNat b) T D) s = (sI Y.1 s [(55, 0), (57, 0), (58, aS Y 145 0), (56, 0), (64, 0 + Int32.ofNat 0), (65, aS Y 145 0), (55, Int32.ofNat b), (57, T), (58, D), (56, Int32.ofNat b), (77, aMin (aS Y 77 s) (Int32.ofNat b)), (64, Int32.ofNat b + Int32.ofNat 0), (65, D)], (aLgS (aMcS Y s ([], [])) s []).2) := by
      unfold aMoveBase
      rw [ehas]
      have e77 : aS (sI Y.1 s [(55, 0), (57, 0), (58, aS Y 145 0), (56, 0), (64, 0 + Int32.ofNat 0), (65, aS Y 145 0)], (aLgS (aMcS Y s ([], [])) s []).2) 77 s = aS Y 77 s := by
        show (sI Y.1 s _).1 77 s = _
        rw [sI_v, if_pos rfl]
        rfl
      dsimp only
      rw [e77, if_neg (show ¬ (false : Bool) = true by decide), if_neg (show ¬ (false : Bool) = true by decide)]
      generalize hZ : aI (aI (aI (aI (aI (aLgS (sI Y.1 s [(55, 0), (57, 0), (58, aS Y 145 0), (56, 0), (64, 0 + Int32.ofNat 0), (65, aS Y 145 0)], (aLgS (aMcS Y s ([], [])) s []).2) s []) 55 s (Int32.ofNat b)) 57 s T) 58 s D) 56 s (Int32.ofNat b)) 77 s (aMin (aS Y 77 s) (Int32.ofNat b)) = Z
      have g1 : aBase Z s = Int32.ofNat b := by
        rw [← hZ]
        exact (aS_If (by decide)).trans ((aS_If (by decide)).trans ((aS_If (by decide)).trans ((aS_If (by decide)).trans (if_pos ⟨rfl, rfl⟩))))
      have g2 : aS Z 58 s = D := by
        rw [← hZ]
        exact (aS_If (by decide)).trans ((aS_If (by decide)).trans (if_pos ⟨rfl, rfl⟩))
      have g3 : aLg Z s = [] := by
        rw [← hZ]
        exact if_pos rfl
      unfold aFindCode
      rw [g1, g2, g3, ← hZ]
      refine Prod.ext rfl ?_
      have h := congrArg (fun x : AA => x.2) (lgS_2 (a := (aMcS Y s ([], []))) (s := s) (g := []) (l := []))
      exact h
    rw [eM] at hc3
    -- the snapshot's machine
    obtain ⟨_, _, _, y4, _⟩ := hc3.2.2.2.2.2.2.2.2.2.1 s hs f hf
    have y4 : f = 2 ∨ f = 3 → aFk Y s f = aFc Y s f ∧ ((aFc Y s f).1 0 = 1 → KSn c3 (30 * s + cpg f) (aFc Y s f)) := y4
    obtain ⟨q1, q2, q3, q4⟩ := (y4 f23).2 z0
    rw [z6] at q1 q3 q4
    have k0 := (hc3.2.2.2.2.2.2.2.2.2.2.2.1 s hs).2
    rw [q1, ← cM_enc]
    have hcap : cL c3 11 (30 * s + cpg f) 8 ≤ 30000 := by
      have := ((hc3.2.2.2.2.2.2.2.2.2.2.2.2.2.2.2.2.2.2.2.2.1).2.2.2.1 (30 * s + cpg f) (pg_t hs hf).1).2.2
      split at this <;> omega
    refine WP_call (K_load11_8 (M := cM M) (by omega) k0 (wfM_cM z9.1) (shN_wf z9) (by rw [cM_enc]; exact q3) hcap (fun i hi => q4 i (by rw [← cM_enc]; exact hi))) (fun c4 hc4 => ?_)
    obtain ⟨P4, k4⟩ := hc4
    have hc4 : RC c4 (aMcS (sI Y.1 s [(55, 0), (57, 0), (58, aS Y 145 0), (56, 0), (64, 0 + Int32.ofNat 0), (65, aS Y 145 0), (55, Int32.ofNat b), (57, T), (58, D), (56, Int32.ofNat b), (77, aMin (aS Y 77 s) (Int32.ofNat b)), (64, Int32.ofNat b + Int32.ofNat 0), (65, D)], (aLgS (aMcS Y s ([], [])) s []).2) s M) v := RC_mc hc3 (PX_w P4 (by decide)) ⟨z9, k4⟩
    have o4 : O6 c c4 := fun i g j => ((P4.1 6 i g (fun z => absurd z.1 (by decide))).1 j).trans (o3 i g j)
    have d55 : cI c4 9 s 3 0 = Int32.ofNat b := (K_r hc4 (F := 55) (cl := 9) (f := 3) (by decide) hs).trans (by
      show (sI Y.1 s _).1 55 s = _
      rw [sI_v, if_pos rfl]
      rfl)
    rw [d55]
    have h5 := RC_I (x := Int32.ofNat b) hc4 (F := 75) (cl := 9) (f := 9) (i := s) (by decide) (by decide)
    refine WP_b ?_
    rw [show cI (csI c4 9 s 9 0 (Int32.ofNat b)) 9 s 3 0 = Int32.ofNat b from (csI_f (by decide)).trans d55]
    have h6 := RC_I (x := Int32.ofNat b) h5 (F := 76) (cl := 9) (f := 10) (i := s) (by decide) (by decide)
    refine WP_b ?_
    refine fin [(77, aMin (aS Y 77 s) (Int32.ofNat b))] (sI Y.1 s [(77, aMin (aS Y 77 s) (Int32.ofNat b)), (55, Int32.ofNat b), (57, T), (58, D), (75, Int32.ofNat b), (76, Int32.ofNat b)], (aMcS Y s M).2) _ rfl rfl (fun l a d => sI_eq lk_ld3) ?_ (O6_I (O6_I o4 (by decide)) (by decide))
    have e : aI (aI (aMcS (sI Y.1 s [(55, 0), (57, 0), (58, aS Y 145 0), (56, 0), (64, 0 + Int32.ofNat 0), (65, aS Y 145 0), (55, Int32.ofNat b), (57, T), (58, D), (56, Int32.ofNat b), (77, aMin (aS Y 77 s) (Int32.ofNat b)), (64, Int32.ofNat b + Int32.ofNat 0), (65, D)], (aLgS (aMcS Y s ([], [])) s []).2) s M) 75 s (Int32.ofNat b)) 76 s (Int32.ofNat b) = lgw (sI Y.1 s [(77, aMin (aS Y 77 s) (Int32.ofNat b)), (55, Int32.ofNat b), (57, T), (58, D), (75, Int32.ofNat b), (76, Int32.ofNat b)], (aMcS Y s M).2) s b D [] := by
      refine Prod.ext ?_ ?_
      · show sI Y.1 s [(55, 0), (57, 0), (58, aS Y 145 0), (56, 0), (64, 0 + Int32.ofNat 0), (65, aS Y 145 0), (55, Int32.ofNat b), (57, T), (58, D), (56, Int32.ofNat b), (77, aMin (aS Y 77 s) (Int32.ofNat b)), (64, Int32.ofNat b + Int32.ofNat 0), (65, D), (75, Int32.ofNat b), (76, Int32.ofNat b)] = sI Y.1 s [(77, aMin (aS Y 77 s) (Int32.ofNat b)), (55, Int32.ofNat b), (57, T), (58, D), (75, Int32.ofNat b), (76, Int32.ofNat b), (56, Int32.ofNat b), (64, Int32.ofNat b + Int32.ofNat 0), (65, D)]
        exact sI_eq lk_ld1
      · show (aWay Y, aWt Y, aU (aLg Y) s [], aU (aU (aMc Y) s ([], [])) s M, Y.2.2.2.2.2) = (aWay Y, aWt Y, aU (aLg Y) s [], aU (aMc Y) s M, Y.2.2.2.2.2)
        rw [aU_2]
    rw [← e]
    exact h6
/-! a server comes up -/
theorem K_laySlotD {c : CS} {a : AA} {v : CV} {s : Nat} (h : RC c a v) (hs : s < 7) (e7 : cI c 6 s 7 0 = aS a 46 s) (h4 : (aS a 45 s = -1 ∨ aS a 45 s = 0 ∨ aS a 45 s = 1) ∧ (aS a 46 s = 0 ∨ aS a 45 s = 0 ∨ aS a 45 s = 1)) : WP (k_Disk_writeSlot c s (aS a 53 s) (aS a 54 s)) (fun c' => RC c' (aLaySlot a s) v) := by
  unfold k_Disk_writeSlot k_Disk_writeSlot_b0 k_Disk_writeSlot_b21
  rw [e7, K_r h (F := 45) (cl := 6) (f := 6) (by decide) hs]
  refine WP_if c0_ne (fun q => ?_) (fun q => ?_)
  · obtain ⟨f, f1, f2, f3⟩ := slot_f (x := aS a 45 s) (h4.2.resolve_left q)
    have e := laySlot_f f2 f1 (if_neg q).symm
    have es : aI a 45 s (aS a 45 s) = a := aI_same rfl
    rw [es] at e
    rw [← e]
    exact K_slot24 h hs f1 f2 rfl
  · have q' := Classical.not_not.mp q
    have go : ∀ f, f < 2 → ∀ x : Int32, x = Int32.ofNat f → x = (if aS a 45 s = 1 then 0 else 1) → WP ((some (csI c 6 s 6 0 x)).bind fun σ12 => k_Disk_writeSlot_b24 σ12 s (aS a 53 s) (aS a 54 s)) (fun c' => RC c' (aLaySlot a s) v) := by
      intro f hf x hx hx2
      have e := laySlot_f (a := a) (s := s) hx hf (by rw [if_pos q']; exact hx2)
      rw [← e]
      have h1 := RC_I (x := x) h (F := 45) (cl := 6) (f := 6) (i := s) (by decide) (by decide)
      have e45 : aS (aI a 45 s x) 45 s = Int32.ofNat f := by
        rw [← hx]
        exact if_pos ⟨rfl, rfl⟩
      have e1 : aS (aI a 45 s x) 150 s + 1 = aS a 150 s + 1 := by rw [show aS (aI a 45 s x) 150 s = aS a 150 s from aS_If (by decide)]
      exact WP_b (K_slot24 h1 hs hf e45 e1)
    refine WP_if c2_ne (fun q2 => ?_) (fun q2 => ?_)
    · exact go 1 (by omega) 1 rfl (if_neg q2).symm
    · exact go 0 (by omega) 0 rfl (if_pos (Classical.not_not.mp q2)).symm
def y43 (s : Nat) (sz : Nat → Int32) (σ : RS) : RS := (fun f i => if f = 43 ∧ i / 16 = s then sz (i % 16) else σ.1 f i, σ.2)
theorem y43_z {s : Nat} {sz : Nat → Int32} {σ τ : RS} (h : z43 s 0 σ = z43 s 0 τ) : y43 s sz σ = y43 s sz τ := by
  have h0 := congrArg (fun x : RS => x.2) h
  refine Prod.ext (funext fun f => funext fun i => ?_) h0
  have h1 : (z43 s 0 σ).1 f i = (z43 s 0 τ).1 f i := by rw [h]
  show (if f = 43 ∧ i / 16 = s then sz (i % 16) else σ.1 f i) = if f = 43 ∧ i / 16 = s then sz (i % 16) else τ.1 f i
  by_cases q : f = 43 ∧ i / 16 = s
  · rw [if_pos q, if_pos q]
  · rw [if_neg q, if_neg q]
    have h2 : (if f = 43 ∧ i / 16 = s ∧ 0 ≤ i % 16 then 0 else σ.1 f i) = (if f = 43 ∧ i / 16 = s ∧ 0 ≤ i % 16 then 0 else τ.1 f i) := h1
    rw [if_neg (fun z => q ⟨z.1, z.2.1⟩), if_neg (fun z => q ⟨z.1, z.2.1⟩)] at h2
    exact h2
theorem y43_st {s f i : Nat} {sz : Nat → Int32} {v : Int32} {σ : RS} (hf : f ≠ 43) : setI (y43 s sz σ) f i v = y43 s sz (setI σ f i v) := by
  refine Prod.ext (funext fun g => funext fun j => ?_) rfl
  show (if g = f ∧ j = i then v else if g = 43 ∧ j / 16 = s then sz (j % 16) else σ.1 g j) = if g = 43 ∧ j / 16 = s then sz (j % 16) else if g = f ∧ j = i then v else σ.1 g j
  by_cases q : g = f ∧ j = i
  · rw [if_pos q, if_pos q, if_neg (fun z => hf (q.1.symm.trans z.1))]
  · rw [if_neg q, if_neg q]
theorem y43_sI {s : Nat} {sz : Nat → Int32} : ∀ (L : List (Nat × Int32)) (σ : RS) (_ : L.all (fun p => !(p.1 == 43)) = true), sI (y43 s sz σ) s L = y43 s sz (sI σ s L)
  | [], _, _ => rfl
  | p :: r, σ, h => by
    rw [List.all_cons, Bool.and_eq_true] at h
    have hp : p.1 ≠ 43 := fun z => by
      rw [z] at h
      exact absurd h.1 (by decide)
    show sI (setI (y43 s sz σ) p.1 s p.2) s r = y43 s sz (sI (setI σ p.1 s p.2) s r)
    rw [y43_st hp]
    exact y43_sI r _ h.2
theorem z43_sI {s : Nat} : ∀ (L : List (Nat × Int32)) (σ : RS) (_ : L.all (fun p => !(p.1 == 43)) = true), z43 s 0 (sI σ s L) = sI (z43 s 0 σ) s L
  | [], _, _ => rfl
  | p :: r, σ, h => by
    rw [List.all_cons, Bool.and_eq_true] at h
    have hp : p.1 ≠ 43 := fun z => by
      rw [z] at h
      exact absurd h.1 (by decide)
    show z43 s 0 (sI (setI σ p.1 s p.2) s r) = sI (setI (z43 s 0 σ) p.1 s p.2) s r
    rw [z43_st hp]
    exact z43_sI r _ h.2
theorem y43_f {s f i : Nat} {sz : Nat → Int32} {σ : RS} (h : f ≠ 43) : (y43 s sz σ).1 f i = σ.1 f i := if_neg (fun z => h z.1)
theorem z43_set {s f : Nat} {v : Int32} {σ : RS} (hf : f < 16) : z43 s 0 (setI σ 43 (16 * s + f) v) = z43 s 0 σ := by
  refine Prod.ext (funext fun g => funext fun j => ?_) rfl
  show (if g = 43 ∧ j / 16 = s ∧ 0 ≤ j % 16 then 0 else (if g = 43 ∧ j = 16 * s + f then v else σ.1 g j)) = if g = 43 ∧ j / 16 = s ∧ 0 ≤ j % 16 then 0 else σ.1 g j
  by_cases q : g = 43 ∧ j / 16 = s ∧ 0 ≤ j % 16
  · rw [if_pos q, if_pos q]
  · rw [if_neg q, if_neg q, if_neg (fun z => q ⟨z.1, by omega, Nat.zero_le _⟩)]
theorem sync_n {P : AA} {s : Nat} : ∀ n, n ≤ 16 → aSyncFiles P s n = ((fun f i => if f = 43 ∧ i / 16 = s ∧ i % 16 < n then (aFc P s (i % 16)).1 1 else P.1.1 f i, P.1.2), (aFkS P s (fun f => if f < n then aFc P s f else aFk P s f)).2) := by
  intro n
  induction n with
  | zero =>
    intro _
    refine Prod.ext (Prod.ext (funext fun f => funext fun i => ?_) rfl) ?_
    · show P.1.1 f i = _
      exact (if_neg (fun z => Nat.not_lt_zero _ z.2.2)).symm
    · show P.2 = (aFkS P s (fun f => if f < 0 then aFc P s f else aFk P s f)).2
      have e : (fun f => if f < 0 then aFc P s f else aFk P s f) = aFk P s := funext fun f => if_neg (Nat.not_lt_zero _)
      rw [e]
      show P.2 = (aWay P, aWt P, aLg P, aMc P, aSh P, aPm P, aFc P, aU (aFk P) s (aFk P s), P.2.2.2.2.2.2.2.2.2)
      rw [aU_self]
      rfl
  | succ n ih =>
    intro hn
    have e : aSyncFiles P s (n + 1) = aSyncFile (aSyncFiles P s n) s n := rfl
    rw [e, ih (by omega)]
    unfold aSyncFile
    refine Prod.ext (Prod.ext (funext fun f => funext fun i => ?_) rfl) ?_
    · show (if f = 43 ∧ i = 16 * s + n then (aFc P s n).1 1 else if f = 43 ∧ i / 16 = s ∧ i % 16 < n then (aFc P s (i % 16)).1 1 else P.1.1 f i) = if f = 43 ∧ i / 16 = s ∧ i % 16 < n + 1 then (aFc P s (i % 16)).1 1 else P.1.1 f i
      by_cases q : f = 43 ∧ i = 16 * s + n
      · rw [if_pos q, if_pos ⟨q.1, by omega, by omega⟩, show i % 16 = n by omega]
      · rw [if_neg q]
        by_cases z : f = 43 ∧ i / 16 = s ∧ i % 16 < n
        · rw [if_pos z, if_pos ⟨z.1, z.2.1, by omega⟩]
        · rw [if_neg z, if_neg (fun y => z ⟨y.1, y.2.1, by
            have := y.2.2
            by_cases w : i % 16 = n
            · exact absurd ⟨y.1, by omega⟩ q
            · omega⟩)]
    · show (aWay P, aWt P, aLg P, aMc P, aSh P, aPm P, aFc P, aU (aU (aFk P) s (fun f => if f < n then aFc P s f else aFk P s f)) s (aU (aU (aFk P) s (fun f => if f < n then aFc P s f else aFk P s f) s) n (aFc P s n)), P.2.2.2.2.2.2.2.2.2) = (aWay P, aWt P, aLg P, aMc P, aSh P, aPm P, aFc P, aU (aFk P) s (fun f => if f < n + 1 then aFc P s f else aFk P s f), P.2.2.2.2.2.2.2.2.2)
      rw [aU_2]
      have e2 : aU (aU (aFk P) s (fun f => if f < n then aFc P s f else aFk P s f) s) n (aFc P s n) = fun f => if f < n + 1 then aFc P s f else aFk P s f := by
        funext f
        show (if f = n then aFc P s n else (if s = s then (fun f => if f < n then aFc P s f else aFk P s f) else aFk P s) f) = _
        rw [if_pos rfl]
        by_cases q : f = n
        · rw [if_pos q, if_pos (by omega), q]
        · rw [if_neg q]
          show (if f < n then aFc P s f else aFk P s f) = _
          by_cases z : f < n
          · rw [if_pos z, if_pos (by omega)]
          · rw [if_neg z, if_neg (by omega)]
      rw [e2]
theorem sync_16 {P : AA} {s : Nat} : aSyncFiles P s 16 = (y43 s (fun f => (aFc P s f).1 1) P.1, (aFkS P s (fun f => if f < 16 then aFc P s f else aFk P s f)).2) := by
  rw [sync_n 16 (Nat.le_refl _)]
  refine Prod.ext (Prod.ext (funext fun f => funext fun i => ?_) rfl) rfl
  show (if f = 43 ∧ i / 16 = s ∧ i % 16 < 16 then (aFc P s (i % 16)).1 1 else P.1.1 f i) = if f = 43 ∧ i / 16 = s then (aFc P s (i % 16)).1 1 else P.1.1 f i
  by_cases q : f = 43 ∧ i / 16 = s
  · rw [if_pos ⟨q.1, q.2, Nat.mod_lt _ (by decide)⟩, if_pos q]
  · rw [if_neg (fun z => q ⟨z.1, z.2.1⟩), if_neg q]
/-- stores that differ in what is kept of a server's files alone are one behind a sync -/
theorem sync_zz {P Q : AA} {s : Nat} (h1 : z43 s 0 P.1 = z43 s 0 Q.1) (h2 : P.2 = Q.2) : aSyncFiles P s 16 = aSyncFiles Q s 16 := by
  have e : ∀ f, aFc P s f = aFc Q s f := fun f => congrArg (fun x : AX => x.2.2.2.2.2.2.1 s f) h2
  have e2 : ∀ f, aFk P s f = aFk Q s f := fun f => congrArg (fun x : AX => x.2.2.2.2.2.2.2.1 s f) h2
  rw [sync_16, sync_16]
  refine Prod.ext ?_ ?_
  · have : (fun f => (aFc P s f).1 1) = fun f => (aFc Q s f).1 1 := funext fun f => by rw [e]
    show y43 s (fun f => (aFc P s f).1 1) P.1 = y43 s (fun f => (aFc Q s f).1 1) Q.1
    rw [this]
    exact y43_z h1
  · have : (fun f => if f < 16 then aFc P s f else aFk P s f) = fun f => if f < 16 then aFc Q s f else aFk Q s f := funext fun f => by rw [e, e2]
    show (P.2.1, P.2.2.1, P.2.2.2.1, P.2.2.2.2.1, P.2.2.2.2.2.1, P.2.2.2.2.2.2.1, P.2.2.2.2.2.2.2.1, aU P.2.2.2.2.2.2.2.2.1 s _, P.2.2.2.2.2.2.2.2.2) = (Q.2.1, Q.2.2.1, Q.2.2.2.1, Q.2.2.2.2.1, Q.2.2.2.2.2.1, Q.2.2.2.2.2.2.1, Q.2.2.2.2.2.2.2.1, aU Q.2.2.2.2.2.2.2.2.1 s _, Q.2.2.2.2.2.2.2.2.2)
    rw [this, h2]
/-! the term -/
theorem sync7 {F : Nat} {s : Nat} : ∀ n (p : Int32) (c c' : CS), k_Disk_syncAll_b2 F n c s p = some c' → cI c' 6 s 7 0 = 0 := by
  intro n
  induction n with
  | zero => intro p c c' h; cases h
  | succ n ih =>
    intro p c c' h
    unfold k_Disk_syncAll_b2 at h
    dsimp only at h
    split at h
    · unfold cputZ at h
      rw [if_pos (Or.inl rfl)] at h
      cases h
      exact csI_e
    · cases hm : k_Disk_syncFile c s p with
      | none =>
        rw [hm] at h
        cases h
      | some c2 =>
        rw [hm] at h
        exact ih _ _ _ h
theorem K_loadTerm {c : CS} {a : AA} {v : CV} {s : Nat} (h : RC c a v) (hs : s < 7) (h7 : cI c 6 s 7 0 = 0) (h46 : aS a 46 s = 0) (h45 : aS a 45 s = -1 ∨ aS a 45 s = 0 ∨ aS a 45 s = 1) (w : WLg a s) :
    WP (k_Server_loadTerm c s) (fun c' => RC c' (let a1 := aI (aI a 53 s (if aS a 45 s < 0 then 0 else (aFc a s (aS a 45 s).toNatClampNeg).1 3)) 54 s (if aS a 45 s < 0 then -1 else (aFc a s (aS a 45 s).toNatClampNeg).1 4)
      if aS a1 53 s < aLastTerm a1 s then aLaySlot (aI (aI a1 53 s (aLastTerm a1 s)) 54 s (-1)) s else a1) v) := by
  have e45 : cI c 6 s 6 0 = aS a 45 s := K_r h (F := 45) (cl := 6) (f := 6) (by decide) hs
  -- the slot's term and vote
  have go : ∀ x y : Int32, x = (if aS a 45 s < 0 then 0 else (aFc a s (aS a 45 s).toNatClampNeg).1 3) → y = (if aS a 45 s < 0 then -1 else (aFc a s (aS a 45 s).toNatClampNeg).1 4) → WP (k_Server_loadTerm_b74 (csI c 13 s 10 0 x) s y s) (fun c' => RC c' (let a1 := aI (aI a 53 s (if aS a 45 s < 0 then 0 else (aFc a s (aS a 45 s).toNatClampNeg).1 3)) 54 s (if aS a 45 s < 0 then -1 else (aFc a s (aS a 45 s).toNatClampNeg).1 4)
      if aS a1 53 s < aLastTerm a1 s then aLaySlot (aI (aI a1 53 s (aLastTerm a1 s)) 54 s (-1)) s else a1) v) := by
    intro x y hx hy
    rw [← hx, ← hy]
    dsimp only
    have h1 := RC_I (x := x) h (F := 53) (cl := 13) (f := 10) (i := s) (by decide) (by decide)
    have h2 := RC_I (x := y) h1 (F := 54) (cl := 13) (f := 11) (i := s) (by decide) (by decide)
    have w2 : WLg (aI (aI a 53 s x) 54 s y) s := by
      have fr : AFr [53, 54] [] a (aI (aI a 53 s x) 54 s y) := AFr_w (AFr_t AFr_I AFr_I) (by decide) (by decide)
      exact WLg_fr fr (by decide) (by decide) w
    have s7 : cI (csI (csI c 13 s 10 0 x) 13 s 11 0 y) 6 s 7 0 = 0 := (csI_cl (by decide)).trans ((csI_cl (by decide)).trans h7)
    have b45 : aS (aI (aI a 53 s x) 54 s y) 45 s = aS a 45 s := (aS_If (by decide)).trans (aS_If (by decide))
    have b46 : aS (aI (aI a 53 s x) 54 s y) 46 s = 0 := (aS_If (by decide)).trans ((aS_If (by decide)).trans h46)
    unfold k_Server_loadTerm_b74 k_Server_loadTerm_b125
    refine WP_b ?_
    generalize csI (csI c 13 s 10 0 x) 13 s 11 0 y = c2 at h2 s7
    generalize aI (aI a 53 s x) 54 s y = a2 at h2 w2 b45 b46
    have eLT : aTermAt a2 s (aS a2 56 s) = aLastTerm a2 s := rfl
    rw [K_r h2 (F := 56) (cl := 9) (f := 6) (by decide) hs, K_termAt h2 hs w2, eLT]
    refine WP_b ?_
    rw [K_r h2 (F := 53) (cl := 13) (f := 10) (by decide) hs]
    show WP (if xc2 .le (aLastTerm a2 s) (aS a2 53 s) = true then _ else _) _
    by_cases q : aS a2 53 s < aLastTerm a2 s
    · rw [if_neg (fun z => Int32.not_le.mpr q (c2_le.mp z)), if_pos q]
      have h3 := RC_I (x := aLastTerm a2 s) h2 (F := 53) (cl := 13) (f := 10) (i := s) (by decide) (by decide)
      have h4 := RC_I (x := -1) h3 (F := 54) (cl := 13) (f := 11) (i := s) (by decide) (by decide)
      have s8 : cI (csI (csI c2 13 s 10 0 (aLastTerm a2 s)) 13 s 11 0 (-1)) 6 s 7 0 = 0 := (csI_cl (by decide)).trans ((csI_cl (by decide)).trans s7)
      refine WP_b (WP_b ?_)
      generalize csI (csI c2 13 s 10 0 (aLastTerm a2 s)) 13 s 11 0 (-1) = c4 at h4 s8
      have b45' : aS (aI (aI a2 53 s (aLastTerm a2 s)) 54 s (-1)) 45 s = aS a 45 s := (aS_If (by decide)).trans ((aS_If (by decide)).trans b45)
      have b46' : aS (aI (aI a2 53 s (aLastTerm a2 s)) 54 s (-1)) 46 s = 0 := (aS_If (by decide)).trans ((aS_If (by decide)).trans b46)
      generalize aI (aI a2 53 s (aLastTerm a2 s)) 54 s (-1) = a4 at h4 b45' b46'
      rw [K_r h4 (F := 53) (cl := 13) (f := 10) (by decide) hs, K_r h4 (F := 54) (cl := 13) (f := 11) (by decide) hs]
      exact WP_call (K_laySlotD h4 hs (by rw [s8, b46']) ⟨by rw [b45']; exact h45, Or.inl b46'⟩) (fun c5 h5 => WP_some h5)
    · rw [if_pos (c2_le.mpr (Int32.not_lt.mp q)), if_neg q]
      exact WP_some h2
  unfold k_Server_loadTerm k_Server_loadTerm_b0 k_Server_loadTerm_b16 k_Server_loadTerm_b44
  rcases h45 with z | z
  · rw [e45.trans z, if_pos (show xc2 .eq (-1 : Int32) (-1) = true by decide), if_pos (show xc0 .eq (0 : Int32) = true by decide)]
    refine WP_b ?_
    rw [if_pos (show xc0 .eq (0 : Int32) = true by decide)]
    exact go 0 (-1) (by rw [z]; rfl) (by rw [z]; rfl)
  · obtain ⟨f, f1, f2, f3⟩ := slot_f z
    obtain ⟨y1, _⟩ := h.2.2.2.2.2.2.2.2.2.1 s hs f (by omega)
    have n1 : ¬ xc2 .eq (aS a 45 s) (-1) = true := fun y => by
      have y := c2_eq.mp y
      rw [y] at z
      rcases z with z | z
      · exact absurd z (by decide)
      · exact absurd z (by decide)
    have n2 : ¬ aS a 45 s < 0 := by
      rcases z with z | z
      · rw [z]
        decide
      · rw [z]
        decide
    have g45 : cI (csI c 13 s 10 0 ((aFc a s f).1 3)) 6 s 6 0 = aS a 45 s := (csI_cl (by decide)).trans e45
    rw [e45, if_neg n1, if_neg (show ¬ xc0 .eq (1 : Int32) = true by decide)]
    have ex : cix 6 0 (aS a 45 s) = some f := by
      rw [f2]
      exact cix0 (by omega)
    rw [ex]
    refine WP_b ?_
    rw [y1.2.2.2.1]
    refine WP_b ?_
    rw [if_neg (show ¬ xc0 .eq (1 : Int32) = true by decide), g45, ex]
    refine WP_b ?_
    rw [show cI (csI c 13 s 10 0 ((aFc a s f).1 3)) 11 (30 * s + cpg f) 4 0 = (aFc a s f).1 4 from (csI_cl (by decide)).trans y1.2.2.2.2.1]
    exact go _ _ (by rw [if_neg n2, f3]) (by rw [if_neg n2, f3])
/-! the numbers of a server that is up -/
def upD : List Nat := [424, 425, 428, 429, 430, 431, 432, 433, 435, 224, 225, 226, 227, 228, 229, 230, 231, 232, 233, 234, 384, 392]
theorem upD_s : ∀ y ∈ sT, y.1 ∉ [52, 71, 73, 74, 79, 69, 80] → 32 * y.2.1 + y.2.2 ∉ upD ∧ y.2.2 < 32 := by decide
theorem upD_7 : ∀ k ∈ [52, 71, 73, 74, 79, 69, 80], ∀ y ∈ sT, y.1 = k → (y.2.1 = 13 ∨ y.2.1 = 7) := by decide
def upL (z : Int32) : List (Nat × Int32) := [(67, z), (52, 1), (71, 0), (73, 0), (74, -1), (78, -2000000000), (79, 0), (69, -1), (80, -1)]
theorem lk_up {F : Nat} {z : Int32} (h : F ∉ [52, 71, 73, 74, 79, 69, 80]) (h67 : F ≠ 67) (h78 : F ≠ 78) : lk F (upL z) = none := by
  simp only [List.mem_cons, List.not_mem_nil, or_false, not_or] at h
  obtain ⟨h1, h2, h3, h4, h5, h6, h7⟩ := h
  simp only [upL, lk, if_neg (Ne.symm h1), if_neg (Ne.symm h2), if_neg (Ne.symm h3), if_neg (Ne.symm h4), if_neg (Ne.symm h5), if_neg (Ne.symm h6), if_neg (Ne.symm h7), if_neg (Ne.symm h67), if_neg (Ne.symm h78)]
theorem RC_up {c c5 : CS} {a : AA} {s n0 : Nat} {z : Int32} {M : AM} {H : List (Nat × Option AL)} {U : Nat → Int32} {N : Nat × Nat} (h : RC c a ((H, U), N)) (hs : s < 7) (hF : Ck upD s c c5) (hT : cT c5 = cT c) (h7 : cI c 6 s 7 0 = 0) (h46 : aS a 46 s = 0) (hrq : aRq a s = []) (h151 : aS a 151 s = Int32.ofNat n0) (hn0 : n0 < 2147483648)
    (e8 : cI c5 13 s 8 0 = 1) (e9 : cI c5 13 s 9 0 = 0) (e12 : cI c5 13 s 12 0 = 0) (e13 : cI c5 13 s 13 0 = -1) (e14 : cI c5 13 s 14 0 = -1) (e15 : cI c5 13 s 15 0 = 0) (e16 : cI c5 13 s 16 0 = -1) (e19 : cI c5 13 s 19 0 = 0) (e10 : cI c5 7 s 10 0 = -1) (r0 : ∀ w, w < 32 → cI c5 12 s 0 w = 0) (r8 : cI c5 12 s 8 0 = 0)
    (hsh : shOK (sI a.1 s (upL z), (aShS a s M).2) s) : RC c5 (sI a.1 s (upL z), (aShS a s M).2) ((H, aU U s 0), N) := by
  have v : ∀ f i, aS (sI a.1 s (upL z), (aShS a s M).2) f i = if i = s then (lk f (upL z)).getD (aS a f i) else aS a f i := fun f i => sI_v _ _ _ _ _
  have vo : ∀ f, f ∉ [52, 71, 73, 74, 79, 69, 80] → f ≠ 67 → f ≠ 78 → ∀ i, aS (sI a.1 s (upL z), (aShS a s M).2) f i = aS a f i := by
    intro f h1 h2 h3 i
    rw [v, lk_up h1 h2 h3]
    split <;> rfl
  have vn : ∀ f i, i ≠ s → aS (sI a.1 s (upL z), (aShS a s M).2) f i = aS a f i := fun f i q => (v f i).trans (if_neg q)
  have vs : ∀ f, aS (sI a.1 s (upL z), (aShS a s M).2) f s = (lk f (upL z)).getD (aS a f s) := fun f => (v f s).trans (if_pos rfl)
  have v2 : (sI a.1 s (upL z), (aShS a s M).2).1.2 = a.1.2 := sI_2 _ _ _
  have hsc : KSc c5 (sI a.1 s (upL z), (aShS a s M).2) := by
    intro y hy i hi
    by_cases q : y.1 ∈ [52, 71, 73, 74, 79, 69, 80]
    · by_cases qi : i = s
      · subst qi
        rw [vs]
        have u := fun k => sT_u y hy k
        simp only [List.mem_cons, List.not_mem_nil, or_false] at q
        rcases q with q | q | q | q | q | q | q
        · obtain ⟨q1, q2⟩ := (u (52, 13, 8) (by decide)).mp q
          rw [q, show y.2.1 = 13 from q1, show y.2.2 = 8 from q2]
          exact e8
        · obtain ⟨q1, q2⟩ := (u (71, 13, 9) (by decide)).mp q
          rw [q, show y.2.1 = 13 from q1, show y.2.2 = 9 from q2]
          exact e9
        · obtain ⟨q1, q2⟩ := (u (73, 13, 12) (by decide)).mp q
          rw [q, show y.2.1 = 13 from q1, show y.2.2 = 12 from q2]
          exact e12
        · obtain ⟨q1, q2⟩ := (u (74, 13, 13) (by decide)).mp q
          rw [q, show y.2.1 = 13 from q1, show y.2.2 = 13 from q2]
          exact e13
        · obtain ⟨q1, q2⟩ := (u (79, 13, 15) (by decide)).mp q
          rw [q, show y.2.1 = 13 from q1, show y.2.2 = 15 from q2]
          exact e15
        · obtain ⟨q1, q2⟩ := (u (69, 13, 16) (by decide)).mp q
          rw [q, show y.2.1 = 13 from q1, show y.2.2 = 16 from q2]
          exact e16
        · obtain ⟨q1, q2⟩ := (u (80, 7, 10) (by decide)).mp q
          rw [q, show y.2.1 = 7 from q1, show y.2.2 = 10 from q2]
          exact e10
      · rw [vn _ _ qi]
        have z1 := upD_7 y.1 q y hy rfl
        have lt : y.2.2 < 32 := (by decide : ∀ y ∈ sT, y.2.2 < 32) y hy
        rw [(hF y.2.1 i y.2.2 lt (Or.inr ⟨by rcases z1 with z1 | z1 <;> rw [z1] <;> rfl, by
          have : cOwn y.2.1 i = i := by
            unfold cOwn
            rw [if_neg (by omega)]
          rw [this]
          exact qi⟩)).1]
        exact h.1 y hy i hi
    · have nn : ∀ y ∈ sT, y.1 ≠ 67 ∧ y.1 ≠ 78 := by decide
      rw [vo y.1 q (nn y hy).1 (nn y hy).2]
      obtain ⟨d1, d2⟩ := upD_s y hy q
      rw [(hF y.2.1 i y.2.2 d2 (Or.inl d1)).1]
      exact h.1 y hy i hi
  refine ⟨hsc, fun t ht hu => ?_, fun t ht => ?_, fun t ht hr => ?_, fun t ht hu => ?_, ?_, ?_, fun t ht => ?_, fun t ht => KG_fr hF (by decide) (h.2.2.2.2.2.2.2.2.1 t ht), fun t ht => KPg_fr hF (by decide) (h.2.2.2.2.2.2.2.2.2.1 t ht), fun t ht => KCh_fr hF (by decide) (h.2.2.2.2.2.2.2.2.2.2.1 t ht), fun t ht => KMc_fr hF (by decide) (h.2.2.2.2.2.2.2.2.2.2.2.1 t ht), fun t ht => ?_, fun k hk => ?_, fun k hk => KDn_fr hF (by decide) (h.2.2.2.2.2.2.2.2.2.2.2.2.2.2.1 k hk), KAk_fr hF (by decide) h.2.2.2.2.2.2.2.2.2.2.2.2.2.2.2.1, KFc_fr hF (by decide) h.2.2.2.2.2.2.2.2.2.2.2.2.2.2.2.2.1, fun t ht => ?_, fun k hk => KIc_fr hF (by decide) (h.2.2.2.2.2.2.2.2.2.2.2.2.2.2.2.2.2.2.1 k hk), KLt_fr hF hT (by decide) h.2.2.2.2.2.2.2.2.2.2.2.2.2.2.2.2.2.2.2.1, KRm_fr (v := ((H, U), N)) hF hT (by decide) h.2.2.2.2.2.2.2.2.2.2.2.2.2.2.2.2.2.2.2.2.1, fun t ht hu => ?_, ?_⟩
  · rw [vo 46 (by decide) (by decide) (by decide)]
    by_cases q : t = s
    · rw [q, h46]
      exact KFr_fr (x := 0) hF (by decide) h7
    · rw [vn 52 t q] at hu
      exact KFr_fr hF (by decide) (h.2.1 t ht hu)
  · by_cases q : t = s
    · rw [q, vs]
      show cI c5 13 s 14 0 = if (-2000000000 : Int32) = -2000000000 then -1 else (-2000000000 : Int32)
      rw [if_pos rfl]
      exact e14
    · rw [vn 78 t q]
      exact KHd_ne hF (by decide) q (h.2.2.1 t ht)
  · by_cases q : t = s
    · rw [q, vs] at hr
      exact absurd (show (0 : Int32) = 3 from hr) (by decide)
    · rw [vn 73 t q] at hr
      have := KLd_ne hF (by decide) q (h.2.2.2.1 t ht hr)
      unfold KLd at this ⊢
      simp only [vo 82 (by decide) (by decide) (by decide), vo 83 (by decide) (by decide) (by decide), vo 86 (by decide) (by decide) (by decide), vo 87 (by decide) (by decide) (by decide), vo 88 (by decide) (by decide) (by decide), vo 89 (by decide) (by decide) (by decide), vo 90 (by decide) (by decide) (by decide), vo 91 (by decide) (by decide) (by decide), vo 92 (by decide) (by decide) (by decide), vo 93 (by decide) (by decide) (by decide)]
      exact this
  · rw [vo 151 (by decide) (by decide) (by decide)]
    show KRq c5 t (aS a 151 t) (aRq a t)
    by_cases q : t = s
    · rw [q, hrq, h151]
      exact ⟨n0, rfl, hn0, List.Pairwise.nil, fun x hx => absurd hx List.not_mem_nil, fun w hw => (r0 w hw).trans (if_neg List.not_mem_nil).symm, r8⟩
    · rw [vn 52 t q] at hu
      exact KRq_ne hF (by decide) q (h.2.2.2.2.1 t ht hu)
  · have := KBl_fr hF (by decide) h.2.2.2.2.2.1
    unfold KBl aBn aBt at this ⊢
    simp only [vo 29 (by decide) (by decide) (by decide), vo 30 (by decide) (by decide) (by decide), vo 31 (by decide) (by decide) (by decide), vo 32 (by decide) (by decide) (by decide)]
    exact this
  · have := KDa_fr hF (by decide) h.2.2.2.2.2.2.1
    unfold KDa at this ⊢
    simp only [vo 23 (by decide) (by decide) (by decide), vo 72 (by decide) (by decide) (by decide), v2]
    exact this
  · have := KLw_fr hF (by decide) (h.2.2.2.2.2.2.2.1 t ht)
    unfold KLw at this ⊢
    simp only [vo 43 (by decide) (by decide) (by decide)]
    exact this
  · by_cases q : t = s
    · rw [q, vs]
      exact Or.inl rfl
    · rw [vn 69 t q, vo 70 (by decide) (by decide) (by decide)]
      exact KPc_ne hF (by decide) q (h.2.2.2.2.2.2.2.2.2.2.2.2.1 t ht)
  · rw [vo 124 (by decide) (by decide) (by decide), vo 137 (by decide) (by decide) (by decide), vo 131 (by decide) (by decide) (by decide), vo 130 (by decide) (by decide) (by decide)]
    exact KCl_fr hF (by decide) (h.2.2.2.2.2.2.2.2.2.2.2.2.2.1 k hk)
  · rw [vo 145 (by decide) (by decide) (by decide)]
    have hid := h.2.2.2.2.2.2.2.2.2.2.2.2.2.2.2.2.2.1 t ht
    by_cases q : t = s
    · subst q
      exact ⟨((hF 13 t 0 (by decide) (Or.inl (by decide))).1 0).trans hid.1, ((hF 9 t 0 (by decide) (Or.inl (by decide))).1 0).trans hid.2.1, e19.trans (if_pos rfl).symm⟩
    · have e : aU U s 0 t = U t := if_neg q
      show KId c5 t (aS a 145 0) (aU U s 0 t)
      rw [e]
      exact KId_ne hF (by decide) q hid
  · by_cases q : t = s
    · rw [q]
      exact hsh
    · rw [vn 52 t q] at hu
      exact shOK_f (h.2.2.2.2.2.2.2.2.2.2.2.2.2.2.2.2.2.2.2.2.2.1 t ht hu) (vo 47 (by decide) (by decide) (by decide) t) (vn 67 t q) (if_neg q) (fun _ _ => rfl)
  · obtain ⟨n1, n2, n3, n4, n5, n6⟩ := h.2.2.2.2.2.2.2.2.2.2.2.2.2.2.2.2.2.2.2.2.2.2
    unfold nwOK aNow at *
    simp only [vo 1 (by decide) (by decide) (by decide), vo 72 (by decide) (by decide) (by decide), vo 27 (by decide) (by decide) (by decide)]
    refine ⟨n1, n2, n3, fun t ht => ?_, n5, n6⟩
    by_cases q : t = s
    · rw [q, vs]
      exact Or.inl rfl
    · rw [vn 71 t q]
      exact n4 t ht
/-! what a disk was read into is what coming up makes of it -/
theorem lk_u0 {x45 x47 b T D l m k x53 x54 z : Int32} : ∀ f, lk f [(45, x45), (47, x47), (46, 0), (55, b), (57, T), (58, D), (56, l), (64, m), (65, k), (75, b), (76, b), (77, l), (53, x53), (54, x54), (46, 0), (67, z), (52, 1), (71, 0), (73, 0), (74, -1), (78, -2000000000), (79, 0), (69, -1), (80, -1)] = lk f [(52, 1), (45, x45), (47, x47), (53, x53), (54, x54), (55, b), (57, T), (58, D), (67, z), (56, l), (46, 0), (71, 0), (64, m), (65, k), (73, 0), (74, -1), (75, b), (76, b), (77, l), (78, -2000000000), (79, 0), (80, -1), (69, -1)] := by
  intro f
  by_cases h45 : 45 = f
  · subst h45
    rfl
  by_cases h47 : 47 = f
  · subst h47
    rfl
  by_cases h46 : 46 = f
  · subst h46
    rfl
  by_cases h55 : 55 = f
  · subst h55
    rfl
  by_cases h57 : 57 = f
  · subst h57
    rfl
  by_cases h58 : 58 = f
  · subst h58
    rfl
  by_cases h56 : 56 = f
  · subst h56
    rfl
  by_cases h64 : 64 = f
  · subst h64
    rfl
  by_cases h65 : 65 = f
  · subst h65
    rfl
  by_cases h75 : 75 = f
  · subst h75
    rfl
  by_cases h76 : 76 = f
  · subst h76
    rfl
  by_cases h77 : 77 = f
  · subst h77
    rfl
  by_cases h53 : 53 = f
  · subst h53
    rfl
  by_cases h54 : 54 = f
  · subst h54
    rfl
  by_cases h67 : 67 = f
  · subst h67
    rfl
  by_cases h52 : 52 = f
  · subst h52
    rfl
  by_cases h71 : 71 = f
  · subst h71
    rfl
  by_cases h73 : 73 = f
  · subst h73
    rfl
  by_cases h74 : 74 = f
  · subst h74
    rfl
  by_cases h78 : 78 = f
  · subst h78
    rfl
  by_cases h79 : 79 = f
  · subst h79
    rfl
  by_cases h69 : 69 = f
  · subst h69
    rfl
  by_cases h80 : 80 = f
  · subst h80
    rfl
  simp only [lk, if_neg h45, if_neg h47, if_neg h46, if_neg h55, if_neg h57, if_neg h58, if_neg h56, if_neg h64, if_neg h65, if_neg h75, if_neg h76, if_neg h77, if_neg h53, if_neg h54, if_neg h67, if_neg h52, if_neg h71, if_neg h73, if_neg h74, if_neg h78, if_neg h79, if_neg h69, if_neg h80]
theorem lk_u1 {x45 x47 b T D l m k x53 x54 t w g z : Int32} : ∀ f, lk f [(45, x45), (47, x47), (46, 0), (55, b), (57, T), (58, D), (56, l), (64, m), (65, k), (75, b), (76, b), (77, l), (53, x53), (54, x54), (53, t), (54, -1), (150, w), (45, g), (46, 1), (46, 0), (67, z), (52, 1), (71, 0), (73, 0), (74, -1), (78, -2000000000), (79, 0), (69, -1), (80, -1)] = lk f [(52, 1), (45, x45), (47, x47), (53, x53), (54, x54), (55, b), (57, T), (58, D), (67, z), (56, l), (53, t), (54, -1), (150, w), (45, g), (46, 1), (46, 0), (71, 0), (64, m), (65, k), (73, 0), (74, -1), (75, b), (76, b), (77, l), (78, -2000000000), (79, 0), (80, -1), (69, -1)] := by
  intro f
  by_cases h45 : 45 = f
  · subst h45
    rfl
  by_cases h47 : 47 = f
  · subst h47
    rfl
  by_cases h46 : 46 = f
  · subst h46
    rfl
  by_cases h55 : 55 = f
  · subst h55
    rfl
  by_cases h57 : 57 = f
  · subst h57
    rfl
  by_cases h58 : 58 = f
  · subst h58
    rfl
  by_cases h56 : 56 = f
  · subst h56
    rfl
  by_cases h64 : 64 = f
  · subst h64
    rfl
  by_cases h65 : 65 = f
  · subst h65
    rfl
  by_cases h75 : 75 = f
  · subst h75
    rfl
  by_cases h76 : 76 = f
  · subst h76
    rfl
  by_cases h77 : 77 = f
  · subst h77
    rfl
  by_cases h53 : 53 = f
  · subst h53
    rfl
  by_cases h54 : 54 = f
  · subst h54
    rfl
  by_cases h150 : 150 = f
  · subst h150
    rfl
  by_cases h67 : 67 = f
  · subst h67
    rfl
  by_cases h52 : 52 = f
  · subst h52
    rfl
  by_cases h71 : 71 = f
  · subst h71
    rfl
  by_cases h73 : 73 = f
  · subst h73
    rfl
  by_cases h74 : 74 = f
  · subst h74
    rfl
  by_cases h78 : 78 = f
  · subst h78
    rfl
  by_cases h79 : 79 = f
  · subst h79
    rfl
  by_cases h69 : 69 = f
  · subst h69
    rfl
  by_cases h80 : 80 = f
  · subst h80
    rfl
  simp only [lk, if_neg h45, if_neg h47, if_neg h46, if_neg h55, if_neg h57, if_neg h58, if_neg h56, if_neg h64, if_neg h65, if_neg h75, if_neg h76, if_neg h77, if_neg h53, if_neg h54, if_neg h150, if_neg h67, if_neg h52, if_neg h71, if_neg h73, if_neg h74, if_neg h78, if_neg h79, if_neg h69, if_neg h80]
theorem lay_p {a : AA} {s f : Nat} (hf : f < 2) (h46 : aS a 46 s = 0) (h45 : (if aS a 45 s = 1 then 0 else 1 : Int32) = Int32.ofNat f) : z43 s 0 (aLaySlot a s).1 = sI (z43 s 0 a.1) s [(150, aS a 150 s + 1), (45, Int32.ofNat f), (46, 1)] ∧ (aLaySlot a s).2 = (aFcS a s (aU (aFc a s) f (aF 1 32 (aS a 150 s + 1) (aS a 53 s) (aS a 54 s) [] ([], [])))).2 := by
  have e := laySlot_e (a := a) (s := s) (x := Int32.ofNat f) rfl hf (by rw [if_pos h46]; exact h45.symm)
  have e150 : aS (aAdd a 150 s 1) 150 s = aS a 150 s + 1 := if_pos ⟨rfl, rfl⟩
  rw [e150] at e
  rw [e]
  refine ⟨?_, rfl⟩
  show z43 s 0 (setI (setI (setI (setI a.1 150 s (aS a 150 s + 1)) 43 (16 * s + f) 0) 45 s (Int32.ofNat f)) 46 s 1) = _
  rw [← z43_st (by decide), ← z43_st (by decide), z43_set (by omega), ← z43_st (by decide)]
  rfl
theorem tidy_z {R : AA} {s : Nat} {c : List Nat} (hs : s < 7) : z43 s 0 (aTidy R s c aSegs).1 = z43 s 0 R.1 ∧ (aTidy R s c aSegs).2 = (aFcS R s (aTdF R s c aSegs)).2 := by
  obtain ⟨g, e, eg⟩ := aTidy_e (a := R) (c := c) hs aSegs segs_nodup (fun f hf => (seg_mem.mp hf).2)
  rw [e]
  refine ⟨?_, rfl⟩
  refine Prod.ext (funext fun f => funext fun i => ?_) rfl
  show (if f = 43 ∧ i / 16 = s ∧ 0 ≤ i % 16 then 0 else g f i) = if f = 43 ∧ i / 16 = s ∧ 0 ≤ i % 16 then 0 else R.1.1 f i
  by_cases q : f = 43 ∧ i / 16 = s ∧ 0 ≤ i % 16
  · rw [if_pos q, if_pos q]
  · rw [if_neg q, if_neg q]
    exact eg f i (fun z => q ⟨z.1, z.2, Nat.zero_le _⟩)
def upW (Y : AA) (s b : Nat) (T D x53 x54 : Int32) (M : AM) (es : List AE) : AA := aI (aI (sI Y.1 s (ldL b T D es), (aLgS (aMcS Y s M) s es).2) 53 s x53) 54 s x54
def upT (a : AA) (s : Nat) : AA := if aS a 53 s < aLastTerm a s then aLaySlot (aI (aI a 53 s (aLastTerm a s)) 54 s (-1)) s else a
def upX (a : AA) (s b : Nat) (x45 x47 x53 x54 T D z : Int32) (M : AM) : AA := (sI a.1 s [(52, 1), (45, x45), (47, x47), (53, x53), (54, x54), (55, Int32.ofNat b), (57, T), (58, D), (67, z)], (aShS a s M).2)
def upV (R : AA) (s b : Nat) (ch : List Nat) (es : List AE) : AA := aI (aLgS (aChS (aTidy R s ch aSegs) s ch) s es) 56 s (Int32.ofNat b + Int32.ofNat es.length)
theorem up_eq {a Y : AA} {s b : Nat} {x45 x47 x53 x54 T D z : Int32} {M : AM} {ch : List Nat} {es : List AE} (hs : s < 7) (h46 : aS a 46 s = 0)
    (hY : zA s 0 Y = zA s 0 (aFcS (aChS (aI (aI (aI a 45 s x45) 47 s x47) 46 s 0) s ch) s (aTdF a s ch aSegs))) :
    (sI (aI (aSyncFiles (upT (upW Y s b T D x53 x54 M es) s) s 16) 46 s 0).1 s (upL z), (aShS (aI (aSyncFiles (upT (upW Y s b T D x53 x54 M es) s) s 16) 46 s 0) s M).2) = stA (aFindCode (A_syncAll (upT (upV (upX a s b x45 x47 x53 x54 T D z M) s b ch es) s) s) s) s := by
  have y1 : z43 s 0 Y.1 = sI (z43 s 0 a.1) s [(45, x45), (47, x47), (46, 0)] := by
    have := congrArg Prod.fst hY
    refine Eq.trans this ?_
    show z43 s 0 (sI a.1 s [(45, x45), (47, x47), (46, 0)]) = _
    exact z43_sI _ _ rfl
  have y2 : Y.2 = (aFcS (aChS a s ch) s (aTdF a s ch aSegs)).2 := by
    have h := congrArg (fun x : AA => x.2) hY
    exact h
  -- the class's side
  have w1 : z43 s 0 (upW Y s b T D x53 x54 M es).1 = sI (z43 s 0 a.1) s ([(45, x45), (47, x47), (46, 0)] ++ ldL b T D es ++ [(53, x53), (54, x54)]) := by
    show z43 s 0 (sI (sI Y.1 s (ldL b T D es)) s [(53, x53), (54, x54)]) = _
    rw [sI_app, z43_sI _ _ rfl, y1, sI_app]
    rfl
  have w2 : (upW Y s b T D x53 x54 M es).2 = (aLgS (aMcS (aFcS (aChS a s ch) s (aTdF a s ch aSegs)) s M) s es).2 := by
    show (Y.2.1, Y.2.2.1, aU Y.2.2.2.1 s es, aU Y.2.2.2.2.1 s M, Y.2.2.2.2.2) = _
    rw [y2]
    rfl
  -- the store's side
  obtain ⟨t1, t2⟩ := tidy_z (R := upX a s b x45 x47 x53 x54 T D z M) (c := ch) hs
  have v1 : z43 s 0 (upV (upX a s b x45 x47 x53 x54 T D z M) s b ch es).1 = sI (z43 s 0 a.1) s [(52, 1), (45, x45), (47, x47), (53, x53), (54, x54), (55, Int32.ofNat b), (57, T), (58, D), (67, z), (56, Int32.ofNat b + Int32.ofNat es.length)] := by
    show z43 s 0 (setI (aTidy (upX a s b x45 x47 x53 x54 T D z M) s ch aSegs).1 56 s (Int32.ofNat b + Int32.ofNat es.length)) = _
    rw [← z43_st (by decide), t1]
    show setI (z43 s 0 (sI a.1 s [(52, 1), (45, x45), (47, x47), (53, x53), (54, x54), (55, Int32.ofNat b), (57, T), (58, D), (67, z)])) 56 s (Int32.ofNat b + Int32.ofNat es.length) = _
    rw [z43_sI _ _ rfl]
    rfl
  have v2 : (upV (upX a s b x45 x47 x53 x54 T D z M) s b ch es).2 = (aLgS (aShS (aFcS (aChS a s ch) s (aTdF a s ch aSegs)) s M) s es).2 := by
    show (let B := aTidy (upX a s b x45 x47 x53 x54 T D z M) s ch aSegs; (B.2.1, B.2.2.1, aU B.2.2.2.1 s es, B.2.2.2.2.1, B.2.2.2.2.2.1, B.2.2.2.2.2.2.1, B.2.2.2.2.2.2.2.1, B.2.2.2.2.2.2.2.2.1, aU B.2.2.2.2.2.2.2.2.2.1 s ch, B.2.2.2.2.2.2.2.2.2.2)) = _
    dsimp only
    rw [t2]
    rfl
  have el : Int32.ofNat b + Int32.ofNat es.length = Int32.ofNat (b + es.length) := i_ad
  rw [el] at v1
  generalize hW : upW Y s b T D x53 x54 M es = W at w1 w2
  generalize hV : upV (upX a s b x45 x47 x53 x54 T D z M) s b ch es = V at v1 v2
  clear hW hV hY t1 t2 y1 y2
  -- values of numbers but 43
  have vz : ∀ (P : AA) (L : List (Nat × Int32)), z43 s 0 P.1 = sI (z43 s 0 a.1) s L → ∀ f, f ≠ 43 → aS P f s = (lk f L).getD (aS a f s) := by
    intro P L e f hf
    have h1 := congrArg (fun x : RS => x.1 f s) e
    have h2 : (if f = 43 ∧ s / 16 = s ∧ 0 ≤ s % 16 then 0 else P.1.1 f s) = (sI (z43 s 0 a.1) s L).1 f s := h1
    rw [if_neg (fun z => hf z.1), sI_v, if_pos rfl] at h2
    refine h2.trans ?_
    show (lk f L).getD (if f = 43 ∧ s / 16 = s ∧ 0 ≤ s % 16 then 0 else a.1.1 f s) = _
    rw [if_neg (fun z => hf z.1)]
    rfl
  have gW := vz W _ w1
  have gV := vz V _ v1
  have lgW : aLg W s = es := by
    have := congrArg (fun x : AX => x.2.2.1 s) w2
    exact this.trans (if_pos rfl)
  have lgV : aLg V s = es := by
    have := congrArg (fun x : AX => x.2.2.1 s) v2
    exact this.trans (if_pos rfl)
  have et : aLastTerm W s = aLastTerm V s := aLastTerm_c ((gW 55 (by decide)).trans (gV 55 (by decide)).symm) ((gW 56 (by decide)).trans (gV 56 (by decide)).symm) ((gW 57 (by decide)).trans (gV 57 (by decide)).symm) (lgW.trans lgV.symm)
  have e53 : aS W 53 s = aS V 53 s := (gW 53 (by decide)).trans (gV 53 (by decide)).symm
  -- what holds of both behind the term, and the end
  have key : ∀ (W2 V2 : AA) (LL : List (Nat × Int32)) (G : Nat → AF), z43 s 0 W2.1 = sI (z43 s 0 a.1) s ([(45, x45), (47, x47), (46, 0)] ++ ldL b T D es ++ [(53, x53), (54, x54)] ++ LL) → z43 s 0 V2.1 = sI (z43 s 0 a.1) s ([(52, 1), (45, x45), (47, x47), (53, x53), (54, x54), (55, Int32.ofNat b), (57, T), (58, D), (67, z), (56, Int32.ofNat (b + es.length))] ++ LL) →
      W2.2 = (aLgS (aMcS (aFcS (aChS a s ch) s G) s M) s es).2 → V2.2 = (aLgS (aShS (aFcS (aChS a s ch) s G) s M) s es).2 → (∀ f, f ∈ [55, 56, 58] → lk f LL = none) →
      (∀ σ : RS, sI σ s ([(45, x45), (47, x47), (46, 0)] ++ ldL b T D es ++ [(53, x53), (54, x54)] ++ LL ++ ((46, 0) :: upL z)) = sI σ s ([(52, 1), (45, x45), (47, x47), (53, x53), (54, x54), (55, Int32.ofNat b), (57, T), (58, D), (67, z), (56, Int32.ofNat (b + es.length))] ++ LL ++ [(46, 0), (71, 0), (64, Int32.ofNat b + Int32.ofNat (aMemAt es)), (65, aMemC D es), (73, 0), (74, -1), (75, Int32.ofNat b), (76, Int32.ofNat b), (77, Int32.ofNat (b + es.length)), (78, -2000000000), (79, 0), (80, -1), (69, -1)])) →
      (sI (aI (aSyncFiles W2 s 16) 46 s 0).1 s (upL z), (aShS (aI (aSyncFiles W2 s 16) 46 s 0) s M).2) = stA (aFindCode (A_syncAll V2 s) s) s := by
    intro W2 V2 LL G a1 a2 a3 a4 a5 a6
    have l3 : ∀ (f : Nat) (L L' : List (Nat × Int32)), lk f L' = none → lk f (L ++ L') = lk f L := by
      intro f L L' h
      induction L with
      | nil => exact h
      | cons p r ih =>
        show (match lk f (r ++ L') with
          | some w => some w
          | none => if p.1 = f then some p.2 else none) = _
        rw [ih]
        rfl
    have gV2 := vz V2 _ a2
    have q55 : aS V2 55 s = Int32.ofNat b := by
      rw [gV2 55 (by decide), l3 55 _ _ (a5 55 (by decide))]
      rfl
    have q56 : aS V2 56 s = Int32.ofNat (b + es.length) := by
      rw [gV2 56 (by decide), l3 56 _ _ (a5 56 (by decide))]
      rfl
    have q58 : aS V2 58 s = D := by
      rw [gV2 58 (by decide), l3 58 _ _ (a5 58 (by decide))]
      rfl
    have lgV2 : aLg V2 s = es := by
      have := congrArg (fun x : AX => x.2.2.1 s) a4
      exact this.trans (if_pos rfl)
    have fW : aFc W2 s = G := by
      have := congrArg (fun x : AX => x.2.2.2.2.2.2.1 s) a3
      exact this.trans (if_pos rfl)
    have fV : aFc V2 s = G := by
      have := congrArg (fun x : AX => x.2.2.2.2.2.2.1 s) a4
      exact this.trans (if_pos rfl)
    have kW : aFk W2 s = aFk a s := by
      have h := congrArg (fun x : AX => x.2.2.2.2.2.2.2.1 s) a3
      exact h
    have kV : aFk V2 s = aFk a s := by
      have h := congrArg (fun x : AX => x.2.2.2.2.2.2.2.1 s) a4
      exact h
    have eA : A_syncAll V2 s = aI (aI (aSyncFiles V2 s 16) 46 s 0) 71 s 0 := rfl
    rw [eA, sync_16, sync_16, fW, fV, kW, kV]
    generalize hk : (fun f => if f < 16 then G f else aFk a s f) = Kf
    -- the code that is found
    have eC : aFindCode (aI (aI ((y43 s (fun f => (G f).1 1) V2.1, (aFkS V2 s Kf).2) : AA) 46 s 0) 71 s 0) s = (sI (y43 s (fun f => (G f).1 1) V2.1) s [(46, 0), (71, 0), (64, Int32.ofNat b + Int32.ofNat (aMemAt es)), (65, aMemC D es)], (aFkS V2 s Kf).2) := by
      unfold aFindCode
      have c55 : aBase (aI (aI ((y43 s (fun f => (G f).1 1) V2.1, (aFkS V2 s Kf).2) : AA) 46 s 0) 71 s 0) s = Int32.ofNat b := (aS_If (by decide)).trans ((aS_If (by decide)).trans ((y43_f (s := s) (sz := fun f => (G f).1 1) (by decide)).trans q55))
      have c58 : aS (aI (aI ((y43 s (fun f => (G f).1 1) V2.1, (aFkS V2 s Kf).2) : AA) 46 s 0) 71 s 0) 58 s = D := (aS_If (by decide)).trans ((aS_If (by decide)).trans ((y43_f (s := s) (sz := fun f => (G f).1 1) (by decide)).trans q58))
      have clg : aLg (aI (aI ((y43 s (fun f => (G f).1 1) V2.1, (aFkS V2 s Kf).2) : AA) 46 s 0) 71 s 0) s = es := lgV2
      rw [c55, c58, clg]
      rfl
    rw [eC]
    have d55 : ∀ (L : List (Nat × Int32)) (x : AX), lk 55 L = none → aS ((sI (y43 s (fun f => (G f).1 1) V2.1) s L, x) : AA) 55 s = Int32.ofNat b := by
      intro L x hL
      show (sI _ s L).1 55 s = _
      rw [sI_v, if_pos rfl, hL]
      exact (y43_f (by decide)).trans q55
    have d56 : ∀ (L : List (Nat × Int32)) (x : AX), lk 56 L = none → aS ((sI (y43 s (fun f => (G f).1 1) V2.1) s L, x) : AA) 56 s = Int32.ofNat (b + es.length) := by
      intro L x hL
      show (sI _ s L).1 56 s = _
      rw [sI_v, if_pos rfl, hL]
      exact (y43_f (by decide)).trans q56
    have eS : stA ((sI (y43 s (fun f => (G f).1 1) V2.1) s [(46, 0), (71, 0), (64, Int32.ofNat b + Int32.ofNat (aMemAt es)), (65, aMemC D es)], (aFkS V2 s Kf).2) : AA) s = (sI (y43 s (fun f => (G f).1 1) V2.1) s [(46, 0), (71, 0), (64, Int32.ofNat b + Int32.ofNat (aMemAt es)), (65, aMemC D es), (73, 0), (74, -1), (75, Int32.ofNat b), (76, Int32.ofNat b), (77, Int32.ofNat (b + es.length)), (78, -2000000000), (79, 0), (80, -1), (69, -1)], (aMcS (aFkS V2 s Kf) s (aSh V2 s)).2) := by
      unfold stA
      dsimp only
      rw [d55 _ _ rfl]
      have e56' : aS (aI (aI (aI (aI ((sI (y43 s (fun f => (G f).1 1) V2.1) s [(46, 0), (71, 0), (64, Int32.ofNat b + Int32.ofNat (aMemAt es)), (65, aMemC D es)], (aFkS V2 s Kf).2) : AA) 73 s 0) 74 s (-1)) 75 s (Int32.ofNat b)) 76 s (Int32.ofNat b)) 56 s = Int32.ofNat (b + es.length) := (aS_If (by decide)).trans ((aS_If (by decide)).trans ((aS_If (by decide)).trans ((aS_If (by decide)).trans (d56 _ _ rfl))))
      rw [e56']
      rfl
    rw [eS]
    refine Prod.ext ?_ ?_
    · show sI (y43 s (fun f => (G f).1 1) W2.1) s ((46, 0) :: upL z) = sI (y43 s (fun f => (G f).1 1) V2.1) s _
      rw [y43_sI _ _ rfl, y43_sI _ _ rfl]
      refine y43_z ?_
      rw [z43_sI _ _ rfl, z43_sI _ _ rfl, a1, a2, sI_app, sI_app]
      exact a6 _
    · have eSh : aSh V2 s = M := by
        have := congrArg (fun x : AX => x.2.2.2.2.1 s) a4
        exact this.trans (if_pos rfl)
      rw [eSh]
      show (W2.2.1, W2.2.2.1, W2.2.2.2.1, W2.2.2.2.2.1, aU W2.2.2.2.2.2.1 s M, W2.2.2.2.2.2.2.1, W2.2.2.2.2.2.2.2.1, aU W2.2.2.2.2.2.2.2.2.1 s Kf, W2.2.2.2.2.2.2.2.2.2) = (V2.2.1, V2.2.2.1, V2.2.2.2.1, aU V2.2.2.2.2.1 s M, V2.2.2.2.2.2.1, V2.2.2.2.2.2.2.1, V2.2.2.2.2.2.2.2.1, aU V2.2.2.2.2.2.2.2.2.1 s Kf, V2.2.2.2.2.2.2.2.2.2)
      rw [a3, a4]
      rfl
  unfold upT
  rw [et, e53]
  by_cases q : aS V 53 s < aLastTerm V s
  · rw [if_pos q, if_pos q]
    generalize aLastTerm V s = t
    have pW : z43 s 0 (aI (aI W 53 s t) 54 s (-1)).1 = sI (z43 s 0 a.1) s ([(45, x45), (47, x47), (46, 0)] ++ ldL b T D es ++ [(53, x53), (54, x54)] ++ [(53, t), (54, -1)]) := by
      show z43 s 0 (sI W.1 s [(53, t), (54, -1)]) = _
      rw [z43_sI _ _ rfl, w1, sI_app]
    have pV : z43 s 0 (aI (aI V 53 s t) 54 s (-1)).1 = sI (z43 s 0 a.1) s ([(52, 1), (45, x45), (47, x47), (53, x53), (54, x54), (55, Int32.ofNat b), (57, T), (58, D), (67, z), (56, Int32.ofNat (b + es.length))] ++ [(53, t), (54, -1)]) := by
      show z43 s 0 (sI V.1 s [(53, t), (54, -1)]) = _
      rw [z43_sI _ _ rfl, v1, sI_app]
    have rW := vz _ _ pW
    have rV := vz _ _ pV
    have W46 : aS (aI (aI W 53 s t) 54 s (-1)) 46 s = 0 := (rW 46 (by decide)).trans rfl
    have V46 : aS (aI (aI V 53 s t) 54 s (-1)) 46 s = 0 := (rV 46 (by decide)).trans h46
    have W45 : aS (aI (aI W 53 s t) 54 s (-1)) 45 s = x45 := (rW 45 (by decide)).trans rfl
    have V45 : aS (aI (aI V 53 s t) 54 s (-1)) 45 s = x45 := (rV 45 (by decide)).trans rfl
    have W150 : aS (aI (aI W 53 s t) 54 s (-1)) 150 s = aS a 150 s := (rW 150 (by decide)).trans rfl
    have V150 : aS (aI (aI V 53 s t) 54 s (-1)) 150 s = aS a 150 s := (rV 150 (by decide)).trans rfl
    obtain ⟨g, hg, eg⟩ : ∃ g, g < 2 ∧ (if x45 = 1 then 0 else 1 : Int32) = Int32.ofNat g := by
      by_cases y : x45 = 1
      · exact ⟨0, by omega, by rw [if_pos y]; rfl⟩
      · exact ⟨1, by omega, by rw [if_neg y]; rfl⟩
    obtain ⟨l1, l2⟩ := lay_p hg W46 (by rw [W45]; exact eg)
    obtain ⟨m1, m2⟩ := lay_p hg V46 (by rw [V45]; exact eg)
    have W53 : aS (aI (aI W 53 s t) 54 s (-1)) 53 s = t := (rW 53 (by decide)).trans rfl
    have V53 : aS (aI (aI V 53 s t) 54 s (-1)) 53 s = t := (rV 53 (by decide)).trans rfl
    have W54 : aS (aI (aI W 53 s t) 54 s (-1)) 54 s = -1 := (rW 54 (by decide)).trans rfl
    have V54 : aS (aI (aI V 53 s t) 54 s (-1)) 54 s = -1 := (rV 54 (by decide)).trans rfl
    rw [W150, pW, sI_app] at l1
    rw [V150, pV, sI_app] at m1
    rw [W150, W53, W54] at l2
    rw [V150, V53, V54] at m2
    have fW : aFc (aI (aI W 53 s t) 54 s (-1)) s = aTdF a s ch aSegs := by
      have := congrArg (fun x : AX => x.2.2.2.2.2.2.1 s) w2
      exact this.trans (if_pos rfl)
    have fV : aFc (aI (aI V 53 s t) 54 s (-1)) s = aTdF a s ch aSegs := by
      have := congrArg (fun x : AX => x.2.2.2.2.2.2.1 s) v2
      exact this.trans (if_pos rfl)
    rw [fW] at l2
    rw [fV] at m2
    refine key _ _ [(53, t), (54, -1), (150, aS a 150 s + 1), (45, Int32.ofNat g), (46, 1)] (aU (aTdF a s ch aSegs) g (aF 1 32 (aS a 150 s + 1) t (-1) [] ([], []))) ?_ ?_ ?_ ?_ (by
      intro f hf
      simp only [List.mem_cons, List.not_mem_nil, or_false] at hf
      rcases hf with rfl | rfl | rfl <;> rfl) (fun σ => sI_eq lk_u1)
    · rw [l1]
      rfl
    · rw [m1]
      rfl
    · rw [l2]
      show (W.2.1, W.2.2.1, W.2.2.2.1, W.2.2.2.2.1, W.2.2.2.2.2.1, W.2.2.2.2.2.2.1, aU W.2.2.2.2.2.2.2.1 s _, W.2.2.2.2.2.2.2.2) = _
      rw [w2]
      show (aWay a, aWt a, aU (aLg a) s es, aU (aMc a) s M, aSh a, aPm a, aU (aU (aFc a) s (aTdF a s ch aSegs)) s _, aFk a, aU (aCh a) s ch, a.2.2.2.2.2.2.2.2.2.2) = (aWay a, aWt a, aU (aLg a) s es, aU (aMc a) s M, aSh a, aPm a, aU (aFc a) s _, aFk a, aU (aCh a) s ch, a.2.2.2.2.2.2.2.2.2.2)
      rw [aU_2]
    · rw [m2]
      show (V.2.1, V.2.2.1, V.2.2.2.1, V.2.2.2.2.1, V.2.2.2.2.2.1, V.2.2.2.2.2.2.1, aU V.2.2.2.2.2.2.2.1 s _, V.2.2.2.2.2.2.2.2) = _
      rw [v2]
      show (aWay a, aWt a, aU (aLg a) s es, aMc a, aU (aSh a) s M, aPm a, aU (aU (aFc a) s (aTdF a s ch aSegs)) s _, aFk a, aU (aCh a) s ch, a.2.2.2.2.2.2.2.2.2.2) = (aWay a, aWt a, aU (aLg a) s es, aMc a, aU (aSh a) s M, aPm a, aU (aFc a) s _, aFk a, aU (aCh a) s ch, a.2.2.2.2.2.2.2.2.2.2)
      rw [aU_2]
  · rw [if_neg q, if_neg q]
    exact key W V [] (aTdF a s ch aSegs) (by rw [List.append_nil]; exact w1) (by rw [List.append_nil]; exact v1) w2 v2 (fun _ _ => rfl) (fun σ => sI_eq lk_u0)
/-! the face: start -/
theorem chain_seg {a : AA} {s : Nat} : ∀ n f, 4 ≤ f → f < 16 → aIsSeg a s f = true → ∀ g ∈ aChain a s n f, aIsSeg a s g = true ∧ 4 ≤ g ∧ g < 16 := by
  intro n
  induction n with
  | zero => intro f _ _ _ g hg; exact absurd hg List.not_mem_nil
  | succ n ih =>
    intro f h4 h16 hf g hg
    have eC : aChain a s (n + 1) f = f :: match (aWhole (aFc a s f)).getLast? with
        | none => []
        | some e => match aSegAt a s ((aFc a s f).1 2 + Int32.ofNat (aWhole (aFc a s f)).length) e.1 with
          | none => []
          | some g => aChain a s n g := rfl
    rw [eC] at hg
    rcases List.mem_cons.mp hg with rfl | hg
    · exact ⟨hf, h4, h16⟩
    · cases hl : (aWhole (aFc a s f)).getLast? with
      | none =>
        rw [hl] at hg
        exact absurd hg List.not_mem_nil
      | some e =>
        rw [hl] at hg
        dsimp only at hg
        cases hk : aSegAt a s ((aFc a s f).1 2 + Int32.ofNat (aWhole (aFc a s f)).length) e.1 with
        | none =>
          rw [hk] at hg
          exact absurd hg List.not_mem_nil
        | some k =>
          rw [hk] at hg
          dsimp only at hg
          obtain ⟨k1, k2, k3, _⟩ := segAt_spec hk
          exact ih k k1 k2 k3 g hg
/-- what a disk must hold for its server to come up, for the class -/
def upC (a : AA) (s b : Nat) : Prop := aS a 52 s = 0 ∧ aS a 46 s = 0 ∧ b + 300 < 1073741824 ∧ (if aLater a s 2 3 20 < 0 then 0 else (aFc a s (aLater a s 2 3 20).toNatClampNeg).1 2) = Int32.ofNat b ∧ aRq a s = [] ∧ (∃ n0 : Nat, aS a 151 s = Int32.ofNat n0 ∧ n0 < 2147483648) ∧
  (¬ aLater a s 2 3 20 < 0 → 1 ≤ b ∧ ¬ (aFc a s (aLater a s 2 3 20).toNatClampNeg).1 3 = -1 ∧ wfMc (aFc a s (aLater a s 2 3 20).toNatClampNeg).2.2) ∧
  (∀ f, aFirstSeg a s (Int32.ofNat b) aSegs = some f → (aLoad a s (Int32.ofNat b) (aChain a s 12 f)).length ≤ 300 ∧ (aChain a s 13 f).length ≤ 12) ∧
  ∀ f, 4 ≤ f → f < 16 → aIsSeg a s f = true → ∃ n, (aFc a s f).1 2 = Int32.ofNat n ∧ n < 1073741824
theorem later_wh {a : AA} {s x y : Nat} {n : Int32} : aLater a s x y n = -1 ∨ (aLater a s x y n = Int32.ofNat x ∧ aWholeHead (aFc a s x) n = true) ∨ (aLater a s x y n = Int32.ofNat y ∧ aWholeHead (aFc a s y) n = true) := by
  unfold aLater
  by_cases q : aWholeHead (aFc a s x) n = true
  · rw [if_pos q]
    by_cases z : aWholeHead (aFc a s y) n = true ∧ ¬ (aFc a s y).1 2 < (aFc a s x).1 2
    · rw [if_pos z]
      exact Or.inr (Or.inr ⟨rfl, z.1⟩)
    · rw [if_neg z]
      exact Or.inr (Or.inl ⟨rfl, q⟩)
  · rw [if_neg q]
    by_cases z : aWholeHead (aFc a s y) n = true
    · rw [if_pos z]
      exact Or.inr (Or.inr ⟨rfl, z⟩)
    · rw [if_neg z]
      exact Or.inl rfl
def uT (a : AA) (s : Nat) : Int32 := if aLater a s 2 3 20 < 0 then 0 else (aFc a s (aLater a s 2 3 20).toNatClampNeg).1 3
def uD (a : AA) (s : Nat) : Int32 := if aLater a s 2 3 20 < 0 then aS a 145 0 else (aFc a s (aLater a s 2 3 20).toNatClampNeg).1 4
def uZ (a : AA) (s : Nat) : Int32 := if aLater a s 2 3 20 < 0 then 0 else (aFc a s (aLater a s 2 3 20).toNatClampNeg).1 1 - 20
def uM (a : AA) (s : Nat) : AM := if aLater a s 2 3 20 < 0 then ([], []) else (aFc a s (aLater a s 2 3 20).toNatClampNeg).2.2
def u53 (a : AA) (s : Nat) : Int32 := if aLater a s 0 1 32 < 0 then 0 else (aFc a s (aLater a s 0 1 32).toNatClampNeg).1 3
def u54 (a : AA) (s : Nat) : Int32 := if aLater a s 0 1 32 < 0 then -1 else (aFc a s (aLater a s 0 1 32).toNatClampNeg).1 4
def uX (a : AA) (s : Nat) : AA := aI (aI (aI a 45 s (aLater a s 0 1 32)) 47 s (aLater a s 2 3 20)) 46 s 0
theorem K_find {F : Nat} {c : CS} {a : AA} {v : CV} {s b : Nat} (hF : 400 ≤ F) (h : RC c a v) (hs : s < 7) (ok : upC a s b) : WP (k_Disk_find F c s) (fun c' => ∃ Y, RC c' Y v ∧ zA s 0 Y = zA s 0 (aFcS (aChS (uX a s) s (recC a s (Int32.ofNat b) (uT a s))) s (aTdF a s (recC a s (Int32.ofNat b) (uT a s)) aSegs)) ∧ cI c' 6 s 7 0 = 0) := by
  obtain ⟨o52, o46, ob, o55, orq, o151, osn, och, osg⟩ := ok
  unfold k_Disk_find k_Disk_find_b0
  rw [show (0 : Int32) = Int32.ofNat 0 from rfl, show (1 : Int32) = Int32.ofNat 1 from rfl, K_later h hs (by omega) (by omega)]
  refine WP_b (WP_b ?_)
  have h1 := RC_I (x := aLater a s 0 1 32) h (F := 45) (cl := 6) (f := 6) (i := s) (by decide) (by decide)
  rw [show (2 : Int32) = Int32.ofNat 2 from rfl, show (3 : Int32) = Int32.ofNat 3 from rfl, K_later h1 hs (by omega) (by omega)]
  have el : aLater (aI a 45 s (aLater a s 0 1 32)) s 2 3 20 = aLater a s 2 3 20 := rfl
  rw [el]
  refine WP_b (WP_b ?_)
  have h2 := RC_47n (x := aLater a s 2 3 20) h1 (by rw [aS_If (by decide)]; exact o52)
  have h3 := RC_46' (s := s) h2 hs
  unfold cputZ
  rw [show Int32.ofNat 0 = (0 : Int32) from rfl, if_pos (Or.inl rfl)]
  refine WP_b ?_
  have e7 : cI (csI (csI (csI c 6 s 6 0 (aLater a s 0 1 32)) 6 s 9 0 (aLater a s 2 3 20)) 6 s 7 0 0) 6 s 7 0 = 0 := csI_e
  generalize csI (csI (csI c 6 s 6 0 (aLater a s 0 1 32)) 6 s 9 0 (aLater a s 2 3 20)) 6 s 7 0 0 = c3 at h3 e7
  have h3 : RC c3 (uX a s) v := h3
  have x47 : aS (uX a s) 47 s = aLater a s 2 3 20 := (aS_If (by decide)).trans (if_pos ⟨rfl, rfl⟩)
  have xF : aFc (uX a s) = aFc a := rfl
  have hcB : cB (uX a s) s (Int32.ofNat b) (uT a s) := by
    unfold cB uT
    rw [x47, xF, ← o55]
    rcases @later_wh a s 2 3 20 with z | ⟨z, _⟩ | ⟨z, _⟩
    · rw [z]
      exact Or.inl ⟨rfl, rfl, rfl⟩
    · rw [z]
      exact Or.inr ⟨2, by omega, rfl, rfl, rfl⟩
    · rw [z]
      exact Or.inr ⟨3, by omega, rfl, rfl, rfl⟩
  refine WP_call (K_findChain (by omega) h3 hs hcB (fun f hf => ?_)) (fun c4 hc4 => ?_)
  · rw [first_c (a := uX a s) (a' := a) rfl] at hf
    rw [chain_c (a := uX a s) (a' := a) rfl]
    exact (och f hf).2
  obtain ⟨h4, P4⟩ := hc4
  have eC : recC (uX a s) s (Int32.ofNat b) (uT a s) = recC a s (Int32.ofNat b) (uT a s) := rcC_c (a := uX a s) (a' := a) (b := b) (T := uT a s) rfl
  rw [eC] at h4
  have h7 : cI c4 6 s 7 0 = 0 := (PX_o P4 (by decide)).trans e7
  refine WP_mono (K_findL (ch := recC a s (Int32.ofNat b) (uT a s)) hF h4 hs (if_pos rfl) h7 (fun f hf => ?_)) (fun c' hc' => hc')
  unfold recC at hf
  cases hq : aFirstSeg a s (Int32.ofNat b) aSegs with
  | none =>
    rw [hq] at hf
    exact absurd hf List.not_mem_nil
  | some g =>
    rw [hq] at hf
    dsimp only at hf
    split at hf
    · obtain ⟨i1, i2, _, _⟩ := first_mem hq
      obtain ⟨g4, g16⟩ := seg_mem.mp i1
      exact (chain_seg 12 g g4 g16 i2 f hf).1
    · exact absurd hf List.not_mem_nil
theorem lay_fc {a : AA} {s f : Nat} (hf : 2 ≤ f) (h45 : aS a 45 s = -1 ∨ aS a 45 s = 0 ∨ aS a 45 s = 1) (h46 : aS a 46 s = 0) : aFc (upT a s) s f = aFc a s f := by
  unfold upT
  by_cases q : aS a 53 s < aLastTerm a s
  · rw [if_pos q]
    generalize aLastTerm a s = t
    have e45 : aS (aI (aI a 53 s t) 54 s (-1)) 45 s = aS a 45 s := (aS_If (by decide)).trans (aS_If (by decide))
    have e46 : aS (aI (aI a 53 s t) 54 s (-1)) 46 s = 0 := (aS_If (by decide)).trans ((aS_If (by decide)).trans h46)
    obtain ⟨g, hg, eg⟩ : ∃ g, g < 2 ∧ (if aS (aI (aI a 53 s t) 54 s (-1)) 45 s = 1 then 0 else 1 : Int32) = Int32.ofNat g := by
      rw [e45]
      by_cases y : aS a 45 s = 1
      · exact ⟨0, by omega, by rw [if_pos y]; rfl⟩
      · exact ⟨1, by omega, by rw [if_neg y]; rfl⟩
    obtain ⟨_, m2⟩ := lay_p hg e46 eg
    have := congrArg (fun x : AX => x.2.2.2.2.2.2.1 s f) m2
    refine Eq.trans this ?_
    show aU (aFc a) s (aU (aFc a s) g _) s f = aFc a s f
    unfold aU
    rw [if_pos rfl, if_neg (by omega)]
  · rw [if_neg q]
theorem K_lbegin {F : Nat} {c : CS} {s : Nat} {l n : Int32} (hF : 8 ≤ F) : WP (k_Lead_begin F c s l n) (fun c' => PX 7 s [0, 1, 2, 3, 4, 5, 6, 7, 8, 9, 10] c c' ∧ cI c' 7 s 10 0 = -1) := by
  unfold k_Lead_begin k_Lead_begin_b0
  refine WP_b (WP_b (WP_b (WP_b (WP_b (WP_b ?_)))))
  have P : PX 7 s [0, 1, 2, 3, 4, 5, 6, 7, 8, 9, 10] c (csfill (csfill (csfill (csfill (csfill (csfill c 7 s 0 (l + 1)) 7 s 1 0) 7 s 2 0) 7 s 3 0) 7 s 4 0) 7 s 5 n) := PX_t (PX_t (PX_t (PX_t (PX_t (PX_A (by decide)) (PX_A (by decide))) (PX_A (by decide))) (PX_A (by decide))) (PX_A (by decide))) (PX_A (by decide))
  generalize csfill (csfill (csfill (csfill (csfill (csfill c 7 s 0 (l + 1)) 7 s 1 0) 7 s 2 0) 7 s 3 0) 7 s 4 0) 7 s 5 n = c1 at P
  refine WP_mono (beginL F 0 c1 (by omega) (by omega) (fun p hp => by omega)) (fun c' hc' => ⟨PX_t P (PX_w hc'.1 (by decide)), hc'.2.2.2.2⟩)
theorem K_comeUp {F : Nat} {c : CS} {a : AA} {s b : Nat} {H : List (Nat × Option AL)} {U : Nat → Int32} {N : Nat × Nat} (hF : 400 ≤ F) (h : RC c a ((H, U), N)) (hs : s < 7) (ok : upC a s b) (hm : mdOK a 0) : WP (k_Server_comeUp F c s) (fun c' => RC c' (A_drawAlarm (stA (A_recover (aI a 52 s 1) s) s) s) ((H, aU U s 0), N)) := by
  have kf := K_find hF h hs ok
  obtain ⟨o52, o46, ob, o55, orq, ⟨n0, o151, on0⟩, osn, och, osg⟩ := ok
  unfold k_Server_comeUp k_Server_comeUp_b0
  refine WP_call kf (fun c1 hc1 => ?_)
  obtain ⟨Y, hY, zY, h7⟩ := hc1
  generalize hch : recC a s (Int32.ofNat b) (uT a s) = ch at zY
  have chP : ∀ g ∈ ch, aIsSeg a s g = true ∧ 4 ≤ g ∧ g < 16 := by
    intro f hf
    rw [← hch] at hf
    unfold recC at hf
    cases hq : aFirstSeg a s (Int32.ofNat b) aSegs with
    | none =>
      rw [hq] at hf
      exact absurd hf List.not_mem_nil
    | some g =>
      rw [hq] at hf
      dsimp only at hf
      split at hf
      · obtain ⟨i1, i2, _, _⟩ := first_mem hq
        obtain ⟨g4, g16⟩ := seg_mem.mp i1
        exact chain_seg 12 g g4 g16 i2 f hf
      · exact absurd hf List.not_mem_nil
  -- what the disk was read into
  have yv : ∀ f, f ≠ 43 → ∀ i, aS Y f i = aS (uX a s) f i := by
    intro f hf i
    have h1 := congrArg (fun x : AA => x.1.1 f i) zY
    have h2 : (if f = 43 ∧ i / 16 = s ∧ 0 ≤ i % 16 then 0 else Y.1.1 f i) = (if f = 43 ∧ i / 16 = s ∧ 0 ≤ i % 16 then 0 else (uX a s).1.1 f i) := h1
    rw [if_neg (fun z => hf z.1), if_neg (fun z => hf z.1)] at h2
    exact h2
  have yF : aFc Y s = aTdF a s ch aSegs := by
    have := congrArg (fun x : AA => aFc x s) zY
    exact this.trans (if_pos rfl)
  have yC : aCh Y s = ch := by
    have := congrArg (fun x : AA => aCh x s) zY
    exact this.trans (if_pos rfl)
  have yR : aRq Y = aRq a := by
    have h := congrArg (fun x : AA => aRq x) zY
    exact h
  have F23 : ∀ f, f < 4 → aTdF a s ch aSegs f = aFc a s f := by
    intro f hf
    unfold aTdF
    rw [if_neg (fun z => by have := seg_mem.mp z; omega)]
  have Fch : ∀ f ∈ ch, aTdF a s ch aSegs f = fT (aFc a s f) := by
    intro f hf
    unfold aTdF
    rw [if_pos (seg_mem.mpr (chP f hf).2), if_pos hf]
  have y47 : aS Y 47 s = aLater a s 2 3 20 := (yv 47 (by decide) s).trans ((aS_If (by decide)).trans (if_pos ⟨rfl, rfl⟩))
  have y45 : aS Y 45 s = aLater a s 0 1 32 := (yv 45 (by decide) s).trans ((aS_If (by decide)).trans ((aS_If (by decide)).trans (if_pos ⟨rfl, rfl⟩)))
  have y145 : aS Y 145 0 = aS a 145 0 := (yv 145 (by decide) 0).trans ((aS_If (by decide)).trans ((aS_If (by decide)).trans (aS_If (by decide))))
  have hshB : shB Y s b (uT a s) (uD a s) (uM a s) := by
    unfold shB
    rw [y47, y145, yF]
    unfold uT uD uM
    rcases @later_wh a s 2 3 20 with z | ⟨z, w⟩ | ⟨z, w⟩
    · rw [z] at o55 ⊢
      refine Or.inl ⟨rfl, ?_, rfl, rfl, rfl⟩
      have o55 : (0 : Int32) = Int32.ofNat b := o55
      have o55 := congrArg Int32.toInt o55
      rw [Int32.toInt_ofNat_of_lt (by omega), i_0] at o55
      omega
    · have n2 : ¬ aLater a s 2 3 20 < 0 := by rw [z]; decide
      obtain ⟨m1, m2, m3⟩ := osn n2
      rw [z] at o55 m2 m3 ⊢
      refine Or.inr ⟨2, Or.inl rfl, rfl, ?_⟩
      rw [F23 2 (by omega)]
      unfold aWholeHead at w
      rw [Bool.and_eq_true, decide_eq_true_eq] at w
      exact ⟨w.1, o55, rfl, rfl, rfl, m1, m2, m3⟩
    · have n2 : ¬ aLater a s 2 3 20 < 0 := by rw [z]; decide
      obtain ⟨m1, m2, m3⟩ := osn n2
      rw [z] at o55 m2 m3 ⊢
      refine Or.inr ⟨3, Or.inr rfl, rfl, ?_⟩
      rw [F23 3 (by omega)]
      unfold aWholeHead at w
      rw [Bool.and_eq_true, decide_eq_true_eq] at w
      exact ⟨w.1, o55, rfl, rfl, rfl, m1, m2, m3⟩
  have eLd : aLoad Y s (Int32.ofNat b) ch = aLoad a s (Int32.ofNat b) ch := by
    have : ∀ l : List Nat, (∀ f ∈ l, f ∈ ch) → aLoad Y s (Int32.ofNat b) l = aLoad a s (Int32.ofNat b) l := by
      intro l
      induction l with
      | nil => exact fun _ => rfl
      | cons f r ih =>
        intro hl
        have hf := hl f List.mem_cons_self
        show (aWhole (aFc Y s f)).drop (Int32.ofNat b + 1 - (aFc Y s f).1 2).toNatClampNeg ++ aLoad Y s (Int32.ofNat b) r = (aWhole (aFc a s f)).drop (Int32.ofNat b + 1 - (aFc a s f).1 2).toNatClampNeg ++ aLoad a s (Int32.ofNat b) r
        rw [ih (fun x hx => hl x (List.mem_cons_of_mem _ hx)), yF, Fch f hf]
        obtain ⟨c1, c2, c3⟩ := chP f hf
        obtain ⟨p1, _⟩ := h.2.2.2.2.2.2.2.2.2.1 s hs f c3
        have h24 : 24 ≤ ((aFc a s f).1 1).toInt := by
          have := (isSeg_b.mp c1).2
          rw [Int32.le_iff_toInt_le, show (24 : Int32).toInt = 24 by decide] at this
          exact this
        rw [(fT_facts p1.2.2.2.2.2.2.2.2.2.2.2 h24).2.2.1]
        rfl
    exact this ch (fun f hf => hf)
  have hes : (aLoad a s (Int32.ofNat b) ch).length ≤ 300 := by
    rw [← hch]
    unfold recC
    cases hq : aFirstSeg a s (Int32.ofNat b) aSegs with
    | none => exact Nat.zero_le _
    | some g =>
      dsimp only
      split
      · exact (och g hq).1
      · exact Nat.zero_le _
  generalize hE : aLoad a s (Int32.ofNat b) ch = es at eLd hes
  have hlt : ∀ j ∈ aCh Y s, (Int32.ofNat b + 1 - (aFc Y s j).1 2).toNatClampNeg < 2147483000 := by
    intro j hj
    rw [yC] at hj
    obtain ⟨c1, c2, c3⟩ := chP j hj
    obtain ⟨n, e, hn⟩ := osg j c2 c3 c1
    rw [yF, Fch j hj]
    have e2 : (fT (aFc a s j)).1 2 = Int32.ofNat n := e
    rw [e2, i_s]
    have e3 : (Int32.ofNat (b + 1) - Int32.ofNat n).toInt = (b + 1 : Nat) - (n : Int) := by
      rw [i_subI, Int32.toInt_ofNat_of_lt (by omega), Int32.toInt_ofNat_of_lt (by omega)]
      all_goals (rw [Int32.toInt_ofNat_of_lt (by omega), Int32.toInt_ofNat_of_lt (by omega)]; omega)
    show (Int32.ofNat (b + 1) - Int32.ofNat n).toInt.toNat < _
    omega
  refine WP_call (K_loadLog (es := es) hF hY hs hshB ob (by rw [yC]; exact eLd.symm) hes hlt) (fun c2 hc2 => ?_)
  obtain ⟨h2, o2⟩ := hc2
  have g7 : cI c2 6 s 7 0 = 0 := (o2 s 7 0).trans h7
  generalize hW0 : ((sI Y.1 s (ldL b (uT a s) (uD a s) es), (aLgS (aMcS Y s (uM a s)) s es).2) : AA) = W0 at h2
  have wv : ∀ f, lk f (ldL b (uT a s) (uD a s) es) = none → ∀ i, aS W0 f i = aS Y f i := by
    intro f hf i
    rw [← hW0]
    show (sI Y.1 s _).1 f i = _
    rw [sI_v, hf]
    split <;> rfl
  have w45 : aS W0 45 s = aLater a s 0 1 32 := (wv 45 rfl s).trans y45
  have w46 : aS W0 46 s = 0 := (wv 46 rfl s).trans ((yv 46 (by decide) s).trans (if_pos ⟨rfl, rfl⟩))
  have v45 : aS W0 45 s = -1 ∨ aS W0 45 s = 0 ∨ aS W0 45 s = 1 := by
    rw [w45]
    exact later_v
  have wF : aFc W0 s = aTdF a s ch aSegs := by
    rw [← hW0]
    exact yF
  have wW : WLg W0 s := by
    have e1 : aBase W0 s = Int32.ofNat b := by
      rw [← hW0]
      show (sI Y.1 s _).1 55 s = _
      rw [sI_v, if_pos rfl]
      rfl
    have e2 : aLast W0 s = Int32.ofNat (b + es.length) := by
      rw [← hW0]
      show (sI Y.1 s _).1 56 s = _
      rw [sI_v, if_pos rfl]
      rfl
    have e3 : aLg W0 s = es := by
      rw [← hW0]
      exact if_pos rfl
    unfold WLg
    rw [e1, e2, e3, Int32.toInt_ofNat_of_lt (by omega), Int32.toInt_ofNat_of_lt (by omega)]
    omega
  have kT := K_loadTerm h2 hs g7 w46 v45 wW
  have e53 : (if aS W0 45 s < 0 then 0 else (aFc W0 s (aS W0 45 s).toNatClampNeg).1 3) = u53 a s := by
    rw [w45, wF]
    unfold u53
    rcases @later_wh a s 0 1 32 with z | ⟨z, _⟩ | ⟨z, _⟩
    · rw [z]
      rfl
    · rw [z, show (Int32.ofNat 0).toNatClampNeg = 0 from rfl, F23 0 (by omega)]
    · rw [z, show (Int32.ofNat 1).toNatClampNeg = 1 from rfl, F23 1 (by omega)]
  have e54 : (if aS W0 45 s < 0 then -1 else (aFc W0 s (aS W0 45 s).toNatClampNeg).1 4) = u54 a s := by
    rw [w45, wF]
    unfold u54
    rcases @later_wh a s 0 1 32 with z | ⟨z, _⟩ | ⟨z, _⟩
    · rw [z]
      rfl
    · rw [z, show (Int32.ofNat 0).toNatClampNeg = 0 from rfl, F23 0 (by omega)]
    · rw [z, show (Int32.ofNat 1).toNatClampNeg = 1 from rfl, F23 1 (by omega)]
  rw [e53, e54] at kT
  have kT : WP (k_Server_loadTerm c2 s) (fun c' => RC c' (upT (aI (aI W0 53 s (u53 a s)) 54 s (u54 a s)) s) ((H, U), N)) := kT
  have eW : aI (aI W0 53 s (u53 a s)) 54 s (u54 a s) = upW Y s b (uT a s) (uD a s) (u53 a s) (u54 a s) (uM a s) es := by
    rw [← hW0]
    rfl
  refine WP_call kT (fun c3 h3 => ?_)
  rw [eW] at h3
  -- the sync
  have kS := K_syncAll (F := F) (by omega) h3 hs
  obtain ⟨c4, m1, h4⟩ := kS
  have s7 : cI c4 6 s 7 0 = 0 := by
    unfold k_Disk_syncAll k_Disk_syncAll_b0 at m1
    exact sync7 F 0 c3 c4 m1
  refine WP_eq m1 ?_
  have EQ := up_eq (a := a) (Y := Y) (b := b) (x45 := aLater a s 0 1 32) (x47 := aLater a s 2 3 20) (x53 := u53 a s) (x54 := u54 a s) (T := uT a s) (D := uD a s) (z := uZ a s) (M := uM a s) (ch := ch) (es := es) hs o46 zY
  have x46 : aS (upW Y s b (uT a s) (uD a s) (u53 a s) (u54 a s) (uM a s) es) 46 s = 0 := by
    rw [← eW]
    exact (aS_If (by decide)).trans ((aS_If (by decide)).trans w46)
  have x45 : aS (upW Y s b (uT a s) (uD a s) (u53 a s) (u54 a s) (uM a s) es) 45 s = -1 ∨ aS (upW Y s b (uT a s) (uD a s) (u53 a s) (u54 a s) (uM a s) es) 45 s = 0 ∨ aS (upW Y s b (uT a s) (uD a s) (u53 a s) (u54 a s) (uM a s) es) 45 s = 1 := by
    rw [← eW]
    have e : aS (aI (aI W0 53 s (u53 a s)) 54 s (u54 a s)) 45 s = aS W0 45 s := (aS_If (by decide)).trans (aS_If (by decide))
    rw [e]
    exact v45
  have frW : AFr [53, 54] [] W0 (upW Y s b (uT a s) (uD a s) (u53 a s) (u54 a s) (uM a s) es) := by
    rw [← eW]
    exact AFr_w (AFr_t AFr_I AFr_I) (by decide) (by decide)
  have fc2 : ∀ f, f = 2 ∨ f = 3 → aFc (upT (upW Y s b (uT a s) (uD a s) (u53 a s) (u54 a s) (uM a s) es) s) s f = aFc a s f := by
    intro f hf
    rw [lay_fc (by omega) x45 x46, frW.2.2.2.2.2.2.2.1 (by decide), wF, F23 f (by omega)]
  have frT : AFr [53, 54, 150, 43, 45, 46] [6] (upW Y s b (uT a s) (uD a s) (u53 a s) (u54 a s) (uM a s) es) (upT (upW Y s b (uT a s) (uD a s) (u53 a s) (u54 a s) (uM a s) es) s) := by
    unfold upT
    exact AFr_w (AFr_if (AFr_t (AFr_t AFr_I AFr_I) AFr_laySlot) AFr_r) (by decide) (by decide)
  generalize upW Y s b (uT a s) (uD a s) (u53 a s) (u54 a s) (uM a s) es = W at h3 h4 EQ frW fc2 frT
  generalize upT W s = W2 at h3 h4 EQ fc2 frT
  have frS : AFr [43, 46] [7] W2 (aI (aSyncFiles W2 s 16) 46 s 0) := AFr_w (AFr_t (AFr_syncFs 16) AFr_I) (by decide) (by decide)
  have z46 : aS (aI (aSyncFiles W2 s 16) 46 s 0) 46 s = 0 := if_pos ⟨rfl, rfl⟩
  generalize aI (aSyncFiles W2 s 16) 46 s 0 = W4 at h4 EQ frS z46
  have fr4 : AFr [53, 54, 150, 43, 45, 46] [6, 7] W0 W4 := AFr_w (AFr_t (AFr_t frW frT) frS) (by decide) (by decide)
  have q151 : aS W4 151 s = Int32.ofNat n0 := by
    rw [fr4.1 151 (by decide), wv 151 rfl, yv 151 (by decide)]
    exact ((aS_If (by decide)).trans ((aS_If (by decide)).trans (aS_If (by decide)))).trans o151
  have qrq : aRq W4 s = [] := by
    rw [fr4.2.2.2.2.2.2.2.2.2.2.1 (by decide)]
    have : aRq W0 = aRq Y := by
      rw [← hW0]
      rfl
    rw [this, yR]
    exact orq
  have q47 : aS W4 47 s = aLater a s 2 3 20 := by
    rw [fr4.1 47 (by decide), wv 47 rfl, y47]
  have q2 : aS W4 2 0 = aS a 2 0 := by
    rw [fr4.1 2 (by decide), wv 2 rfl, yv 2 (by decide)]
    exact (aS_If (by decide)).trans ((aS_If (by decide)).trans (aS_If (by decide)))
  have qF : ∀ f, f = 2 ∨ f = 3 → aFc W4 s f = aFc a s f := fun f hf => by
    rw [frS.2.2.2.2.2.2.2.1 (by decide)]
    exact fc2 f hf
  -- the server's numbers
  unfold cputZ
  rw [if_pos (Or.inr rfl)]
  refine WP_b ?_
  rw [if_pos (Or.inl rfl)]
  refine WP_b (WP_b (WP_b (WP_b (WP_b (WP_b (WP_b (WP_b ?_)))))))
  have P1 : PX 13 s [8, 9, 12, 13, 14, 15, 16, 17, 19] c4 (csI (csI (csI (csI (csI (csI (csI (csI (csI c4 13 s 8 0 1) 13 s 9 0 0) 13 s 12 0 0) 13 s 13 0 (-1)) 13 s 14 0 (-1)) 13 s 15 0 0) 13 s 16 0 (-1)) 13 s 17 0 0) 13 s 19 0 0) := PX_t (PX_t (PX_t (PX_t (PX_t (PX_t (PX_t (PX_t (PX_I (by decide)) (PX_I (by decide))) (PX_I (by decide))) (PX_I (by decide))) (PX_I (by decide))) (PX_I (by decide))) (PX_I (by decide))) (PX_I (by decide))) (PX_I (by decide))
  have V8 : cI (csI (csI (csI (csI (csI (csI (csI (csI (csI c4 13 s 8 0 1) 13 s 9 0 0) 13 s 12 0 0) 13 s 13 0 (-1)) 13 s 14 0 (-1)) 13 s 15 0 0) 13 s 16 0 (-1)) 13 s 17 0 0) 13 s 19 0 0) 13 s 8 0 = 1 := (csI_f (by decide)).trans ((csI_f (by decide)).trans ((csI_f (by decide)).trans ((csI_f (by decide)).trans ((csI_f (by decide)).trans ((csI_f (by decide)).trans ((csI_f (by decide)).trans ((csI_f (by decide)).trans csI_e)))))))
  have V9 : cI (csI (csI (csI (csI (csI (csI (csI (csI (csI c4 13 s 8 0 1) 13 s 9 0 0) 13 s 12 0 0) 13 s 13 0 (-1)) 13 s 14 0 (-1)) 13 s 15 0 0) 13 s 16 0 (-1)) 13 s 17 0 0) 13 s 19 0 0) 13 s 9 0 = 0 := (csI_f (by decide)).trans ((csI_f (by decide)).trans ((csI_f (by decide)).trans ((csI_f (by decide)).trans ((csI_f (by decide)).trans ((csI_f (by decide)).trans ((csI_f (by decide)).trans csI_e))))))
  have V12 : cI (csI (csI (csI (csI (csI (csI (csI (csI (csI c4 13 s 8 0 1) 13 s 9 0 0) 13 s 12 0 0) 13 s 13 0 (-1)) 13 s 14 0 (-1)) 13 s 15 0 0) 13 s 16 0 (-1)) 13 s 17 0 0) 13 s 19 0 0) 13 s 12 0 = 0 := (csI_f (by decide)).trans ((csI_f (by decide)).trans ((csI_f (by decide)).trans ((csI_f (by decide)).trans ((csI_f (by decide)).trans ((csI_f (by decide)).trans csI_e)))))
  have V13 : cI (csI (csI (csI (csI (csI (csI (csI (csI (csI c4 13 s 8 0 1) 13 s 9 0 0) 13 s 12 0 0) 13 s 13 0 (-1)) 13 s 14 0 (-1)) 13 s 15 0 0) 13 s 16 0 (-1)) 13 s 17 0 0) 13 s 19 0 0) 13 s 13 0 = -1 := (csI_f (by decide)).trans ((csI_f (by decide)).trans ((csI_f (by decide)).trans ((csI_f (by decide)).trans ((csI_f (by decide)).trans csI_e))))
  have V14 : cI (csI (csI (csI (csI (csI (csI (csI (csI (csI c4 13 s 8 0 1) 13 s 9 0 0) 13 s 12 0 0) 13 s 13 0 (-1)) 13 s 14 0 (-1)) 13 s 15 0 0) 13 s 16 0 (-1)) 13 s 17 0 0) 13 s 19 0 0) 13 s 14 0 = -1 := (csI_f (by decide)).trans ((csI_f (by decide)).trans ((csI_f (by decide)).trans ((csI_f (by decide)).trans csI_e)))
  have V15 : cI (csI (csI (csI (csI (csI (csI (csI (csI (csI c4 13 s 8 0 1) 13 s 9 0 0) 13 s 12 0 0) 13 s 13 0 (-1)) 13 s 14 0 (-1)) 13 s 15 0 0) 13 s 16 0 (-1)) 13 s 17 0 0) 13 s 19 0 0) 13 s 15 0 = 0 := (csI_f (by decide)).trans ((csI_f (by decide)).trans ((csI_f (by decide)).trans csI_e))
  have V16 : cI (csI (csI (csI (csI (csI (csI (csI (csI (csI c4 13 s 8 0 1) 13 s 9 0 0) 13 s 12 0 0) 13 s 13 0 (-1)) 13 s 14 0 (-1)) 13 s 15 0 0) 13 s 16 0 (-1)) 13 s 17 0 0) 13 s 19 0 0) 13 s 16 0 = -1 := (csI_f (by decide)).trans ((csI_f (by decide)).trans csI_e)
  have V19 : cI (csI (csI (csI (csI (csI (csI (csI (csI (csI c4 13 s 8 0 1) 13 s 9 0 0) 13 s 12 0 0) 13 s 13 0 (-1)) 13 s 14 0 (-1)) 13 s 15 0 0) 13 s 16 0 (-1)) 13 s 17 0 0) 13 s 19 0 0) 13 s 19 0 = 0 := csI_e
  generalize csI (csI (csI (csI (csI (csI (csI (csI (csI c4 13 s 8 0 1) 13 s 9 0 0) 13 s 12 0 0) 13 s 13 0 (-1)) 13 s 14 0 (-1)) 13 s 15 0 0) 13 s 16 0 (-1)) 13 s 17 0 0) 13 s 19 0 0 = c5 at P1 V8 V9 V12 V13 V14 V15 V16 V19
  refine WP_call (K_lbegin (by omega)) (fun c6 hc6 => ?_)
  obtain ⟨P2, V10⟩ := hc6
  unfold k_Requests_dropAll k_Requests_dropAll_b0
  refine WP_call (dropL F 0 c6 (by omega) (by omega) (fun w hw => by omega)) (fun c7 hc7 => ?_)
  obtain ⟨P3, r0, r8⟩ := hc7
  have k13 : ∀ f j, cI c7 13 s f j = cI c5 13 s f j := fun f j => (PX_c P3 (by decide)).trans (PX_c P2 (by decide))
  have hCk : Ck upD s c4 c7 := Ck_w (Ck_t (Ck_t (PX_k (D := [424, 425, 428, 429, 430, 431, 432, 433, 435]) P1 (Or.inr rfl) (by decide)) (PX_k (D := [224, 225, 226, 227, 228, 229, 230, 231, 232, 233, 234]) P2 (Or.inr rfl) (by decide))) (PX_k (D := [384, 392]) P3 (Or.inr rfl) (by decide))) (by decide)
  have hT : cT c7 = cT c4 := P3.2.1.trans (P2.2.1.trans P1.2.1)
  have hsh : shOK (sI W4.1 s (upL (uZ a s)), (aShS W4 s (uM a s)).2) s := by
    have f47 : aS ((sI W4.1 s (upL (uZ a s)), (aShS W4 s (uM a s)).2) : AA) 47 s = aLater a s 2 3 20 := by
      refine Eq.trans ?_ q47
      show (sI W4.1 s (upL (uZ a s))).1 47 s = _
      rw [sI_v, if_pos rfl]
      rfl
    have f67 : aS ((sI W4.1 s (upL (uZ a s)), (aShS W4 s (uM a s)).2) : AA) 67 s = uZ a s := by
      show (sI W4.1 s (upL (uZ a s))).1 67 s = _
      rw [sI_v, if_pos rfl]
      rfl
    have fSh : aSh ((sI W4.1 s (upL (uZ a s)), (aShS W4 s (uM a s)).2) : AA) s = uM a s := if_pos rfl
    have fFc : ∀ f, f = 2 ∨ f = 3 → aFc ((sI W4.1 s (upL (uZ a s)), (aShS W4 s (uM a s)).2) : AA) s f = aFc a s f := qF
    unfold shOK
    rw [f47, f67, fSh]
    have one : ∀ f, f = 2 ∨ f = 3 → aLater a s 2 3 20 = Int32.ofNat f → aWholeHead (aFc a s f) 20 = true → ∃ f, (f = 2 ∨ f = 3) ∧ aLater a s 2 3 20 = Int32.ofNat f ∧ (aFc ((sI W4.1 s (upL (uZ a s)), (aShS W4 s (uM a s)).2) : AA) s f).1 0 = 1 ∧ (aFc ((sI W4.1 s (upL (uZ a s)), (aShS W4 s (uM a s)).2) : AA) s f).2.2 = uM a s ∧ uZ a s = Int32.ofNat (aEnc (uM a s)).length := by
      intro f hf e w
      unfold aWholeHead at w
      rw [Bool.and_eq_true, decide_eq_true_eq] at w
      have n2 : ¬ aLater a s 2 3 20 < 0 := by
        rw [e]
        exact i_nn (by omega)
      have eM : uM a s = (aFc a s f).2.2 := by
        unfold uM
        rw [if_neg n2, e, i_cl (by omega)]
      have eZ : uZ a s = (aFc a s f).1 1 - 20 := by
        unfold uZ
        rw [if_neg n2, e, i_cl (by omega)]
      obtain ⟨_, _, _, y4, _⟩ := h.2.2.2.2.2.2.2.2.2.1 s hs f (by omega)
      obtain ⟨_, k2, _⟩ := (y4 hf).2 w.1
      refine ⟨f, hf, e, ?_, ?_, ?_⟩
      · rw [fFc f hf]
        exact w.1
      · rw [fFc f hf, eM]
      · rw [eZ, eM, k2, Nat.add_comm 20, Int32.ofNat_add]
        exact Int32.add_sub_cancel _ _
    rcases @later_wh a s 2 3 20 with z | ⟨z, w⟩ | ⟨z, w⟩
    · refine Or.inl ⟨z, ?_, ?_⟩
      · unfold uZ
        rw [z]
        rfl
      · unfold uM
        rw [z]
        rfl
    · exact Or.inr (one 2 (Or.inl rfl) z w)
    · exact Or.inr (one 3 (Or.inr rfl) z w)
  have h8 := RC_up (c5 := c7) (z := uZ a s) (M := uM a s) h4 hs hCk hT s7 z46 qrq q151 on0 ((k13 8 0).trans V8) ((k13 9 0).trans V9) ((k13 12 0).trans V12) ((k13 13 0).trans V13) ((k13 14 0).trans V14) ((k13 15 0).trans V15) ((k13 16 0).trans V16) ((k13 19 0).trans V19) ((PX_c P3 (by decide)).trans V10) r0 r8 hsh
  have eT2 : aS ((sI W4.1 s (upL (uZ a s)), (aShS W4 s (uM a s)).2) : AA) 2 0 = aS a 2 0 := by
    refine Eq.trans ?_ q2
    show (sI W4.1 s (upL (uZ a s))).1 2 0 = _
    rw [sI_v]
    split <;> rfl
  rw [EQ] at h8 eT2
  have eR : A_recover (aI a 52 s 1) s = aFindCode (A_syncAll (upT (upV (upX a s b (aLater a s 0 1 32) (aLater a s 2 3 20) (u53 a s) (u54 a s) (uT a s) (uD a s) (uZ a s) (uM a s)) s b ch es) s) s) s := by
    have e1 : recA3 (aI a 52 s 1) s = upX a s b (aLater a s 0 1 32) (aLater a s 2 3 20) (u53 a s) (u54 a s) (uT a s) (uD a s) (uZ a s) (uM a s) := by
      unfold upX
      rw [← o55]
      rfl
    have x55 : aS (upX a s b (aLater a s 0 1 32) (aLater a s 2 3 20) (u53 a s) (u54 a s) (uT a s) (uD a s) (uZ a s) (uM a s)) 55 s = Int32.ofNat b := by
      show (sI a.1 s _).1 55 s = _
      rw [sI_v, if_pos rfl]
      rfl
    have x57 : aS (upX a s b (aLater a s 0 1 32) (aLater a s 2 3 20) (u53 a s) (u54 a s) (uT a s) (uD a s) (uZ a s) (uM a s)) 57 s = uT a s := by
      show (sI a.1 s _).1 57 s = _
      rw [sI_v, if_pos rfl]
      rfl
    have eV : recA4 (recA3 (aI a 52 s 1) s) s = upV (upX a s b (aLater a s 0 1 32) (aLater a s 2 3 20) (u53 a s) (u54 a s) (uT a s) (uD a s) (uZ a s) (uM a s)) s b ch es := by
      rw [e1]
      unfold recA4 upV
      rw [x55, x57]
      have r1 : recC (upX a s b (aLater a s 0 1 32) (aLater a s 2 3 20) (u53 a s) (u54 a s) (uT a s) (uD a s) (uZ a s) (uM a s)) s (Int32.ofNat b) (uT a s) = ch := (rcC_c (a := upX a s b (aLater a s 0 1 32) (aLater a s 2 3 20) (u53 a s) (u54 a s) (uT a s) (uD a s) (uZ a s) (uM a s)) (a' := a) (b := b) (T := uT a s) rfl).trans hch
      have r2 : aLoad (upX a s b (aLater a s 0 1 32) (aLater a s 2 3 20) (u53 a s) (u54 a s) (uT a s) (uD a s) (uZ a s) (uM a s)) s (Int32.ofNat b) ch = es := (load_c (a := upX a s b (aLater a s 0 1 32) (aLater a s 2 3 20) (u53 a s) (u54 a s) (uT a s) (uD a s) (uZ a s) (uM a s)) (a' := a) rfl ch).trans hE
      rw [r1, r2]
    have r46 : aS (recA4 (recA3 (aI a 52 s 1) s) s) 46 s = 0 := by
      rw [AFr_rA4.1 46 (by decide), AFr_rA3.1 46 (by decide)]
      exact (aS_If (by decide)).trans o46
    rw [A_recover_e r46, eV]
    rfl
  rw [← eR] at h8 eT2
  generalize stA (A_recover (aI a 52 s 1) s) s = T at h8 eT2
  rw [RC_b1 h8 hs]
  exact WP_call (K_drawAlarm h8 hs (mdOK_s hm eT2)) (fun c8 h9 => WP_some h9)
theorem K_startF {F : Nat} {c : CS} {a : AA} {x : Int32} {U : Nat → Int32} {N : Nat × Nat} (hF : 400 ≤ F) (h : RC c a (([], U), N)) (hb : ∀ s, s < 7 → aS a 52 s = 0 ∨ aS a 52 s = 1) (hup : ∀ s, s < 7 → aS a 52 s = 0 → ∃ b, upC a s b) (hm : mdOK a 0) :
    ((A_start a x).2.1 = 0 ∧ WP (k_Face_start F c 0 x) (fun p => ∃ U', RC p.2 (A_start a x).1 (([], U'), N) ∧ p.1 = (A_start a x).2.2)) ∨ ((A_start a x).1 = a ∧ (A_start a x).2.1 = 1 ∧ k_Face_host_J c 0 x = some ()) := by
  unfold A_start
  by_cases q1 : aInR x 0 6 = true
  rotate_left
  · have q1 := b_false q1
    rw [q1]
    exact Or.inr ⟨rfl, rfl, K_hostJ q1⟩
  obtain ⟨s, hs, e⟩ := inR_6 q1
  subst e
  rw [q1, i_cl (by omega), if_neg (show ¬ (!true) = true by decide)]
  dsimp only
  have e52 : cI c 13 s 8 0 = aS a 52 s := K_r h (F := 52) (cl := 13) (f := 8) (by decide) hs
  rcases hb s hs with q | q
  · rw [if_neg (show ¬ ¬ aS a 52 s = 0 from fun z => z q)]
    refine Or.inl ⟨rfl, ?_⟩
    obtain ⟨b, ok⟩ := hup s hs q
    unfold k_Face_start k_Face_start_b0 k_Face_start_b19 k_Face_start_b28
    rw [K_host hs]
    refine WP_b ?_
    rw [e52, q, if_neg (by decide)]
    refine WP_call (K_comeUp hF h hs ok hm) (fun c1 h1 => ?_)
    rw [if_neg (by decide), if_pos (Or.inr rfl)]
    exact WP_some ⟨_, h1, rfl⟩
  · rw [if_pos (show ¬ aS a 52 s = 0 by rw [q]; decide)]
    refine Or.inl ⟨rfl, ?_⟩
    unfold k_Face_start k_Face_start_b0 k_Face_start_b19 k_Face_start_b28
    rw [K_host hs]
    refine WP_b ?_
    rw [e52, q, if_pos (by decide), if_pos (by decide), if_pos (Or.inl rfl)]
    exact WP_some ⟨U, h, rfl⟩
