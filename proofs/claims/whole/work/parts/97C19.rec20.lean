/-! coming up: what the agreed store says of it, in pieces -/
def recA3 (a : AA) (s : Nat) : AA :=
  let slot := aLater a s 0 1 32
  let shot := aLater a s 2 3 20
  let S := aFc a s slot.toNatClampNeg
  let H := aFc a s shot.toNatClampNeg
  let a1 := aI (aI (aI (aI a 45 s slot) 47 s shot) 53 s (if slot < 0 then 0 else S.1 3)) 54 s (if slot < 0 then -1 else S.1 4)
  let a2 := aI (aI (aI (aI a1 55 s (if shot < 0 then 0 else H.1 2)) 57 s (if shot < 0 then 0 else H.1 3)) 58 s (if shot < 0 then aS a 145 0 else H.1 4)) 67 s (if shot < 0 then 0 else H.1 1 - 20)
  aShS a2 s (if shot < 0 then ([], []) else H.2.2)
def recC (a : AA) (s : Nat) (b T : Int32) : List Nat := match aFirstSeg a s b aSegs with
  | none => []
  | some f => if aTells (aFc a s f) b T then aChain a s 12 f else []
def recA4 (a : AA) (s : Nat) : AA := aI (aLgS (aChS (aTidy a s (recC a s (aS a 55 s) (aS a 57 s)) aSegs) s (recC a s (aS a 55 s) (aS a 57 s))) s (aLoad a s (aS a 55 s) (recC a s (aS a 55 s) (aS a 57 s)))) 56 s (aS a 55 s + Int32.ofNat (aLoad a s (aS a 55 s) (recC a s (aS a 55 s) (aS a 57 s))).length)
def recE (a : AA) (s : Nat) : AA := A_syncAll (if aS a 53 s < aLastTerm a s then aLaySlot (aI (aI a 53 s (aLastTerm a s)) 54 s (-1)) s else a) s
theorem tidy_S {a : AA} {s f i : Nat} {c : List Nat} (hf : f ≠ 43) : ∀ l, aS (aTidy a s c l) f i = aS a f i
  | [] => rfl
  | x :: r => by
    have ih := tidy_S (a := a) (s := s) (i := i) (c := c) hf r
    unfold aTidy
    by_cases q : x ∈ c
    · rw [if_pos q]
      exact ih
    · rw [if_neg q]
      refine Eq.trans ?_ ih
      exact setI_f hf
theorem aLastTerm_46 {a : AA} {s : Nat} : aLastTerm (aI a 46 s 0) s = aLastTerm a s := aLastTerm_c rfl rfl rfl rfl
theorem A_recover_e {a : AA} {s : Nat} (h : aS (recA4 (recA3 a s) s) 46 s = 0) : A_recover a s = aFindCode (recE (recA4 (recA3 a s) s) s) s := by
  have e : A_recover a s = aFindCode (A_syncAll (if aS (aI (recA4 (recA3 a s) s) 46 s 0) 53 s < aLastTerm (recA4 (recA3 a s) s) s then aLaySlot (aI (aI (aI (recA4 (recA3 a s) s) 46 s 0) 53 s (aLastTerm (recA4 (recA3 a s) s) s)) 54 s (-1)) s else aI (recA4 (recA3 a s) s) 46 s 0) s) s := rfl
  rw [e]
  have e2 : aI (recA4 (recA3 a s) s) 46 s 0 = recA4 (recA3 a s) s := Prod.ext (setI_same h) rfl
  rw [e2]
  rfl
/-- the down server's store with 52 set is what coming up makes of it, but for its log and last -/
theorem rlA_e {a : AA} {s b : Nat} (hb : (if aLater a s 2 3 20 < 0 then 0 else (aFc a s (aLater a s 2 3 20).toNatClampNeg).1 2) = Int32.ofNat b) :
    rlA (dnA a s (aLater a s 0 1 32) (aLater a s 2 3 20) (if aLater a s 0 1 32 < 0 then 0 else (aFc a s (aLater a s 0 1 32).toNatClampNeg).1 3) (if aLater a s 0 1 32 < 0 then -1 else (aFc a s (aLater a s 0 1 32).toNatClampNeg).1 4) (Int32.ofNat b) (if aLater a s 2 3 20 < 0 then 0 else (aFc a s (aLater a s 2 3 20).toNatClampNeg).1 3) (if aLater a s 2 3 20 < 0 then aS a 145 0 else (aFc a s (aLater a s 2 3 20).toNatClampNeg).1 4) (if aLater a s 2 3 20 < 0 then 0 else (aFc a s (aLater a s 2 3 20).toNatClampNeg).1 1 - 20) (shM a s (aLater a s 2 3 20))) s b = recA4 (recA3 (aI a 52 s 1) s) s := by
  have e3 : recA3 (aI a 52 s 1) s = aShS (aI (aI (aI (aI (aI (aI (aI (aI (aI a 52 s 1) 45 s (aLater a s 0 1 32)) 47 s (aLater a s 2 3 20)) 53 s (if aLater a s 0 1 32 < 0 then 0 else (aFc a s (aLater a s 0 1 32).toNatClampNeg).1 3)) 54 s (if aLater a s 0 1 32 < 0 then -1 else (aFc a s (aLater a s 0 1 32).toNatClampNeg).1 4)) 55 s (Int32.ofNat b)) 57 s (if aLater a s 2 3 20 < 0 then 0 else (aFc a s (aLater a s 2 3 20).toNatClampNeg).1 3)) 58 s (if aLater a s 2 3 20 < 0 then aS a 145 0 else (aFc a s (aLater a s 2 3 20).toNatClampNeg).1 4)) 67 s (if aLater a s 2 3 20 < 0 then 0 else (aFc a s (aLater a s 2 3 20).toNatClampNeg).1 1 - 20)) s (shM a s (aLater a s 2 3 20)) := by
    rw [← hb]
    rfl
  rw [e3]
  generalize (if aLater a s 0 1 32 < 0 then 0 else (aFc a s (aLater a s 0 1 32).toNatClampNeg).1 3) = x53
  generalize (if aLater a s 0 1 32 < 0 then -1 else (aFc a s (aLater a s 0 1 32).toNatClampNeg).1 4) = x54
  generalize (if aLater a s 2 3 20 < 0 then 0 else (aFc a s (aLater a s 2 3 20).toNatClampNeg).1 3) = x57
  generalize (if aLater a s 2 3 20 < 0 then aS a 145 0 else (aFc a s (aLater a s 2 3 20).toNatClampNeg).1 4) = x58
  generalize (if aLater a s 2 3 20 < 0 then 0 else (aFc a s (aLater a s 2 3 20).toNatClampNeg).1 1 - 20) = x67
  generalize shM a s (aLater a s 2 3 20) = M
  generalize aLater a s 0 1 32 = x45
  generalize aLater a s 2 3 20 = x47
  have e52 : aI (dnA a s x45 x47 x53 x54 (Int32.ofNat b) x57 x58 x67 M) 52 s 1 = aI (aLgS (aShS (aI (aI (aI (aI (aI (aI (aI (aI (aI a 52 s 1) 45 s x45) 47 s x47) 53 s x53) 54 s x54) 55 s (Int32.ofNat b)) 57 s x57) 58 s x58) 67 s x67) s M) s []) 56 s (Int32.ofNat b) := by
    refine Prod.ext ?_ rfl
    show setI (setI (setI (setI (setI (setI (setI (setI (setI (setI a.1 45 s x45) 47 s x47) 53 s x53) 54 s x54) 55 s (Int32.ofNat b)) 57 s x57) 58 s x58) 67 s x67) 56 s (Int32.ofNat b)) 52 s 1 = setI (setI (setI (setI (setI (setI (setI (setI (setI (setI a.1 52 s 1) 45 s x45) 47 s x47) 53 s x53) 54 s x54) 55 s (Int32.ofNat b)) 57 s x57) 58 s x58) 67 s x67) 56 s (Int32.ofNat b)
    rw [setI_c (g := 52) (by decide), setI_c (f := 67) (g := 52) (by decide), setI_c (f := 58) (g := 52) (by decide), setI_c (f := 57) (g := 52) (by decide), setI_c (f := 55) (g := 52) (by decide), setI_c (f := 54) (g := 52) (by decide), setI_c (f := 53) (g := 52) (by decide), setI_c (f := 47) (g := 52) (by decide), setI_c (f := 45) (g := 52) (by decide)]
  have d57 : aS (dnA a s x45 x47 x53 x54 (Int32.ofNat b) x57 x58 x67 M) 57 s = x57 := (dnA_s (by decide)).trans (by simp [dnV])
  generalize hY : aShS (aI (aI (aI (aI (aI (aI (aI (aI (aI a 52 s 1) 45 s x45) 47 s x47) 53 s x53) 54 s x54) 55 s (Int32.ofNat b)) 57 s x57) 58 s x58) 67 s x67) s M = Y at e52
  have y55 : aS Y 55 s = Int32.ofNat b := by
    rw [← hY]
    show (setI (setI (setI (setI (setI (setI (setI (setI (setI a.1 52 s 1) 45 s x45) 47 s x47) 53 s x53) 54 s x54) 55 s (Int32.ofNat b)) 57 s x57) 58 s x58) 67 s x67).1 55 s = _
    rw [setI_f (by decide), setI_f (by decide), setI_f (by decide), setI_e]
  have y57 : aS Y 57 s = x57 := by
    rw [← hY]
    show (setI (setI (setI (setI (setI (setI (setI (setI (setI a.1 52 s 1) 45 s x45) 47 s x47) 53 s x53) 54 s x54) 55 s (Int32.ofNat b)) 57 s x57) 58 s x58) 67 s x67).1 57 s = _
    rw [setI_f (by decide), setI_f (by decide), setI_e]
  have yfc : aFc (dnA a s x45 x47 x53 x54 (Int32.ofNat b) x57 x58 x67 M) s = aFc Y s := by
    rw [← hY]
    rfl
  unfold rlA recA4
  rw [d57, y55, y57, e52, tidy_56, tidy_Lg, rcC_c yfc, load_c yfc]
  have ec : recC Y s (Int32.ofNat b) x57 = rcC Y s b x57 := rfl
  rw [ec, i_ad]
  generalize rcC Y s b x57 = c
  generalize aLoad Y s (Int32.ofNat b) c = es
  generalize aTidy Y s c aSegs = T
  refine Prod.ext ?_ ?_
  · show setI (setI T.1 56 s (Int32.ofNat b)) 56 s (Int32.ofNat (b + es.length)) = setI T.1 56 s (Int32.ofNat (b + es.length))
    exact setI_II
  · show (aWay T, aWt T, aU (aU (aLg T) s []) s es, aMc T, aSh T, aPm T, aFc T, aFk T, aU (aCh T) s c, T.2.2.2.2.2.2.2.2.2.2) = (aWay T, aWt T, aU (aLg T) s es, aMc T, aSh T, aPm T, aFc T, aFk T, aU (aCh T) s c, T.2.2.2.2.2.2.2.2.2.2)
    rw [aU_2]
