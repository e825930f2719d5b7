/-! pieces of a snapshot -/
theorem RC_pc {c c' : CS} {a : AA} {v : CV} {s : Nat} {x y : Int32} {M : AM} (h : RC c a v) (ho : ∀ cl i f, ¬ (cl = 13 ∧ i = s ∧ f ∈ [16, 17, 18]) → Sm c c' cl i f) (hT : (cT c).1 ≤ (cT c').1) (hrm : KRm c' v) (e16 : cI c' 13 s 16 0 = x) (hk : KPc c' s x y M) : RC c' (aPmS (aI (aI a 69 s x) 70 s y) s M) v := by
  have hF : Ck [432, 433, 434] s c c' := by
    intro cl i f _ z
    refine ho cl i f (fun u => ?_)
    obtain ⟨u1, u2, u3⟩ := u
    subst u1
    subst u2
    rcases z with z | ⟨_, z⟩
    · simp only [List.mem_cons, List.not_mem_nil, or_false] at u3
      rcases u3 with rfl | rfl | rfl <;> exact z (by decide)
    · exact z rfl
  have e : ∀ g, g ∉ [69, 70] → ∀ j, aS (aPmS (aI (aI a 69 s x) 70 s y) s M) g j = aS a g j := by
    intro g hg j
    simp only [List.mem_cons, List.not_mem_nil, or_false, not_or] at hg
    show aS (aI (aI a 69 s x) 70 s y) g j = aS a g j
    exact (aS_If (fun z => hg.2 z)).trans (aS_If (fun z => hg.1 z))
  have e69 : ∀ t, aS (aPmS (aI (aI a 69 s x) 70 s y) s M) 69 t = if t = s then x else aS a 69 t := by
    intro t
    have e1 : aS (aPmS (aI (aI a 69 s x) 70 s y) s M) 69 t = aS (aI a 69 s x) 69 t := aS_If (by decide)
    rw [e1, aS_I]
    by_cases q : t = s
    · rw [if_pos ⟨rfl, q⟩, if_pos q]
    · rw [if_neg (fun z => q z.2), if_neg q]
  have e70 : ∀ t, aS (aPmS (aI (aI a 69 s x) 70 s y) s M) 70 t = if t = s then y else aS a 70 t := by
    intro t
    have e1 : aS (aPmS (aI (aI a 69 s x) 70 s y) s M) 70 t = aS (aI (aI a 69 s x) 70 s y) 70 t := rfl
    rw [e1, aS_I]
    by_cases q : t = s
    · rw [if_pos ⟨rfl, q⟩, if_pos q]
    · rw [if_neg (fun z => q z.2), if_neg q]
      exact aS_If (by decide)
  have ePm : ∀ t, aPm (aPmS (aI (aI a 69 s x) 70 s y) s M) t = if t = s then M else aPm a t := fun t => rfl
  have hsc : KSc c' (aPmS (aI (aI a 69 s x) 70 s y) s M) := by
    intro z hz i hi
    have u := sT_u z hz (69, 13, 16) (by decide)
    by_cases q : z.1 = 69
    · obtain ⟨q1, q2⟩ := u.mp q
      have q1 : z.2.1 = 13 := q1
      have q2 : z.2.2 = 16 := q2
      rw [q1, q2, q, e69]
      by_cases w : i = s
      · rw [if_pos w, w]
        exact e16
      · rw [if_neg w, (ho 13 i 16 (fun k => w k.2.1)).1]
        have := h.1 z hz i hi
        rw [q1, q2, q] at this
        exact this
    · have n70 : z.1 ≠ 70 := by
        intro k
        exact absurd hz (by
          have : ∀ w ∈ sT, w.1 ≠ 70 := by decide
          exact fun m => this z m k)
      rw [e z.1 (by simp; exact ⟨q, n70⟩)]
      rw [(ho z.2.1 i z.2.2 (fun k => by
        have k3 := k.2.2
        have : ∀ w ∈ sT, w.2.1 = 13 → w.2.2 ∈ [16, 17, 18] → w.1 = 69 := by decide
        exact q (this z hz k.1 k3))).1]
      exact h.1 z hz i hi
  have hpc : ∀ t, t < 7 → KPc c' t (aS (aPmS (aI (aI a 69 s x) 70 s y) s M) 69 t) (aS (aPmS (aI (aI a 69 s x) 70 s y) s M) 70 t) (aPm (aPmS (aI (aI a 69 s x) 70 s y) s M) t) := by
    intro t ht
    rw [e69, e70, ePm]
    by_cases q : t = s
    · rw [if_pos q, if_pos q, if_pos q, q]
      exact hk
    · rw [if_neg q, if_neg q, if_neg q]
      exact KPc_ne hF (by decide) q (h.2.2.2.2.2.2.2.2.2.2.2.2.1 t ht)
  have hlt : KLt c' (aPmS (aI (aI a 69 s x) 70 s y) s M) v.1.1 := KLt_s (a := aPmS (aI (aI a 69 s x) 70 s y) s M) (ho 14 0 15 (fun z => absurd z.1 (by decide))).2.2.2 (ho 14 0 16 (fun z => absurd z.1 (by decide))).2.2.2 (fun t _ => (ho 13 t 7 (fun z => absurd z.2.2 (by decide))).2.2.2) hT (fun ad f _ _ _ => ho 8 ad f (fun z => absurd z.1 (by decide))) h.2.2.2.2.2.2.2.2.2.2.2.2.2.2.2.2.2.2.2.1
  exact ⟨hsc, fr_k hF (by decide) e (by decide) h.2.1, hd_k hF (by decide) e (by decide) h.2.2.1, ld_k hF (by decide) e (by decide) h.2.2.2.1, rq_k hF (by decide) e (by decide) rfl h.2.2.2.2.1, bl_k hF (by decide) e (by decide) h.2.2.2.2.2.1, da_k hF (by decide) e (by decide) rfl h.2.2.2.2.2.2.1, lw_k hF (by decide) e (by decide) h.2.2.2.2.2.2.2.1, fun s hs => KG_fr hF (by decide) (h.2.2.2.2.2.2.2.2.1 s hs), fun s hs => KPg_fr hF (by decide) (h.2.2.2.2.2.2.2.2.2.1 s hs), fun s hs => KCh_fr hF (by decide) (h.2.2.2.2.2.2.2.2.2.2.1 s hs), fun s hs => KMc_fr hF (by decide) (h.2.2.2.2.2.2.2.2.2.2.2.1 s hs), hpc, cl_k hF (by decide) e (by decide) h.2.2.2.2.2.2.2.2.2.2.2.2.2.1, fun k hk => KDn_fr hF (by decide) (h.2.2.2.2.2.2.2.2.2.2.2.2.2.2.1 k hk), KAk_fr hF (by decide) h.2.2.2.2.2.2.2.2.2.2.2.2.2.2.2.1, KFc_fr hF (by decide) h.2.2.2.2.2.2.2.2.2.2.2.2.2.2.2.2.1, id_k hF (by decide) e (by decide) h.2.2.2.2.2.2.2.2.2.2.2.2.2.2.2.2.2.1, fun k hk => KIc_fr hF (by decide) (h.2.2.2.2.2.2.2.2.2.2.2.2.2.2.2.2.2.2.1 k hk), hlt, hrm, sh_k e (by decide) rfl rfl h.2.2.2.2.2.2.2.2.2.2.2.2.2.2.2.2.2.2.2.2.2.1, nw_k e (by decide) h.2.2.2.2.2.2.2.2.2.2.2.2.2.2.2.2.2.2.2.2.2.2⟩
theorem aPm_same {a : AA} {s : Nat} : aPmS a s (aPm a s) = a := by
  have e : aU (aPm a) s (aPm a s) = aPm a := aU_self
  unfold aPmS
  rw [e]
  rfl
theorem wshot_I {a : AA} {s g i : Nat} {x : Int32} (h : g ∉ [43, 47, 55, 57, 58, 67]) : aWriteShot (aI a g i x) s = aI (aWriteShot a s) g i x := by
  simp only [List.mem_cons, List.not_mem_nil, or_false, not_or] at h
  obtain ⟨h43, h47, h55, h57, h58, h67⟩ := h
  have e : ∀ f, f ≠ g → aS (aI a g i x) f s = aS a f s := fun f hf => aS_If hf
  unfold aWriteShot
  dsimp only
  rw [e 47 (Ne.symm h47), e 55 (Ne.symm h55), e 57 (Ne.symm h57), e 58 (Ne.symm h58), e 67 (Ne.symm h67)]
  have es : aSh (aI a g i x) s = aSh a s := rfl
  rw [es]
  generalize (if aS a 47 s = 2 then 3 else 2 : Nat) = f
  generalize aF 1 (20 + aS a 67 s) (aS a 55 s) (aS a 57 s) (aS a 58 s) [] (aSh a s) = FF
  unfold aSyncFile
  have e1 : aPut (aI a g i x) s f FF = aI (aPut a s f FF) g i x := rfl
  rw [e1]
  generalize aPut a s f FF = b
  have e2 : aI (aFkS (aI b g i x) s (aU (aFk (aI b g i x) s) f (aFc (aI b g i x) s f))) 43 (16 * s + f) ((aFc (aI b g i x) s f).1 1) = aI (aI (aFkS b s (aU (aFk b s) f (aFc b s f))) 43 (16 * s + f) ((aFc b s f).1 1)) g i x := aI_comm (a := aFkS b s (aU (aFk b s) f (aFc b s f))) (fun z => h43 z.1)
  rw [e2]
  exact aI_comm (fun z => h47 z.1)
theorem wshot_mc {a : AA} {s t : Nat} {M : AM} : aWriteShot (aMcS a t M) s = aMcS (aWriteShot a s) t M := by
  unfold aWriteShot aSyncFile
  rfl
theorem remAll_mc {s t : Nat} {M : AM} : ∀ (l : List Nat) (a : AA), aRemoveAll (aMcS a t M) s l = aMcS (aRemoveAll a s l) t M
  | [], _ => rfl
  | f :: r, a => by
    show aRemoveAll (aMcS (aRemove a s f) t M) s r = aMcS (aRemoveAll (aRemove a s f) s r) t M
    exact remAll_mc r _
theorem old_mc {a : AA} {s t : Nat} {M : AM} : ∀ l : List Nat, aOld (aMcS a t M) s l = aOld a s l
  | [] => rfl
  | [f] => rfl
  | f :: k :: r => by
    have ih := old_mc (a := a) (s := s) (t := t) (M := M) (k :: r)
    show (if (aFc a s k).1 2 ≤ aBase a s + 1 then (f :: (aOld (aMcS a t M) s (k :: r)).1, (aOld (aMcS a t M) s (k :: r)).2) else ([], f :: k :: r)) = (if (aFc a s k).1 2 ≤ aBase a s + 1 then (f :: (aOld a s (k :: r)).1, (aOld a s (k :: r)).2) else ([], f :: k :: r))
    rw [ih]
theorem trim_mc {a : AA} {s t : Nat} {M : AM} : aTrim (aMcS a t M) s = aMcS (aTrim a s) t M := by
  have e5 : aBase (aMcS a t M) s = aBase a s := rfl
  have e6 : aLast (aMcS a t M) s = aLast a s := rfl
  have ec : aCh (aMcS a t M) s = aCh a s := rfl
  unfold aTrim
  dsimp only
  rw [e5, e6, ec, old_mc, remAll_mc]
  rfl
theorem find_I {a : AA} {s g i : Nat} {x : Int32} (h : g ∉ [55, 58, 64, 65]) : aFindCode (aI a g i x) s = aI (aFindCode a s) g i x := by
  simp only [List.mem_cons, List.not_mem_nil, or_false, not_or] at h
  have e5 : aBase (aI a g i x) s = aBase a s := aS_If (fun z => h.1 z.symm)
  have e8 : aS (aI a g i x) 58 s = aS a 58 s := aS_If (fun z => h.2.1 z.symm)
  have el : aLg (aI a g i x) = aLg a := rfl
  unfold aFindCode
  rw [e5, e8, el, aI_comm (a := a) (f := g) (g := 64) (fun z => h.2.2.1 z.1), aI_comm (f := g) (g := 65) (fun z => h.2.2.2 z.1)]
/-- the store with a snapshot taken over -/
def aTook (a : AA) (s : Nat) (l : AL) : AA :=
  let c0 := aShS (aI (aMoveBase a s (l.1 7) (l.1 8) (l.1 11)) 67 s (l.1 12)) s l.2.2.2
  let c1 := aMcS (aI (aI c0 75 s (l.1 7)) 76 s (l.1 7)) s l.2.2.2
  aI (aSoil (aFindCode (aTrim (aWriteShot c1 s) s) s) s) 69 s (-1)
theorem aTook_e {a : AA} {s : Nat} {l : AL} : aTook a s l = aI (aSoil (aMcS (aI (aI (aFindCode (aTrim (aWriteShot (aShS (aI (aMoveBase a s (l.1 7) (l.1 8) (l.1 11)) 67 s (l.1 12)) s l.2.2.2) s) s) s) 75 s (l.1 7)) 76 s (l.1 7)) s l.2.2.2) s) 69 s (-1) := by
  unfold aTook
  dsimp only
  rw [wshot_mc, wshot_I (by decide), wshot_I (by decide), trim_mc, trim_I (by decide), trim_I (by decide)]
  generalize aTrim (aWriteShot (aShS (aI (aMoveBase a s (l.1 7) (l.1 8) (l.1 11)) 67 s (l.1 12)) s l.2.2.2) s) s = b
  have e1 : aFindCode (aMcS (aI (aI b 75 s (l.1 7)) 76 s (l.1 7)) s l.2.2.2) s = aMcS (aFindCode (aI (aI b 75 s (l.1 7)) 76 s (l.1 7)) s) s l.2.2.2 := rfl
  rw [e1, find_I (by decide), find_I (by decide)]
theorem mv_W {a : AA} {s : Nat} {n t c : Int32} (w : WLg a s) (hb : (aBase a s).toInt < n.toInt) (hn2 : n.toInt < 1073741824) : WLg (aMoveBase a s n t c) s := by
  obtain ⟨w1, w2, w3, w4⟩ := id w
  obtain ⟨f1, f2, f3, f4, f5, f6⟩ := @moveBase_fr a s n t c
  by_cases g : (aHas a s n && decide (aTermAt a s n = t)) = true
  · have gh : aHas a s n = true := (Bool.and_eq_true_iff.mp g).1
    have gt : aTermAt a s n = t := of_decide_eq_true (Bool.and_eq_true_iff.mp g).2
    obtain ⟨k, k1, k2, k3, k4, k5⟩ := aHas_k w gh
    subst gt
    obtain ⟨g1, g2⟩ := mv_goes (c := c) gh k4
    unfold WLg aBase aLast
    rw [f3, g1, g2, List.length_drop]
    have e1 : (aLast a s).toInt = (aBase a s).toInt + (aLg a s).length := w2
    exact ⟨by omega, by omega, by omega, w4⟩
  · have g' : (aHas a s n && decide (aTermAt a s n = t)) = false := by simpa using g
    have g1 : aLg (aMoveBase a s n t c) s = [] := by
      unfold aMoveBase
      dsimp only
      rw [g']
      exact if_pos rfl
    have g2 : aS (aMoveBase a s n t c) 56 s = n := by
      unfold aMoveBase
      dsimp only
      rw [g', aS_I, if_neg (fun z => absurd z.1 (by decide)), aS_I, if_pos ⟨rfl, rfl⟩]
      exact if_neg (by decide)
    unfold WLg aBase aLast
    rw [f3, g1, g2]
    exact ⟨by omega, by simp, by simp, hn2⟩
theorem mv_P {a : AA} {s : Nat} {n t c : Int32} (w : WLg a s) (wc : WCh a s) (hb : (aBase a s).toInt < n.toInt) : WPre (aMoveBase a s n t c) s := by
  obtain ⟨w1, w2, w3, w4⟩ := id w
  obtain ⟨f1, f2, f3, f4, f5, f6⟩ := @moveBase_fr a s n t c
  obtain ⟨p1, p2, p3⟩ := wc
  by_cases g : (aHas a s n && decide (aTermAt a s n = t)) = true
  · have gh : aHas a s n = true := (Bool.and_eq_true_iff.mp g).1
    have gt : aTermAt a s n = t := of_decide_eq_true (Bool.and_eq_true_iff.mp g).2
    obtain ⟨k, k1, k2, k3, k4, k5⟩ := aHas_k w gh
    subst gt
    obtain ⟨g1, g2⟩ := mv_goes (c := c) gh k4
    unfold WPre aBase aLast
    rw [f1, f2, f3, g2]
    refine ⟨p1, p2, ?_⟩
    rcases p3 with ⟨z1, z2⟩ | ⟨m, m1, m2, m3⟩
    · have := congrArg Int32.toInt z2
      have e1 : (aLast a s).toInt = (aBase a s).toInt + (aLg a s).length := w2
      omega
    · exact Or.inr ⟨m, m1, by omega, m3⟩
  · have g' : (aHas a s n && decide (aTermAt a s n = t)) = false := by simpa using g
    have g2 : aS (aMoveBase a s n t c) 56 s = n := by
      unfold aMoveBase
      dsimp only
      rw [g', aS_I, if_neg (fun z => absurd z.1 (by decide)), aS_I, if_pos ⟨rfl, rfl⟩]
      exact if_neg (by decide)
    unfold WPre aBase aLast
    rw [f1, f2, f3, g2]
    exact ⟨p1, p2, Or.inl rfl⟩
/-- room for a piece -/
theorem K_room18 {c : CS} {v : CV} {s m : Nat} (hr : KRm c v) (hs : s < 7) (hm : m ≤ 14200) : (cL c 13 s 18 < m → ∃ c', cext c 13 s 18 (2 * Int32.ofNat m) = some c' ∧ KRm c' v ∧ (cT c).1 ≤ (cT c').1 ∧ (∀ cl i f, ¬ (cl = 13 ∧ i = s ∧ f = 18) → Sm c c' cl i f) ∧ m ≤ cL c' 13 s 18 ∧ ∀ i, i < cL c 13 s 18 → cI c' 13 s 18 i = cI c 13 s 18 i) := by
  intro hlt
  have e2 : (2 : Int32) * Int32.ofNat m = Int32.ofNat (2 * m) := i_2
  refine ⟨csG c 13 s 18 (2 * m) (fun y => if y < cL c 13 s 18 then cI c 13 s 18 y else 0), cext_n (cl := 13) e2 (by omega) (by omega), ?_, Nat.le_succ _, fun cl i f z => csG_o z, ?_, fun i hi => ?_⟩
  · have g1 : gw1 2 = 8 := rfl
    have g2 : gw2 2 = 2 := rfl
    exact KRm_gr (cl := 13) (i := s) (f := 18) (k := 2) (m := 28400) (L := cL c 13 s 18) (n := 2 * m) (Or.inr (Or.inl ⟨rfl, hs, rfl, rfl, rfl⟩)) rfl csG_L (fun cl i f z => csG_o z) rfl (by rw [g1]; omega) (by rw [g2]; omega) (by omega) hr
  · rw [csG_L]
    omega
  · rw [csG_I, if_pos hi]
/-- a piece is kept -/
theorem K_keepPiece {c : CS} {a : AA} {s ad G n : Nat} {l : AL} {H : List (Nat × Option AL)} {U : Nat → Int32} {N : Nat × Nat} (h : RC c a (((ad, some l) :: H, U), N)) (hs : s < 7) (hk : l.1 4 = 7) (hpm : aPm a s = l.2.2.2) (h69 : ¬ aS a 69 s = -1) (h70 : aS a 70 s = Int32.ofNat G) (h13 : l.1 13 = Int32.ofNat G) (h17 : l.1 17 = Int32.ofNat n) (hG : G + n ≤ (aEnc l.2.2.2).length) (hE : (aEnc l.2.2.2).length ≤ 13980) (hn : n ≤ 200) : WP (k_Server_keepPiece c s ad) (fun c' => RC c' (aAdd a 70 s (l.1 17)) (((ad, some l) :: H, U), N) ∧ cI c' 13 s 17 0 = Int32.ofNat (G + n) ∧ G + n ≤ cL c' 13 s 18 ∧ ∀ i, i < G + n → cI c' 13 s 18 i = (aEnc (cM l.2.2.2)).getD i 0) := by
  have l0 := RC_hand h List.mem_cons_self
  obtain ⟨n', o', q1, q2, q3, q4, q5, q6, q7⟩ := l0.2.2.2.1 hk
  have en : n' = n := by
    rw [h17] at q1
    exact ((i_eqi (by omega) (by omega)).mp q1).symm
  have eo : o' = G := by
    rw [h13] at q2
    exact ((i_eqi (by omega) (by omega)).mp q2).symm
  subst en
  subst eo
  have hpc := h.2.2.2.2.2.2.2.2.2.2.2.2.1 s hs
  rcases hpc with z | ⟨G', g1, g2, g3, g4, g5⟩
  · exact absurd z h69
  · have eG : G' = o' := by
      rw [h70] at g1
      have hG' : G' < 2147483648 := by
        rw [hpm] at g3
        omega
      exact ((i_eqi (by omega) hG').mp g1).symm
    subst eG
    rw [hpm] at g5
    unfold k_Server_keepPiece k_Server_keepPiece_b0
    have ecal : cal c 13 s 18 = cL c 13 s 18 := rfl
    have hcap : cL c 13 s 18 ≤ 28400 := (h.2.2.2.2.2.2.2.2.2.2.2.2.2.2.2.2.2.2.2.2.1.2.2.2.2.1 s hs).2.1
    rw [g2, q3, i_ad, ecal]
    -- with room
    have main : ∀ c1, RC c1 a (((ad, some l) :: H, U), N) → G' + n' ≤ cL c1 13 s 18 → WP (k_Server_keepPiece_b39 c1 s ad) (fun c' => RC c' (aAdd a 70 s (l.1 17)) (((ad, some l) :: H, U), N) ∧ cI c' 13 s 17 0 = Int32.ofNat (G' + n') ∧ G' + n' ≤ cL c' 13 s 18 ∧ ∀ i, i < G' + n' → cI c' 13 s 18 i = (aEnc (cM l.2.2.2)).getD i 0) := by
      intro c1 h1 hr
      have l1 := RC_hand h1 List.mem_cons_self
      obtain ⟨n2, o2, p1, p2, p3, p4, p5, p6, p7⟩ := l1.2.2.2.1 hk
      have en2 : n2 = n' := by
        rw [h17] at p1
        exact ((i_eqi (by omega) (by omega)).mp p1).symm
      have eo2 : o2 = G' := by
        rw [h13] at p2
        exact ((i_eqi (by omega) (by omega)).mp p2).symm
      subst en2
      subst eo2
      rcases h1.2.2.2.2.2.2.2.2.2.2.2.2.1 s hs with z | ⟨G2, r1, r2, r3, r4, r5⟩
      · exact absurd z h69
      · have eG2 : G2 = o2 := by
          rw [h70] at r1
          have hG2 : G2 < 2147483648 := by
            rw [hpm] at r3
            omega
          exact ((i_eqi (by omega) hG2).mp r1).symm
        subst eG2
        rw [hpm] at r5
        unfold k_Server_keepPiece_b39
        rw [r2, p3]
        have hcap1 : cL c1 13 s 18 ≤ 28400 := (h1.2.2.2.2.2.2.2.2.2.2.2.2.2.2.2.2.2.2.2.2.1.2.2.2.2.1 s hs).2.1
        refine WP_eq (ccpy_n (s := 0) (t := G2) (n := n2) rfl rfl rfl (show 0 + n2 ≤ 200 by omega) (show G2 + n2 ≤ cL c1 13 s 18 from hr) (by omega) (by omega)) ?_
        have P1 : PX 13 s [16, 17, 18] c1 (csA c1 13 s 18 (fun w => if G2 ≤ w ∧ w < G2 + n2 then cI c1 8 ad 19 (0 + (w - G2)) else cI c1 13 s 18 w)) := PX_A (by decide)
        have x18 : ∀ i, cI (csA c1 13 s 18 (fun w => if G2 ≤ w ∧ w < G2 + n2 then cI c1 8 ad 19 (0 + (w - G2)) else cI c1 13 s 18 w)) 13 s 18 i = if G2 ≤ i ∧ i < G2 + n2 then cI c1 8 ad 19 (0 + (i - G2)) else cI c1 13 s 18 i := fun i => cI_A
        have xo : ∀ g j, g ≠ 18 → cI (csA c1 13 s 18 (fun w => if G2 ≤ w ∧ w < G2 + n2 then cI c1 8 ad 19 (0 + (w - G2)) else cI c1 13 s 18 w)) 13 s g j = cI c1 13 s g j := fun g j hg => cI_Ao hg
        have x8 : cI (csA c1 13 s 18 (fun w => if G2 ≤ w ∧ w < G2 + n2 then cI c1 8 ad 19 (0 + (w - G2)) else cI c1 13 s 18 w)) 8 ad 17 0 = Int32.ofNat n2 := (PX_c P1 (by decide)).trans p3
        generalize csA c1 13 s 18 (fun w => if G2 ≤ w ∧ w < G2 + n2 then cI c1 8 ad 19 (0 + (w - G2)) else cI c1 13 s 18 w) = c2 at P1 x18 xo x8
        refine WP_b (WP_some ?_)
        rw [xo 17 0 (by decide), r2, x8, i_ad]
        have P2 : PX 13 s [16, 17, 18] c1 (csI c2 13 s 17 0 (Int32.ofNat (G2 + n2))) := PX_t P1 (PX_I (by decide))
        have y18 : ∀ i, i < G2 + n2 → cI (csI c2 13 s 17 0 (Int32.ofNat (G2 + n2))) 13 s 18 i = (aEnc (cM l.2.2.2)).getD i 0 := by
          intro i hi
          rw [csI_f (by decide), x18]
          by_cases z : G2 ≤ i
          · rw [if_pos ⟨z, hi⟩, Nat.zero_add, p7 (i - G2) (by omega), show G2 + (i - G2) = i by omega]
          · rw [if_neg (fun u => z u.1)]
            exact r5 i (by omega)
        have ycap : cL (csI c2 13 s 17 0 (Int32.ofNat (G2 + n2))) 13 s 18 = cL c1 13 s 18 := PX_cL P2
        have hkp : KPc (csI c2 13 s 17 0 (Int32.ofNat (G2 + n2))) s (aS a 69 s) (Int32.ofNat (G2 + n2)) (aPm a s) := Or.inr ⟨G2 + n2, rfl, csI_e, by rw [hpm]; exact hG, by rw [ycap]; exact hr, by rw [hpm]; exact y18⟩
        have h2 := RC_pc (x := aS a 69 s) (y := Int32.ofNat (G2 + n2)) (M := aPm a s) h1 P2.1 (by rw [P2.2.1]; exact Nat.le_refl _) (KRm_eq P2.2.2.1 P2.2.2.2 P2.2.1 h1.2.2.2.2.2.2.2.2.2.2.2.2.2.2.2.2.2.2.2.2.1) ((csI_f (by decide)).trans ((xo 16 0 (by decide)).trans (K_r h1 (F := 69) (cl := 13) (f := 16) (by decide) hs))) hkp
        have e69 : aI a 69 s (aS a 69 s) = a := aI_same rfl
        have eadd : aPmS (aI (aI a 69 s (aS a 69 s)) 70 s (Int32.ofNat (G2 + n2))) s (aPm a s) = aAdd a 70 s (l.1 17) := by
          rw [e69]
          unfold aAdd
          rw [h70, h17, i_ad]
          exact aPm_same (a := aI a 70 s (Int32.ofNat (G2 + n2))) (s := s)
        rw [eadd] at h2
        exact ⟨h2, csI_e, by rw [ycap]; exact hr, y18⟩
    refine WP_if (i_gei (by omega) (by omega)) (fun z => main c h z) (fun z => ?_)
    obtain ⟨c1, x1, x2, x3, x4, x5, x6⟩ := K_room18 (m := G' + n') h.2.2.2.2.2.2.2.2.2.2.2.2.2.2.2.2.2.2.2.2.1 hs (by omega) (by omega)
    refine WP_eq x1 ?_
    have hkp : KPc c1 s (aS a 69 s) (aS a 70 s) (aPm a s) := by
      refine Or.inr ⟨G', h70, ((x4 13 s 17 (fun u => absurd u.2.2 (by decide))).1 0).trans g2, g3, by omega, fun i hi => ?_⟩
      rw [x6 i (by omega), hpm]
      exact g5 i hi
    have h1 := RC_pc (x := aS a 69 s) (y := aS a 70 s) (M := aPm a s) h (fun cl i f z => x4 cl i f (fun u => z ⟨u.1, u.2.1, by rw [u.2.2]; decide⟩)) x3 x2 (((x4 13 s 16 (fun u => absurd u.2.2 (by decide))).1 0).trans (K_r h (F := 69) (cl := 13) (f := 16) (by decide) hs)) hkp
    have e1 : aPmS (aI (aI a 69 s (aS a 69 s)) 70 s (aS a 70 s)) s (aPm a s) = a := by
      have e69 : aI a 69 s (aS a 69 s) = a := aI_same rfl
      have e70 : aI a 70 s (aS a 70 s) = a := aI_same rfl
      rw [e69, e70]
      exact aPm_same
    rw [e1] at h1
    exact main c1 h1 x5
/-- what is kept of a piece -/
theorem KPc_g {c : CS} {a : AA} {v : CV} {s G : Nat} (h : RC c a v) (hs : s < 7) (h69 : ¬ aS a 69 s = -1) (h70 : aS a 70 s = Int32.ofNat G) (hG : G < 2147483648) (hE : (aEnc (aPm a s)).length < 2147483648) : cI c 13 s 17 0 = Int32.ofNat G ∧ G ≤ (aEnc (aPm a s)).length ∧ G ≤ cL c 13 s 18 ∧ ∀ i, i < G → cI c 13 s 18 i = (aEnc (cM (aPm a s))).getD i 0 := by
  rcases h.2.2.2.2.2.2.2.2.2.2.2.2.1 s hs with z | ⟨G', g1, g2, g3, g4, g5⟩
  · exact absurd z h69
  · rw [h70] at g1
    have e : G = G' := (i_eqi hG (by omega)).mp g1
    subst e
    exact ⟨g2, g3, g4, g5⟩
/-- no piece is kept -/
theorem RC_pc0 {c : CS} {a : AA} {v : CV} {s : Nat} (h : RC c a v) (hs : s < 7) : RC (csI (csI c 13 s 16 0 (-1)) 13 s 17 0 0) (aI a 69 s (-1)) v := by
  have P : PX 13 s [16, 17, 18] c (csI (csI c 13 s 16 0 (-1)) 13 s 17 0 0) := PX_t (PX_I (by decide)) (PX_I (by decide))
  have h2 := RC_pc (x := -1) (y := aS a 70 s) (M := aPm a s) h P.1 (by rw [P.2.1]; exact Nat.le_refl _) (KRm_eq P.2.2.1 P.2.2.2 P.2.1 h.2.2.2.2.2.2.2.2.2.2.2.2.2.2.2.2.2.2.2.2.1) ((csI_f (by decide)).trans csI_e) (Or.inl rfl)
  have e70 : aI (aI a 69 s (-1)) 70 s (aS a 70 s) = aI a 69 s (-1) := aI_same (aS_If (by decide))
  have ep : aPmS (aI a 69 s (-1)) s (aPm a s) = aI a 69 s (-1) := aPm_same (a := aI a 69 s (-1))
  rw [e70, ep] at h2
  exact h2
/-- the snapshot is taken over -/
theorem K_takeSnap {F : Nat} {c : CS} {a : AA} {s ad : Nat} {l : AL} {H : List (Nat × Option AL)} {U : Nat → Int32} {N : Nat × Nat} (hF : 400 ≤ F) (h : RC c a (((ad, some l) :: H, U), N)) (hs : s < 7) (w : WLg a s) (wc : WCh a s) (hm : mdOK a 0) (hk : l.1 4 = 7) (hw : wfMc l.2.2.2) (h12 : l.1 12 = Int32.ofNat (aEnc l.2.2.2).length) (hb : (aBase a s).toInt < (l.1 7).toInt) (hn2 : (l.1 7).toInt < 1073741824) (ht : ¬ l.1 8 = -1) (h69 : ¬ aS a 69 s = -1) (h70 : aS a 70 s = Int32.ofNat (aEnc l.2.2.2).length) (hpm : aPm a s = l.2.2.2) : WP (k_Server_takeSnapshot F c s ad) (fun c' => RC c' (aTook a s l) (((ad, some l) :: H, U), N)) := by
  obtain ⟨w1, w2, w3, w4⟩ := id w
  have hle := (aEnc_len hw.1).1
  have hE : (aEnc (aPm a s)).length < 2147483648 := by
    rw [hpm]
    omega
  obtain ⟨e17, _, hcap, hby⟩ := KPc_g h hs h69 h70 (by omega) hE
  rw [hpm] at hby
  have l0 := RC_hand h List.mem_cons_self
  have e7 : cI c 8 ad 7 0 = l.1 7 := LR_f l0 hk (by rw [lF7]; decide)
  have e8 : cI c 8 ad 8 0 = l.1 8 := LR_f l0 hk (by rw [lF7]; decide)
  have e11 : cI c 8 ad 11 0 = l.1 11 := LR_f l0 hk (by rw [lF7]; decide)
  unfold k_Server_takeSnapshot k_Server_takeSnapshot_b0
  rw [e7, e8, e11, e17]
  refine WP_call (K_writeSnap13 (x := l.1 7) (y := l.1 8) (z := l.1 11) h hs hw.1 hcap hby) (fun c1 h1 => ?_)
  have l1 := RC_hand h1 List.mem_cons_self
  rw [show cI c1 8 ad 7 0 = l.1 7 from LR_f l1 hk (by rw [lF7]; decide), show cI c1 8 ad 8 0 = l.1 8 from LR_f l1 hk (by rw [lF7]; decide), show cI c1 8 ad 11 0 = l.1 11 from LR_f l1 hk (by rw [lF7]; decide)]
  rw [aTook_e, h12]
  have fr : AFr [55, 57, 58, 56, 77, 67, 43, 47, 64, 65] [2, 4, 6, 7, 8] a (aFindCode (aTrim (aWriteShot (aShS (aI (aMoveBase a s (l.1 7) (l.1 8) (l.1 11)) 67 s (Int32.ofNat (aEnc l.2.2.2).length)) s l.2.2.2) s) s) s) := AFr_w (AFr_t (AFr_t (AFr_t (AFr_t (AFr_t AFr_moveBase AFr_I) AFr_sh) AFr_writeShot) AFr_trim) AFr_findCode) (by decide) (by decide)
  have f55 : aS (aFindCode (aTrim (aWriteShot (aShS (aI (aMoveBase a s (l.1 7) (l.1 8) (l.1 11)) 67 s (Int32.ofNat (aEnc l.2.2.2).length)) s l.2.2.2) s) s) s) 55 s = l.1 7 := by
    have g1 : AFr [67, 43, 47, 64, 65] [4, 6, 7, 8] (aMoveBase a s (l.1 7) (l.1 8) (l.1 11)) (aFindCode (aTrim (aWriteShot (aShS (aI (aMoveBase a s (l.1 7) (l.1 8) (l.1 11)) 67 s (Int32.ofNat (aEnc l.2.2.2).length)) s l.2.2.2) s) s) s) := AFr_w (AFr_t (AFr_t (AFr_t (AFr_t AFr_I AFr_sh) AFr_writeShot) AFr_trim) AFr_findCode) (by decide) (by decide)
    rw [g1.1 55 (by decide)]
    exact (@moveBase_fr a s (l.1 7) (l.1 8) (l.1 11)).2.2.1
  refine K_moved (by omega) h1 hs w (by omega) hn2 ht (Int32.lt_iff_toInt_lt.mpr hb) (mv_W w hb hn2) (mv_P w wc hb) (fun c3 h3 => ?_)
  generalize aFindCode (aTrim (aWriteShot (aShS (aI (aMoveBase a s (l.1 7) (l.1 8) (l.1 11)) 67 s (Int32.ofNat (aEnc l.2.2.2).length)) s l.2.2.2) s) s) s = Z at h3 fr f55
  refine WP_b ?_
  rw [K_r h3 (F := 55) (cl := 9) (f := 3) (by decide) hs, f55]
  have h4 := RC_I (x := l.1 7) h3 (F := 75) (cl := 9) (f := 9) (i := s) (by decide) (by decide)
  refine WP_b ?_
  have g55 : aS (aI Z 75 s (l.1 7)) 55 s = l.1 7 := (aS_If (by decide)).trans f55
  rw [K_r h4 (F := 55) (cl := 9) (f := 3) (by decide) hs, g55]
  have h5 := RC_I (x := l.1 7) h4 (F := 76) (cl := 9) (f := 10) (i := s) (by decide) (by decide)
  have z69 : aS (aI (aI Z 75 s (l.1 7)) 76 s (l.1 7)) 69 s = aS a 69 s := (aS_If (by decide)).trans ((aS_If (by decide)).trans (fr.1 69 (by decide) s))
  have z70 : aS (aI (aI Z 75 s (l.1 7)) 76 s (l.1 7)) 70 s = aS a 70 s := (aS_If (by decide)).trans ((aS_If (by decide)).trans (fr.1 70 (by decide) s))
  have z2 : aS (aI (aI Z 75 s (l.1 7)) 76 s (l.1 7)) 2 0 = aS a 2 0 := (aS_If (by decide)).trans ((aS_If (by decide)).trans (fr.1 2 (by decide) 0))
  have zp : aPm (aI (aI Z 75 s (l.1 7)) 76 s (l.1 7)) s = l.2.2.2 := by
    have e : aPm Z = aPm a := fr.2.2.2.2.2.2.1 (by decide)
    show aPm Z s = l.2.2.2
    rw [e, hpm]
  generalize aI (aI Z 75 s (l.1 7)) 76 s (l.1 7) = Y at h5 z69 z70 z2 zp
  generalize csI (csI c3 9 s 9 0 (l.1 7)) 9 s 10 0 (l.1 7) = c5 at h5
  obtain ⟨y17, _, ycap, yby⟩ := KPc_g h5 hs (by rw [z69]; exact h69) (by rw [z70]; exact h70) (by omega) (by rw [zp]; omega)
  rw [zp] at yby
  rw [y17, ← cM_enc]
  have hcap5 : cL c5 13 s 18 ≤ 28400 := (h5.2.2.2.2.2.2.2.2.2.2.2.2.2.2.2.2.2.2.2.2.1.2.2.2.2.1 s hs).2.1
  refine WP_call (K_load13_18 (M := cM l.2.2.2) (by omega) (h5.2.2.2.2.2.2.2.2.2.2.2.1 s hs).2 (wfM_cM hw.1) (shN_wf hw) (by rw [cM_enc]; exact ycap) (show cL c5 13 s 18 ≤ 30000 by omega) (fun i hi => yby i (by rw [cM_enc] at hi; exact hi))) (fun c6 hc6 => ?_)
  have h6 : RC c6 (aMcS Y s l.2.2.2) (((ad, some l) :: H, U), N) := RC_mc h5 (PX_w hc6.1 (by decide)) ⟨hw, hc6.2⟩
  refine WP_call (K_soil h6 hs (mdOK_s hm z2)) (fun c7 h7 => WP_b (WP_b (WP_some ?_)))
  exact RC_pc0 h7 hs
/-- how far the pieces are, is sent -/
theorem K_pieceOdd {F : Nat} {c : CS} {a : AA} {s ad : Nat} {l : AL} {b : Int32} {H : List (Nat × Option AL)} {U : Nat → Int32} {N : Nat × Nat} (hF : 400 ≤ F) (h : RC c a (((ad, some l) :: H, U), N)) (hs : s < 7) (hk : l.1 4 = 7) (hf : aInR (l.1 2) 0 6 = true ∨ aInR (l.1 2) 8 15 = true) (hH : H.length ≤ 4) (hb : ¬ b = -1) : WP (k_Server_takePiece_b142 F c s ad b) (fun c' => RC c' (aStored a s (l.1 2) b (if aS a 69 s = b then aS a 70 s else 0) (l.1 10)) (((ad, some l) :: H, U), N)) := by
  have l0 := RC_hand h List.mem_cons_self
  have e2 : cI c 8 ad 2 0 = l.1 2 := l0.1 2 (by decide)
  have e10 : cI c 8 ad 10 0 = l.1 10 := LR_f l0 hk (by rw [lF7]; decide)
  unfold k_Server_takePiece_b142 k_Server_takePiece_b164
  rw [K_r h (F := 69) (cl := 13) (f := 16) (by decide) hs, e2, e10]
  refine WP_if c2_ne (fun z => ?_) (fun z => ?_)
  · rw [if_neg z]
    exact WP_call (K_stored (by omega) h hs hf (by simpa using hH)) (fun c1 h1 => WP_some h1)
  · have z : aS a 69 s = b := Classical.not_not.mp z
    rw [if_pos z]
    have e17 : cI c 13 s 17 0 = aS a 70 s := by
      rcases h.2.2.2.2.2.2.2.2.2.2.2.2.1 s hs with y | ⟨G, g1, g2, _⟩
      · rw [z] at y
        exact absurd y hb
      · rw [g1, g2]
    rw [e17]
    exact WP_call (K_stored (by omega) h hs hf (by simpa using hH)) (fun c1 h1 => WP_some h1)
/-- a piece that fits is kept, the snapshot taken over when it is whole -/
theorem K_piece {F : Nat} {c : CS} {a : AA} {s ad : Nat} {l : AL} {H : List (Nat × Option AL)} {U : Nat → Int32} {N : Nat × Nat} (hF : 400 ≤ F) (h : RC c a (((ad, some l) :: H, U), N)) (hs : s < 7) (w : WLg a s) (wc : WCh a s) (hm : mdOK a 0) (hk : l.1 4 = 7) (hw : wfMc l.2.2.2) (h12 : l.1 12 = Int32.ofNat (aEnc l.2.2.2).length) (hb : (aBase a s).toInt < (l.1 7).toInt) (hn2 : (l.1 7).toInt < 1073741824) (ht : ¬ l.1 8 = -1) (hpm : aS a 69 s = l.1 7 → aPm a s = l.2.2.2) (hf : aInR (l.1 2) 0 6 = true ∨ aInR (l.1 2) 8 15 = true) (hH : H.length ≤ 4) : WP (k_Server_takePiece_b83 F c s ad (l.1 7)) (fun c' => RC c' (asB a s l) (((ad, some l) :: H, U), N)) := by
  obtain ⟨w1, w2, w3, w4⟩ := id w
  have hb1 : ¬ l.1 7 = -1 := by
    intro z
    rw [z, show (-1 : Int32).toInt = -1 by decide] at hb
    omega
  have hle := (aEnc_len hw.1).1
  have l0 := RC_hand h List.mem_cons_self
  have e13 : cI c 8 ad 13 0 = l.1 13 := LR_f l0 hk (by rw [lF7]; decide)
  obtain ⟨n, o, q1, q2, q3, q4, q5, q6, q7⟩ := l0.2.2.2.1 hk
  unfold k_Server_takePiece_b83 asB
  dsimp only
  rw [K_r h (F := 69) (cl := 13) (f := 16) (by decide) hs]
  refine WP_if c2_ne (fun z => ?_) (fun z => ?_)
  · rw [if_pos (Or.inl z)]
    exact K_pieceOdd hF h hs hk hf hH hb1
  · have z : aS a 69 s = l.1 7 := Classical.not_not.mp z
    have z1 : ¬ aS a 69 s = -1 := by
      rw [z]
      exact hb1
    have hp := hpm z
    have e17 : cI c 13 s 17 0 = aS a 70 s := by
      rcases h.2.2.2.2.2.2.2.2.2.2.2.2.1 s hs with y | ⟨G, g1, g2, _⟩
      · exact absurd y z1
      · rw [g1, g2]
    rw [e13, e17]
    refine WP_if c2_ne (fun y => ?_) (fun y => ?_)
    · rw [if_pos (Or.inr y)]
      exact K_pieceOdd hF h hs hk hf hH hb1
    · have y : l.1 13 = aS a 70 s := Classical.not_not.mp y
      rw [if_neg (fun k => k.elim (fun k => k z) (fun k => k y))]
      have h70 : aS a 70 s = Int32.ofNat o := by rw [← y, q2]
      refine WP_call (K_keepPiece h hs hk hp z1 h70 q2 q1 q6 hle q4) (fun c1 hc1 => ?_)
      obtain ⟨h1, k1, k2, k3⟩ := hc1
      have l1 := RC_hand h1 List.mem_cons_self
      have f12 : cI c1 8 ad 12 0 = l.1 12 := LR_f l1 hk (by rw [lF7]; decide)
      have fr : AFr [70] [] a (aAdd a 70 s (l.1 17)) := AFr_I
      have eg : aS (aAdd a 70 s (l.1 17)) 70 s = Int32.ofNat (o + n) := by
        unfold aAdd
        rw [aS_I, if_pos ⟨rfl, rfl⟩, h70, q1, i_ad]
      have x69 : aS (aAdd a 70 s (l.1 17)) 69 s = l.1 7 := (fr.1 69 (by decide) s).trans z
      have xp : aPm (aAdd a 70 s (l.1 17)) s = l.2.2.2 := hp
      have w' : WLg (aAdd a 70 s (l.1 17)) s := WLg_fr fr (by decide) (by decide) w
      have x55 : aBase (aAdd a 70 s (l.1 17)) s = aBase a s := fr.1 55 (by decide) s
      have x56 : aLast (aAdd a 70 s (l.1 17)) s = aLast a s := fr.1 56 (by decide) s
      have wc' : WCh (aAdd a 70 s (l.1 17)) s := WCh_c wc rfl x56 x55 (fun _ _ => rfl)
      have m' : mdOK (aAdd a 70 s (l.1 17)) 0 := mdOK_s hm (fr.1 2 (by decide) 0)
      generalize aAdd a 70 s (l.1 17) = a2 at h1 eg x69 xp w' x55 wc' m'
      rw [k1, f12, eg]
      refine WP_if c2_lt (fun x => ?_) (fun x => ?_)
      · rw [if_neg (fun k => Int32.not_le.mpr x k)]
        unfold k_Server_takePiece_b125
        have g2 : cI c1 8 ad 2 0 = l.1 2 := l1.1 2 (by decide)
        have g10 : cI c1 8 ad 10 0 = l.1 10 := LR_f l1 hk (by rw [lF7]; decide)
        rw [g2, g10]
        exact WP_call (K_stored (by omega) h1 hs hf (by simpa using hH)) (fun c2 h2 => WP_some h2)
      · rw [if_pos (Int32.not_lt.mp x)]
        have x2 : l.1 12 ≤ Int32.ofNat (o + n) := Int32.not_lt.mp x
        have hlen : o + n = (aEnc l.2.2.2).length := by
          rw [h12] at x2
          have x3 := (i_ltn (by omega) (by omega)).mp x2
          omega
        refine WP_call (K_takeSnap hF h1 hs w' wc' m' hk hw h12 (by rw [x55]; exact hb) hn2 ht (by rw [x69]; exact hb1) (by rw [eg, hlen]) xp) (fun c2 h2 => ?_)
        unfold k_Server_takePiece_b125
        have l2 := RC_hand h2 List.mem_cons_self
        have g2 : cI c2 8 ad 2 0 = l.1 2 := l2.1 2 (by decide)
        have g10 : cI c2 8 ad 10 0 = l.1 10 := LR_f l2 hk (by rw [lF7]; decide)
        rw [g2, g10]
        exact WP_call (K_stored (by omega) h2 hs hf (by simpa using hH)) (fun c3 h3 => WP_some h3)
