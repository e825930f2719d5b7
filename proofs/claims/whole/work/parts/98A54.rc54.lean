/-! the log is cut down to a snapshot -/
theorem rem_I {a : AA} {s f g i : Nat} {x : Int32} (h : g ≠ 43) : aRemove (aI a g i x) s f = aI (aRemove a s f) g i x := by
  show aI (aI (aPut a s f (aU (aU (aFc a s f).1 0 0) 1 0, (aFc a s f).2)) g i x) 43 (16 * s + f) 0 = aI (aI (aPut a s f (aU (aU (aFc a s f).1 0 0) 1 0, (aFc a s f).2)) 43 (16 * s + f) 0) g i x
  exact aI_comm (fun z => h z.1)
theorem remAll_I {s g i : Nat} {x : Int32} (h : g ≠ 43) : ∀ (l : List Nat) (a : AA), aRemoveAll (aI a g i x) s l = aI (aRemoveAll a s l) g i x
  | [], _ => rfl
  | f :: r, a => by
    show aRemoveAll (aRemove (aI a g i x) s f) s r = aI (aRemoveAll (aRemove a s f) s r) g i x
    rw [rem_I h, remAll_I h r]
theorem old_I {a : AA} {s g i : Nat} {x : Int32} (h : g ≠ 55) : ∀ l : List Nat, aOld (aI a g i x) s l = aOld a s l
  | [] => rfl
  | [f] => rfl
  | f :: k :: r => by
    have e : aBase (aI a g i x) s = aBase a s := aS_If (fun z => h z.symm)
    have ih := old_I h (a := a) (s := s) (i := i) (x := x) (k :: r)
    show (if (aFc a s k).1 2 ≤ aBase (aI a g i x) s + 1 then (f :: (aOld (aI a g i x) s (k :: r)).1, (aOld (aI a g i x) s (k :: r)).2) else ([], f :: k :: r)) = (if (aFc a s k).1 2 ≤ aBase a s + 1 then (f :: (aOld a s (k :: r)).1, (aOld a s (k :: r)).2) else ([], f :: k :: r))
    rw [e, ih]
theorem trim_I {a : AA} {s g i : Nat} {x : Int32} (h : g ≠ 43 ∧ g ≠ 55 ∧ g ≠ 56) : aTrim (aI a g i x) s = aI (aTrim a s) g i x := by
  have e5 : aBase (aI a g i x) s = aBase a s := aS_If (fun z => h.2.1 z.symm)
  have e6 : aLast (aI a g i x) s = aLast a s := aS_If (fun z => h.2.2 z.symm)
  have ec : aCh (aI a g i x) s = aCh a s := rfl
  unfold aTrim
  dsimp only
  rw [e5, e6, ec, old_I h.2.1, remAll_I h.1]
  rfl
theorem trim_find {a : AA} {s : Nat} : aTrim (aFindCode a s) s = aFindCode (aTrim a s) s := by
  have fr := @AFr_trim a s
  have e5 : aBase (aTrim a s) s = aBase a s := fr.1 55 (by decide) s
  have e8 : aS (aTrim a s) 58 s = aS a 58 s := fr.1 58 (by decide) s
  have el : aLg (aTrim a s) s = aLg a s := by rw [fr.2.2.2.1 (by decide)]
  unfold aFindCode
  rw [e5, e8, el, trim_I (by decide), trim_I (by decide)]
theorem moveBase_fr {a : AA} {s : Nat} {n t c : Int32} : aCh (aMoveBase a s n t c) = aCh a ∧ aFc (aMoveBase a s n t c) = aFc a ∧ aS (aMoveBase a s n t c) 55 s = n ∧ aS (aMoveBase a s n t c) 57 s = t ∧ aS (aMoveBase a s n t c) 58 s = c ∧ aS (aMoveBase a s n t c) 47 s = aS a 47 s := by
  unfold aMoveBase
  dsimp only
  exact ⟨rfl, rfl, if_pos ⟨rfl, rfl⟩, if_pos ⟨rfl, rfl⟩, if_pos ⟨rfl, rfl⟩, rfl⟩
/-- behind the writing of the snapshot: the base moves, segments go -/
theorem K_moved {F : Nat} {c : CS} {a : AA} {v : CV} {s : Nat} {n t x L : Int32} {M : AM} {g : CS → Option CS} {Q : CS → Prop} (hF : 302 ≤ F) (h : RC c (aShW a s (if aS a 47 s = 2 then 3 else 2) (aF 1 (20 + L) n t x [] M) L M) v) (hs : s < 7) (w : WLg a s) (hn : 0 ≤ n.toInt) (hn2 : n.toInt < 1073741824) (ht : ¬ t = -1) (hb : aBase a s < n) (w2 : WLg (aMoveBase a s n t x) s) (hp : WPre (aMoveBase a s n t x) s)
    (k : ∀ c', RC c' (aFindCode (aTrim (aWriteShot (aShS (aI (aMoveBase a s n t x) 67 s L) s M) s) s) s) v → WP (g c') Q) :
    WP ((k_Log_moveBase F c s n t x).bind fun p5 => (k_Disk_baseMoved F p5 s (cI p5 9 s 3 0) (cI p5 9 s 6 0)).bind fun p8 => g p8) Q := by
  obtain ⟨f1, f2, f3, f4, f5, f6⟩ := @moveBase_fr a s n t x
  have hff : (if aS a 47 s = 2 then 3 else 2 : Nat) < 4 := by split <;> omega
  have eW : aWriteShot (aShS (aI (aMoveBase a s n t x) 67 s L) s M) s = aMoveBase (aShW a s (if aS a 47 s = 2 then 3 else 2) (aF 1 (20 + L) n t x [] M) L M) s n t x := by
    rw [aShot_e, f3, f4, f5, f6, shW_move]
  rw [eW] at k
  generalize (if aS a 47 s = 2 then 3 else 2 : Nat) = f at h k eW hff
  generalize aF 1 (20 + L) n t x [] M = FF at h k eW
  have eS : ∀ g i, g ≠ 67 ∧ g ≠ 43 ∧ g ≠ 47 → aS (aShW a s f FF L M) g i = aS a g i := fun g i h => (if_neg (fun z => h.2.2 z.1)).trans ((if_neg (fun z => h.2.1 z.1)).trans (if_neg (fun z => h.1 z.1)))
  have wX : WLg (aShW a s f FF L M) s := w
  have hbX : aBase (aShW a s f FF L M) s < n := hb
  refine WP_call (K_moveBase hF h hs wX hn hn2 ht hbX) (fun c1 h1 => ?_)
  have eY : aMoveBase (aShW a s f FF L M) s n t x = aShW (aMoveBase a s n t x) s f FF L M := shW_move.symm
  have eSY : ∀ g i, g ≠ 67 ∧ g ≠ 43 ∧ g ≠ 47 → aS (aMoveBase (aShW a s f FF L M) s n t x) g i = aS (aMoveBase a s n t x) g i := fun g i h => by
    rw [eY]
    exact (if_neg (fun z => h.2.2 z.1)).trans ((if_neg (fun z => h.2.1 z.1)).trans (if_neg (fun z => h.1 z.1)))
  have elY : aLg (aMoveBase (aShW a s f FF L M) s n t x) = aLg (aMoveBase a s n t x) := by rw [eY]; rfl
  have ecY : aCh (aMoveBase (aShW a s f FF L M) s n t x) = aCh (aMoveBase a s n t x) := by rw [eY]; rfl
  have efY : ∀ g, 4 ≤ g → aFc (aMoveBase (aShW a s f FF L M) s n t x) s g = aFc (aMoveBase a s n t x) s g := fun g hg => by
    rw [eY]
    show (if s = s then aU (aFc (aMoveBase a s n t x) s) f FF else aFc (aMoveBase a s n t x) s) g = _
    rw [if_pos rfl]
    exact if_neg (fun z => by omega)
  generalize aMoveBase (aShW a s f FF L M) s n t x = Y at h1 k eSY elY ecY efY
  have fc := @AFr_findCode Y s
  have wY : WLg (aFindCode Y s) s := by
    unfold WLg aBase aLast at w2 ⊢
    rw [fc.1 55 (by decide), fc.1 56 (by decide), fc.2.2.2.1 (by decide), eSY 55 s (by decide), eSY 56 s (by decide), elY]
    exact w2
  have pY : WPre (aFindCode Y s) s := by
    unfold WPre aBase aLast at hp ⊢
    rw [fc.1 55 (by decide), fc.1 56 (by decide), fc.2.2.2.2.2.2.2.2.2.1 (by decide), fc.2.2.2.2.2.2.2.1 (by decide), eSY 55 s (by decide), eSY 56 s (by decide), ecY]
    obtain ⟨p1, p2, p3⟩ := hp
    refine ⟨p1, fun g g1 g2 g3 => p2 g g1 g2 (by rw [← efY g g1]; exact g3), p3.imp id ?_⟩
    rintro ⟨m, m1, m2, m3⟩
    exact ⟨m, m1, m2, chOK_c _ _ efY m3⟩
  rw [K_r h1 (F := 55) (cl := 9) (f := 3) (by decide) hs, K_r h1 (F := 56) (cl := 9) (f := 6) (by decide) hs]
  refine WP_call (K_baseMoved (by omega) h1 hs wY pY) (fun c2 h2 => ?_)
  rw [trim_find] at h2
  exact k c2 h2
theorem mv_goes {a : AA} {s k : Nat} {n c : Int32} (hh : aHas a s n = true) (hk : (n - aBase a s).toNatClampNeg = k) : aLg (aMoveBase a s n (aTermAt a s n) c) s = (aLg a s).drop k ∧ aS (aMoveBase a s n (aTermAt a s n) c) 56 s = aLast a s := by
  have e : (aHas a s n && decide (aTermAt a s n = aTermAt a s n)) = true := by rw [hh, decide_eq_true rfl]; rfl
  unfold aMoveBase
  dsimp only
  rw [e, hk]
  refine ⟨if_pos rfl, ?_⟩
  rw [aS_I, if_neg (fun z => absurd z.1 (by decide)), aS_I, if_pos ⟨rfl, rfl⟩]
  exact if_pos rfl
theorem K_compact {F : Nat} {c : CS} {a : AA} {v : CV} {s : Nat} (hF : 302 ≤ F) (h : RC c a v) (hs : s < 7) (w : WLg a s) (wc : WCh a s) (mk : WMk a s) (ht : ∀ e ∈ aLg a s, ¬ e.1 = -1) (hm : mdOK a 0) : WP (k_Server_compact F c s) (fun c' => RC c' (if 24 ≤ aS a 76 s - aBase a s then A_compact a s else a) v) := by
  unfold k_Server_compact k_Server_compact_b0
  rw [K_r h (F := 76) (cl := 9) (f := 10) (by decide) hs, K_r h (F := 55) (cl := 9) (f := 3) (by decide) hs]
  refine WP_if c2_ge (fun q => ?_) (fun q => ?_)
  · have q : 24 ≤ aS a 76 s - aBase a s := q
    rw [if_pos q]
    obtain ⟨m1, m2, m3, m4⟩ := id mk
    obtain ⟨w1, w2, w3, w4⟩ := id w
    rw [Int32.le_iff_toInt_le] at m1 m2 m3 q
    rw [i_subI (by omega) (by omega), show (24 : Int32).toInt = 24 by decide] at q
    have hh : aHas a s (aS a 76 s) = true := by
      unfold aHas
      rw [Bool.and_eq_true_iff]
      exact ⟨decide_eq_true (Int32.lt_iff_toInt_lt.mpr (by omega)), decide_eq_true (Int32.le_iff_toInt_le.mpr (by omega))⟩
    obtain ⟨k, k1, k2, k3, k4, k5⟩ := aHas_k w hh
    refine WP_eq (K_termAt h hs w) (WP_eq (K_upTo (j := k) hF h hs w k2 k3) (WP_call (K_save (by omega) h hs) (fun p hp => ?_)))
    obtain ⟨p1, p2, p3, p4⟩ := hp
    rw [K_r p2 (F := 76) (cl := 9) (f := 10) (by decide) hs, p1]
    have hw0 := (h.2.2.2.2.2.2.2.2.2.2.2.1 s hs).1
    refine WP_call (K_writeSnap10 p2 hs hw0.1 p3 p4) (fun c2 h2 => ?_)
    rw [K_r h2 (F := 76) (cl := 9) (f := 10) (by decide) hs]
    have e76 : aS (aShW a s (if aS a 47 s = 2 then 3 else 2) (aF 1 (20 + Int32.ofNat (aEnc (aMc a s)).length) (aS a 76 s) (aTermAt a s (aS a 76 s)) (aMemC (aS a 58 s) ((aLg a s).take k)) [] (aMc a s)) (Int32.ofNat (aEnc (aMc a s)).length) (aMc a s)) 76 s = aS a 76 s := rfl
    rw [e76]
    obtain ⟨f1, f2, f3, f4, f5, f6⟩ := @moveBase_fr a s (aS a 76 s) (aTermAt a s (aS a 76 s)) (aMemC (aS a 58 s) ((aLg a s).take k))
    obtain ⟨g1, g2⟩ := mv_goes (c := aMemC (aS a 58 s) ((aLg a s).take k)) hh k4
    have hterm : ¬ aTermAt a s (aS a 76 s) = -1 := by
      obtain ⟨i, i1, i2, i3, i4⟩ := aHas_i w hh
      unfold aTermAt
      rw [if_neg (fun z => by
        have := congrArg Int32.toInt z
        omega), hh, if_pos rfl]
      unfold aEnt
      rw [i3, List.getD_eq_getElem?_getD, List.getElem?_eq_getElem i1]
      exact ht _ (List.getElem_mem i1)
    have wM : WLg (aMoveBase a s (aS a 76 s) (aTermAt a s (aS a 76 s)) (aMemC (aS a 58 s) ((aLg a s).take k))) s := by
      unfold WLg aBase aLast
      rw [f3, g1, g2, List.length_drop]
      refine ⟨by omega, ?_, by omega, w4⟩
      have e1 : (aLast a s).toInt = (aBase a s).toInt + (aLg a s).length := w2
      omega
    have pM : WPre (aMoveBase a s (aS a 76 s) (aTermAt a s (aS a 76 s)) (aMemC (aS a 58 s) ((aLg a s).take k))) s := by
      obtain ⟨p1, p2, p3⟩ := wc
      unfold WPre aBase aLast
      rw [f1, f2, f3, g2]
      refine ⟨p1, p2, ?_⟩
      rcases p3 with ⟨z1, z2⟩ | ⟨m, m1, m2, m3⟩
      · have := congrArg Int32.toInt z2
        have e1 : (aLast a s).toInt = (aBase a s).toInt + (aLg a s).length := w2
        omega
      · exact Or.inr ⟨m, m1, by omega, m3⟩
    refine K_moved hF h2 hs w (by omega) (by omega) hterm (Int32.lt_iff_toInt_lt.mpr (by omega)) wM pM (fun c3 h3 => ?_)
    have eC : A_compact a s = aOff0 (aSoil (aFindCode (aTrim (aWriteShot (aShS (aI (aMoveBase a s (aS a 76 s) (aTermAt a s (aS a 76 s)) (aMemC (aS a 58 s) ((aLg a s).take k))) 67 s (Int32.ofNat (aEnc (aMc a s)).length)) s (aMc a s)) s) s) s) s) s 7 := by
      unfold A_compact
      dsimp only
      rw [k4, aSize_e]
    rw [eC]
    have fr : AFr [55, 57, 58, 56, 77, 67, 43, 47, 64, 65] [2, 4, 6, 7, 8] a (aFindCode (aTrim (aWriteShot (aShS (aI (aMoveBase a s (aS a 76 s) (aTermAt a s (aS a 76 s)) (aMemC (aS a 58 s) ((aLg a s).take k))) 67 s (Int32.ofNat (aEnc (aMc a s)).length)) s (aMc a s)) s) s) s) := AFr_w (AFr_t (AFr_t (AFr_t (AFr_t (AFr_t AFr_moveBase AFr_I) AFr_sh) AFr_writeShot) AFr_trim) AFr_findCode) (by decide) (by decide)
    generalize aFindCode (aTrim (aWriteShot (aShS (aI (aMoveBase a s (aS a 76 s) (aTermAt a s (aS a 76 s)) (aMemC (aS a 58 s) ((aLg a s).take k))) 67 s (Int32.ofNat (aEnc (aMc a s)).length)) s (aMc a s)) s) s) s = Z at h3 fr
    refine WP_call (K_soil h3 hs (mdOK_s hm (fr.1 2 (by decide) 0))) (fun c4 h4 => WP_b (WP_some (RC_off0 h4)))
  · rw [if_neg (show ¬ 24 ≤ aS a 76 s - aBase a s from q)]
    exact WP_some h
