/-! sessions by their numbers -/
def sLt (x y : AN) : Prop := x.1 < y.1
theorem perm_mid {α : Type} {l : List α} {i : Nat} (hi : i < l.length) : l.Perm (l[i] :: l.eraseIdx i) := by
  have e : l = l.take i ++ l[i] :: l.drop (i + 1) := by rw [← List.drop_eq_getElem_cons hi, List.take_append_drop]
  have e2 : l.eraseIdx i = l.take i ++ l.drop (i + 1) := List.eraseIdx_eq_take_drop_succ l i
  rw [e2]
  have := @List.perm_middle _ l[i] (l.take i) (l.drop (i + 1))
  rw [← e] at this
  exact this
theorem perm_set {α : Type} {l : List α} {i : Nat} {y : α} (hi : i < l.length) : (l.set i y).Perm (y :: l.eraseIdx i) := by
  have e2 : l.eraseIdx i = l.take i ++ l.drop (i + 1) := List.eraseIdx_eq_take_drop_succ l i
  rw [e2, List.set_eq_take_append_cons_drop, if_pos hi]
  exact List.perm_middle
theorem erase_perm2 {α : Type} {S L : List α} {i j : Nat} (p : S.Perm L) (hi : i < S.length) (hj : j < L.length) (e : S[i] = L[j]) : (S.eraseIdx i).Perm (L.eraseIdx j) := by
  have h := ((perm_mid hi).symm.trans p).trans (perm_mid hj)
  rw [e] at h
  exact List.Perm.cons_inv h
theorem set_perm2 {α : Type} {S L : List α} {i j : Nat} {y : α} (p : S.Perm L) (hi : i < S.length) (hj : j < L.length) (e : S[i] = L[j]) : (S.set i y).Perm (L.set j y) := ((perm_set hi).trans (List.Perm.cons y (erase_perm2 p hi hj e))).trans (perm_set hj).symm
theorem uniq_mem {α : Type} {f : α → Int32} {S : List α} (hs : (S.map f).Nodup) {x y : α} (hx : x ∈ S) (hy : y ∈ S) (e : f x = f y) : x = y := by
  have h := List.pairwise_map.mp (List.nodup_iff_pairwise_ne.mp hs)
  obtain ⟨i, hi, rfl⟩ := List.mem_iff_getElem.mp hx
  obtain ⟨j, hj, rfl⟩ := List.mem_iff_getElem.mp hy
  rcases Nat.lt_trichotomy i j with q | q | q
  · exact absurd e (List.pairwise_iff_getElem.mp h i j hi hj q)
  · subst q
    rfl
  · exact absurd e.symm (List.pairwise_iff_getElem.mp h j i hj hi q)
theorem srt_nodup {S : List AN} (hs : S.Pairwise sLt) : (S.map (fun x => x.1)).Nodup := by
  rw [List.nodup_iff_pairwise_ne, List.pairwise_map]
  refine hs.imp (fun {x y} h e => ?_)
  unfold sLt at h
  rw [e] at h
  exact Int32.lt_irrefl h
theorem cM_perm {M : AM} : (cM M).1.Perm M.1 := List.mergeSort_perm _ _
theorem cM_le {M : AM} : (cM M).1.Pairwise (fun x y => x.1 ≤ y.1) := by
  have h := @List.pairwise_mergeSort AN (fun x y => decide (x.1 ≤ y.1)) (fun a b c h1 h2 => decide_eq_true (Int32.le_trans (of_decide_eq_true h1) (of_decide_eq_true h2))) (fun a b => by
    rcases Int32.le_total a.1 b.1 with q | q
    · rw [decide_eq_true q, Bool.true_or]
    · rw [decide_eq_true q, Bool.or_true]) M.1
  exact h.imp (fun {x y} q => of_decide_eq_true q)
theorem cM_srt {M : AM} (hn : (M.1.map (fun x => x.1)).Nodup) : (cM M).1.Pairwise sLt := by
  have hp : ((cM M).1.map (fun x => x.1)).Nodup := (cM_perm.map (fun x => x.1)).nodup_iff.mpr hn
  have h2 := List.pairwise_map.mp (List.nodup_iff_pairwise_ne.mp hp)
  rw [List.pairwise_iff_getElem]
  intro i j hi hj hij
  have a1 := List.pairwise_iff_getElem.mp (@cM_le M) i j hi hj hij
  have a2 := List.pairwise_iff_getElem.mp h2 i j hi hj hij
  unfold sLt
  exact Int32.lt_of_le_of_ne a1 a2
theorem cM_uniq {S : List AN} {M : AM} (hs : S.Pairwise sLt) (hp : S.Perm M.1) : (cM M).1 = S := by
  refine List.Perm.eq_of_pairwise (le := fun x y : AN => x.1 ≤ y.1) ?_ cM_le (hs.imp (fun {x y} h => Int32.le_of_lt h)) (cM_perm.trans hp.symm)
  intro a b ha hb h1 h2
  have ha' : a ∈ S := hp.mem_iff.mpr (cM_perm.mem_iff.mp ha)
  exact uniq_mem (srt_nodup hs) ha' hb (Int32.le_antisymm h1 h2)
theorem cM_len {M : AM} : (cM M).1.length = M.1.length := cM_perm.length_eq
/-- a session's row -/
def KS1 (c : CS) (s i : Nat) (x : AN) : Prop := cI c 10 s 2 (5 * i) = x.1 ∧ cI c 10 s 2 (5 * i + 1) = x.2.1 ∧ cI c 10 s 2 (5 * i + 2) = x.2.2.1 ∧ cI c 10 s 2 (5 * i + 3) = x.2.2.2.1 ∧ cI c 10 s 2 (5 * i + 4) = Int32.ofNat x.2.2.2.2.length ∧ ∀ j, j < x.2.2.2.2.length → cI c 10 s 3 (101 * i + j) = x.2.2.2.2.getD j 0
theorem getD_N {L : List AN} {i : Nat} (hi : i < L.length) : L.getD i aN0 = L[i] := by
  rw [List.getD_eq_getElem?_getD, List.getElem?_eq_getElem hi]
  rfl
theorem KSs_r {c : CS} {s i : Nat} {L : List AN} (h : KSs c s L) (hi : i < L.length) : KS1 c s i (L.getD i aN0) := h i hi
theorem KSs_m {c : CS} {s : Nat} {L : List AN} (h : ∀ i, i < L.length → KS1 c s i (L.getD i aN0)) : KSs c s L := h
theorem KS1_o {c c' : CS} {s i j : Nat} {x : AN} (h : KS1 c s i x) (hl : x.2.2.2.2.length ≤ 101) (e2 : ∀ m, m < 5 → cI c' 10 s 2 (5 * j + m) = cI c 10 s 2 (5 * i + m)) (e3 : ∀ m, m < 101 → cI c' 10 s 3 (101 * j + m) = cI c 10 s 3 (101 * i + m)) : KS1 c' s j x := by
  obtain ⟨h0, h1, h2, h3, h4, h5⟩ := h
  exact ⟨(e2 0 (by omega)).trans h0, (e2 1 (by omega)).trans h1, (e2 2 (by omega)).trans h2, (e2 3 (by omega)).trans h3, (e2 4 (by omega)).trans h4, fun m hm => (e3 m (by omega)).trans (h5 m hm)⟩
/-- sessions as long as they may be -/
def shN (L : List AN) : Prop := L.length ≤ 16 ∧ ∀ x ∈ L, x.2.2.2.2.length ≤ 101
theorem shN_get {L : List AN} {i : Nat} (h : shN L) (hi : i < L.length) : (L.getD i aN0).2.2.2.2.length ≤ 101 := by
  rw [getD_N hi]
  exact h.2 _ (List.getElem_mem hi)
theorem KSs_set {c c' : CS} {s i : Nat} {L : List AN} {y : AN} (h : KSs c s L) (w : shN L) (hi : i < L.length) (o2 : ∀ j, ¬ (5 * i ≤ j ∧ j < 5 * i + 5) → cI c' 10 s 2 j = cI c 10 s 2 j) (o3 : ∀ j, ¬ (101 * i ≤ j ∧ j < 101 * i + 101) → cI c' 10 s 3 j = cI c 10 s 3 j) (hy : KS1 c' s i y) : KSs c' s (L.set i y) := by
  refine KSs_m (fun j hj => ?_)
  rw [List.length_set] at hj
  rw [getD_set hi]
  by_cases q : j = i
  · rw [if_pos q, q]
    exact hy
  · rw [if_neg q]
    exact KS1_o (KSs_r h hj) (shN_get w hj) (fun m hm => o2 _ (by omega)) (fun m hm => o3 _ (by omega))
def fsR (L : List AN) (n : Int32) (r : Option Int32) : Prop := (∃ m, m < L.length ∧ (L.getD m aN0).1 = n ∧ r = some (Int32.ofNat m)) ∨ ((∀ m, m < L.length → ¬ (L.getD m aN0).1 = n) ∧ r = some (-1))
theorem i_5 {i m : Nat} : Int32.ofNat i * 5 + Int32.ofNat m = Int32.ofNat (5 * i + m) := by
  rw [show (5 : Int32) = Int32.ofNat 5 from rfl, i_mc, i_ad, Nat.mul_comm]
theorem i_50 {i : Nat} : Int32.ofNat i * 5 = Int32.ofNat (5 * i) := by
  rw [show (5 : Int32) = Int32.ofNat 5 from rfl, i_mc, Nat.mul_comm]
theorem i_101 {i : Nat} : Int32.ofNat i * 101 = Int32.ofNat (101 * i) := by
  rw [show (101 : Int32) = Int32.ofNat 101 from rfl, i_mc, Nat.mul_comm]
theorem K_findSes {F : Nat} {c : CS} {s : Nat} {L : List AN} {n : Int32} (hF : 20 ≤ F) (h : KSs c s L) (h1 : cI c 10 s 1 0 = Int32.ofNat L.length) (h16 : L.length ≤ 16) : fsR L n (k_Machine_findSession F c s n) := by
  unfold k_Machine_findSession k_Machine_findSession_b0
  have key : ∀ N i, L.length + 1 ≤ i + N → i ≤ L.length → (∀ j, j < i → ¬ (L.getD j aN0).1 = n) → fsR L n (k_Machine_findSession_b2 F N c s n (Int32.ofNat i)) := by
    intro N
    induction N with
    | zero => intro i g1 g2; omega
    | succ N ih =>
      intro i g1 g2 g3
      unfold k_Machine_findSession_b2
      dsimp only
      rw [h1]
      by_cases q : i = L.length
      · rw [if_pos ((i_gei (by omega) (by omega)).mpr (by omega))]
        exact Or.inr ⟨fun m hm => g3 m (by omega), rfl⟩
      · rw [if_neg (fun y => by have := (i_gei (by omega) (by omega)).mp y; omega), i_50, crd_n rfl (show 5 * i < 80 by omega) (by omega), Option.bind_some, (KSs_r h (show i < L.length by omega)).1]
        by_cases z : (L.getD i aN0).1 = n
        · rw [if_neg (fun y => c2_ne.mp y z)]
          exact Or.inl ⟨i, by omega, z, rfl⟩
        · rw [if_pos (c2_ne.mpr z), i_s]
          refine ih (i + 1) (by omega) (by omega) (fun j hj => ?_)
          by_cases y : j = i
          · rw [y]
            exact z
          · exact g3 j (by omega)
  exact key F 0 (by omega) (Nat.zero_le _) (fun j hj => absurd hj (Nat.not_lt_zero _))
theorem getD_era {L : List AN} {r i : Nat} : (L.eraseIdx r).getD i aN0 = if i < r then L.getD i aN0 else L.getD (i + 1) aN0 := getD_del
/-- the session that was used the longest ago goes -/
theorem K_dropOld {F : Nat} {c : CS} {s : Nat} {L : List AN} (hF : 20 ≤ F) (h : KSs c s L) (w : shN L) (h1 : cI c 10 s 1 0 = Int32.ofNat L.length) (h0 : 0 < L.length) : WP (k_Machine_dropOldestSession F c s) (fun c' => PX 10 s [1, 2, 3] c c' ∧ ∃ o, o < L.length ∧ (∀ j, j < L.length → (L.getD o aN0).2.1 ≤ (L.getD j aN0).2.1) ∧ cI c' 10 s 1 0 = Int32.ofNat (L.length - 1) ∧ KSs c' s (L.eraseIdx o)) := by
  have h16 := w.1
  unfold k_Machine_dropOldestSession k_Machine_dropOldestSession_b0
  have key : ∀ N i o, L.length + 1 ≤ i + N → i ≤ L.length → o < L.length → (∀ j, j < i → (L.getD o aN0).2.1 ≤ (L.getD j aN0).2.1) → WP (k_Machine_dropOldestSession_b4 F N c s (Int32.ofNat o) (Int32.ofNat i)) (fun c' => PX 10 s [1, 2, 3] c c' ∧ ∃ o, o < L.length ∧ (∀ j, j < L.length → (L.getD o aN0).2.1 ≤ (L.getD j aN0).2.1) ∧ cI c' 10 s 1 0 = Int32.ofNat (L.length - 1) ∧ KSs c' s (L.eraseIdx o)) := by
    intro N
    induction N with
    | zero => intro i o g1 g2; omega
    | succ N ih =>
      intro i o g1 g2 g3 g4
      unfold k_Machine_dropOldestSession_b4
      dsimp only
      rw [h1]
      by_cases q : i = L.length
      · rw [if_pos ((i_gei (by omega) (by omega)).mpr (by omega)), i_pre (by omega)]
        refine WP_b ?_
        rw [csI_e, i_s, i_50, i_50, i_101, i_101, i_subn (show o ≤ L.length - 1 by omega), i_50, i_101]
        refine WP_eq (ccpy_n (s := 5 * (o + 1)) (t := 5 * o) (n := 5 * (L.length - 1 - o)) rfl rfl rfl (show 5 * (o + 1) + 5 * (L.length - 1 - o) ≤ 80 by omega) (show 5 * o + 5 * (L.length - 1 - o) ≤ 80 by omega) (by omega) (by omega)) ?_
        have P1 : PX 10 s [1, 2, 3] c (csA (csI c 10 s 1 0 (Int32.ofNat (L.length - 1))) 10 s 2 (fun w => if 5 * o ≤ w ∧ w < 5 * o + 5 * (L.length - 1 - o) then cI (csI c 10 s 1 0 (Int32.ofNat (L.length - 1))) 10 s 2 (5 * (o + 1) + (w - 5 * o)) else cI (csI c 10 s 1 0 (Int32.ofNat (L.length - 1))) 10 s 2 w)) := PX_t (PX_I (by decide)) (PX_A (by decide))
        have x2 : ∀ j, cI (csA (csI c 10 s 1 0 (Int32.ofNat (L.length - 1))) 10 s 2 (fun w => if 5 * o ≤ w ∧ w < 5 * o + 5 * (L.length - 1 - o) then cI (csI c 10 s 1 0 (Int32.ofNat (L.length - 1))) 10 s 2 (5 * (o + 1) + (w - 5 * o)) else cI (csI c 10 s 1 0 (Int32.ofNat (L.length - 1))) 10 s 2 w)) 10 s 2 j = if 5 * o ≤ j ∧ j < 5 * o + 5 * (L.length - 1 - o) then cI c 10 s 2 (5 * (o + 1) + (j - 5 * o)) else cI c 10 s 2 j := fun j => by
          rw [cI_A, csI_f (by decide), csI_f (by decide)]
        have xo : ∀ g j, g ≠ 2 → cI (csA (csI c 10 s 1 0 (Int32.ofNat (L.length - 1))) 10 s 2 (fun w => if 5 * o ≤ w ∧ w < 5 * o + 5 * (L.length - 1 - o) then cI (csI c 10 s 1 0 (Int32.ofNat (L.length - 1))) 10 s 2 (5 * (o + 1) + (w - 5 * o)) else cI (csI c 10 s 1 0 (Int32.ofNat (L.length - 1))) 10 s 2 w)) 10 s g j = cI (csI c 10 s 1 0 (Int32.ofNat (L.length - 1))) 10 s g j := fun g j hg => cI_Ao hg
        generalize csA (csI c 10 s 1 0 (Int32.ofNat (L.length - 1))) 10 s 2 (fun w => if 5 * o ≤ w ∧ w < 5 * o + 5 * (L.length - 1 - o) then cI (csI c 10 s 1 0 (Int32.ofNat (L.length - 1))) 10 s 2 (5 * (o + 1) + (w - 5 * o)) else cI (csI c 10 s 1 0 (Int32.ofNat (L.length - 1))) 10 s 2 w) = c1 at P1 x2 xo
        refine WP_eq (ccpy_n (s := 101 * (o + 1)) (t := 101 * o) (n := 101 * (L.length - 1 - o)) rfl rfl rfl (show 101 * (o + 1) + 101 * (L.length - 1 - o) ≤ 1616 by omega) (show 101 * o + 101 * (L.length - 1 - o) ≤ 1616 by omega) (by omega) (by omega)) (WP_some ⟨PX_t P1 (PX_A (by decide)), o, g3, fun j hj => g4 j (by omega), (cI_Ao (by decide)).trans ((xo 1 0 (by decide)).trans csI_e), KSs_m (fun j hj => ?_)⟩)
        rw [List.length_eraseIdx_of_lt g3] at hj
        rw [getD_era]
        have y2 : ∀ m, cI (csA c1 10 s 3 (fun w => if 101 * o ≤ w ∧ w < 101 * o + 101 * (L.length - 1 - o) then cI c1 10 s 3 (101 * (o + 1) + (w - 101 * o)) else cI c1 10 s 3 w)) 10 s 2 m = if 5 * o ≤ m ∧ m < 5 * o + 5 * (L.length - 1 - o) then cI c 10 s 2 (5 * (o + 1) + (m - 5 * o)) else cI c 10 s 2 m := fun m => (cI_Ao (by decide)).trans (x2 m)
        have y3 : ∀ m, cI (csA c1 10 s 3 (fun w => if 101 * o ≤ w ∧ w < 101 * o + 101 * (L.length - 1 - o) then cI c1 10 s 3 (101 * (o + 1) + (w - 101 * o)) else cI c1 10 s 3 w)) 10 s 3 m = if 101 * o ≤ m ∧ m < 101 * o + 101 * (L.length - 1 - o) then cI c 10 s 3 (101 * (o + 1) + (m - 101 * o)) else cI c 10 s 3 m := fun m => by
          rw [cI_A, xo 3 _ (by decide), xo 3 _ (by decide), csI_f (by decide), csI_f (by decide)]
        by_cases z : j < o
        · rw [if_pos z]
          refine KS1_o (KSs_r h (by omega)) (shN_get w (by omega)) (fun m hm => ?_) (fun m hm => ?_)
          · rw [y2, if_neg (by omega)]
          · rw [y3, if_neg (by omega)]
        · rw [if_neg z]
          refine KS1_o (KSs_r h (by omega)) (shN_get w (by omega)) (fun m hm => ?_) (fun m hm => ?_)
          · rw [y2, if_pos (by omega), show 5 * (o + 1) + (5 * j + m - 5 * o) = 5 * (j + 1) + m by omega]
          · rw [y3, if_pos (by omega), show 101 * (o + 1) + (101 * j + m - 101 * o) = 101 * (j + 1) + m by omega]
      · rw [if_neg (fun y => by have := (i_gei (by omega) (by omega)).mp y; omega), show (1 : Int32) = Int32.ofNat 1 from rfl, i_5, i_5]
        refine WP_eq (crd_n rfl (show 5 * i + 1 < 80 by omega) (by omega)) (WP_eq (crd_n rfl (show 5 * o + 1 < 80 by omega) (by omega)) ?_)
        rw [(KSs_r h (show i < L.length by omega)).2.1, (KSs_r h g3).2.1]
        unfold k_Machine_dropOldestSession_b37
        rw [show (1 : Int32) = Int32.ofNat 1 from rfl, i_ad]
        refine WP_if c2_ge (fun z => ?_) (fun z => ?_)
        · refine ih (i + 1) o (by omega) (by omega) g3 (fun j hj => ?_)
          by_cases y : j = i
          · rw [y]
            exact z
          · exact g4 j (by omega)
        · have z := i_nle.mp z
          refine ih (i + 1) i (by omega) (by omega) (by omega) (fun j hj => ?_)
          by_cases y : j = i
          · rw [y]
            exact Int32.le_refl _
          · exact Int32.le_trans (Int32.le_of_lt z) (g4 j (by omega))
  refine key F 1 0 (by omega) (by omega) h0 (fun j hj => ?_)
  have : j = 0 := by omega
  rw [this]
  exact Int32.le_refl _
theorem csfr_n {c : CS} {cl i f a b : Nat} {x y v : Int32} (hx : x = Int32.ofNat a) (hy : y = Int32.ofNat b) (hab : a ≤ b) (hb : b ≤ cal c cl i f) (hb2 : b < 2147483648) : csfillr c cl i f x y v = some (csA c cl i f (fun y => if a ≤ y ∧ y < b then v else cI c cl i f y)) := by
  unfold csfillr
  subst hx
  subst hy
  have ea : (Int32.ofNat a).toNatClampNeg = a := i_cl (by omega)
  have eb : (Int32.ofNat b).toNatClampNeg = b := i_cl hb2
  rw [ea, eb, if_neg]
  rintro (z | z | z)
  · exact i_nn (by omega) z
  · rw [Int32.lt_iff_toInt_lt, Int32.toInt_ofNat_of_lt hb2, Int32.toInt_ofNat_of_lt (by omega)] at z
    omega
  · omega
/-- a new session behind the others -/
theorem K_open13 {F : Nat} {c : CS} {s : Nat} {L : List AN} {n : Int32} (h : KSs c s L) (w : shN L) (h1 : cI c 10 s 1 0 = Int32.ofNat L.length) (h16 : L.length < 16) : WP (k_Machine_openSession_b13 F c s n) (fun c' => PX 10 s [1, 2, 3] c c' ∧ cI c' 10 s 1 0 = Int32.ofNat (L.length + 1) ∧ KSs c' s (L ++ [(n, n, 0, 0, [])])) := by
  unfold k_Machine_openSession_b13
  rw [h1, i_50, show Int32.ofNat (5 * L.length) + 5 = Int32.ofNat (5 * L.length + 5) from i_ad (s := 5), show Int32.ofNat (5 * L.length) + 1 = Int32.ofNat (5 * L.length + 1) from i_ad (s := 1)]
  refine WP_eq (csfr_n (a := 5 * L.length) (b := 5 * L.length + 5) rfl rfl (by omega) (show 5 * L.length + 5 ≤ 80 by omega) (by omega)) ?_
  have P1 : PX 10 s [1, 2, 3] c (csA c 10 s 2 (fun y => if 5 * L.length ≤ y ∧ y < 5 * L.length + 5 then 0 else cI c 10 s 2 y)) := PX_A (by decide)
  have x2 : ∀ j, cI (csA c 10 s 2 (fun y => if 5 * L.length ≤ y ∧ y < 5 * L.length + 5 then 0 else cI c 10 s 2 y)) 10 s 2 j = if 5 * L.length ≤ j ∧ j < 5 * L.length + 5 then 0 else cI c 10 s 2 j := fun j => cI_A
  have xo : ∀ g j, g ≠ 2 → cI (csA c 10 s 2 (fun y => if 5 * L.length ≤ y ∧ y < 5 * L.length + 5 then 0 else cI c 10 s 2 y)) 10 s g j = cI c 10 s g j := fun g j hg => cI_Ao hg
  generalize csA c 10 s 2 (fun y => if 5 * L.length ≤ y ∧ y < 5 * L.length + 5 then 0 else cI c 10 s 2 y) = c1 at P1 x2 xo
  refine WP_eq (cwr_n rfl (show 5 * L.length < 80 by omega) (by omega)) (WP_eq (cwr_n rfl (show 5 * L.length + 1 < 80 by omega) (by omega)) (WP_b (WP_some ?_)))
  rw [csI_f (by decide), csI_f (by decide), xo 1 0 (by decide), h1, i_s]
  refine ⟨PX_t (PX_t (PX_t P1 (PX_I (by decide))) (PX_I (by decide))) (PX_I (by decide)), csI_e, KSs_m (fun j hj => ?_)⟩
  rw [List.length_append] at hj
  have hj : j < L.length + 1 := hj
  have y2 : ∀ m, cI (csI (csI (csI c1 10 s 2 (5 * L.length) n) 10 s 2 (5 * L.length + 1) n) 10 s 1 0 (Int32.ofNat (L.length + 1))) 10 s 2 m = if m = 5 * L.length + 1 then n else if m = 5 * L.length then n else if 5 * L.length ≤ m ∧ m < 5 * L.length + 5 then 0 else cI c 10 s 2 m := by
    intro m
    rw [csI_f (by decide)]
    by_cases z1 : m = 5 * L.length + 1
    · rw [if_pos z1, z1, csI_e]
    · rw [if_neg z1, csI_j z1]
      by_cases z2 : m = 5 * L.length
      · rw [if_pos z2, z2, csI_e]
      · rw [if_neg z2, csI_j z2, x2]
  have y3 : ∀ m, cI (csI (csI (csI c1 10 s 2 (5 * L.length) n) 10 s 2 (5 * L.length + 1) n) 10 s 1 0 (Int32.ofNat (L.length + 1))) 10 s 3 m = cI c 10 s 3 m := fun m => (csI_f (by decide)).trans ((csI_f (by decide)).trans ((csI_f (by decide)).trans (xo 3 m (by decide))))
  by_cases q : j < L.length
  · have eg : (L ++ [((n, n, 0, 0, []) : AN)]).getD j aN0 = L.getD j aN0 := by
      rw [List.getD_eq_getElem?_getD, List.getElem?_append_left q, List.getD_eq_getElem?_getD]
    rw [eg]
    refine KS1_o (KSs_r h q) (shN_get w q) (fun m hm => ?_) (fun m hm => y3 _)
    rw [y2, if_neg (by omega), if_neg (by omega), if_neg (by omega)]
  · have : j = L.length := by omega
    subst this
    have eg : (L ++ [((n, n, 0, 0, []) : AN)]).getD L.length aN0 = (n, n, 0, 0, []) := by
      rw [List.getD_eq_getElem?_getD, List.getElem?_append_right (by omega), Nat.sub_self]
      rfl
    rw [eg]
    refine ⟨?_, ?_, ?_, ?_, ?_, fun m hm => absurd hm (Nat.not_lt_zero _)⟩
    · rw [y2, if_neg (by omega), if_pos rfl]
    · rw [y2, if_pos rfl]
    · rw [y2, if_neg (by omega), if_neg (by omega), if_pos (by omega)]
    · rw [y2, if_neg (by omega), if_neg (by omega), if_pos (by omega)]
    · rw [y2, if_neg (by omega), if_neg (by omega), if_pos (by omega)]
      rfl
