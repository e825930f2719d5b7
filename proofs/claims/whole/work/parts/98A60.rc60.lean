/-! entries are taken -/
theorem K_dCut2 {F : Nat} {c : CS} {a : AA} {v : CV} {s : Nat} {n : Int32} {n0 b0 E : Int} (hF : 322 ≤ F) (h : RC c a v) (hs : s < 7) (w1 : 0 ≤ b0) (w4 : E < 1073741824) (hn1' : b0 < n.toInt) (hn2' : n.toInt ≤ E) (c1 : (aCh a s).Nodup) (n01 : 1 ≤ n0) (n02 : n0 ≤ b0 + 1) (hok : chOK (aFc a s) (E + 1) n0 (aCh a s)) : WP (k_Disk_cutFrom F c s n) (fun c' => RC c' (aDCut a s n) v) := by
  refine dcutL (a := a) (v := v) hs ?_ F (aCh a s) [] c ?_ (List.append_nil _) ?_ (fun x hx => absurd hx List.not_mem_nil)
  · intro pre rest τ e1 hτ h4 h6
    rw [← e1] at hok c1
    obtain ⟨nd1, nd2, nd3⟩ := List.nodup_append.mp c1
    rw [rmAll_rev rest a nd2] at hτ
    obtain ⟨mI, k1, k2⟩ := chOK_split pre rest n0 hok
    have nmI : n.toInt ≤ mI := by
      cases hre : rest with
      | nil =>
        rw [hre] at k2
        have k2 : mI = E + 1 := k2
        omega
      | cons x r =>
        have := Int32.le_iff_toInt_le.mp (h4 x (by rw [hre]; exact List.mem_cons_self))
        have k3 : ((aFc a s x).1 2).toInt = mI := by
          rw [hre] at k2
          exact k2.2.2.2.1
        omega
    have echb : aCh (aChS (aRemoveAll a s rest) s pre) s = pre := if_pos rfl
    have efc : ∀ g, g ∉ rest → aFc (aChS (aRemoveAll a s rest) s pre) s g = aFc a s g := fun g hg => (rmAll_fc rest a s g).2.1 (fun z => hg z.2)
    have hpre : ∀ x ∈ pre, (aFc a s x).1 2 < n := by
      intro x hx
      rcases List.eq_nil_or_concat pre with q | ⟨p, f, q⟩
      · rw [q] at hx
        exact absurd hx List.not_mem_nil
      · rw [List.concat_eq_append] at q
        have hf := h6 p f q
        rw [q] at hx k1
        rcases List.mem_append.mp hx with hx | hx
        · obtain ⟨mJ, j1, j2⟩ := chOK_split p [f] n0 k1
          have h7 := (chOK_mem p n0 j1 x hx).2.2.2.2.2
          have h8 : ((aFc a s f).1 2).toInt = mJ := j2.2.2.2.1
          rw [Int32.lt_iff_toInt_lt] at hf ⊢
          omega
        · rw [List.mem_singleton.mp hx]
          exact hf
    obtain ⟨f1, f2⟩ := cut_filter (a := a) (s := s) (n := n) (pre := pre) (rest := rest) hpre h4
    rw [e1] at f1 f2
    have hch := hτ.2.2.2.2.2.2.2.2.2.2.1 s hs
    rw [echb] at hch
    unfold k_Disk_cutFrom_b56 k_Disk_cutFrom_b100
    rw [hch.1]
    have hl12 := hch.2.1
    rcases List.eq_nil_or_concat pre with q | ⟨p, f, q⟩
    · have ed : aDCut a s n = aChS (aRemoveAll a s rest) s pre := by
        unfold aDCut
        rw [f1, f2, q]
        rfl
      rw [ed, q, if_pos (by decide)]
      rw [q] at hτ
      exact WP_some hτ
    · rw [List.concat_eq_append] at q
      have hf := h6 p f q
      have hmem : f ∉ rest := by
        intro z
        exact nd3 f (by rw [q]; simp) f z rfl
      have ed : aDCut a s n = aCut (aChS (aRemoveAll a s rest) s pre) s f (Int32.ofInt (aFrame (aFc a s f).2.1 (n - (aFc a s f).1 2).toNatClampNeg)) := by
        unfold aDCut
        rw [f1, f2, q, List.getLast?_concat]
        dsimp only
        rw [← q, efc f hmem]
      rw [ed]
      rw [q] at hch
      obtain ⟨z1, z2, z3, z4, z5⟩ := ch_last hch
      rw [q, show (p ++ [f]).length = p.length + 1 by simp, if_neg (fun z => by
        have := c0_le.mp z
        rw [Int32.le_iff_toInt_le, Int32.toInt_ofNat_of_lt (by omega), i_0] at this
        omega), i_pre (by omega), show p.length + 1 - 1 = p.length by omega]
      refine WP_eq (crd_n rfl (show p.length < 16 by omega) (by omega)) ?_
      rw [z5, cix0 z4]
      refine WP_b (WP_b ?_)
      have hpg := (hτ.2.2.2.2.2.2.2.2.2.1 s hs f z4).1
      rw [efc f hmem] at hpg
      rw [hpg.2.2.1]
      rw [q] at k1
      have hend := chOK_end p n0 k1
      have h9 := chOK_mem (p ++ [f]) n0 k1 f (by simp)
      have hf' := Int32.lt_iff_toInt_lt.mp hf
      have h320 : (aWhole (aFc a s f)).length ≤ 320 := hpg.2.2.2.2.2.2.2.2.2.2.1
      have ek : n - (aFc a s f).1 2 = Int32.ofNat (n.toInt - ((aFc a s f).1 2).toInt).toNat := by
        apply Int32.toInt_inj.mp
        rw [i_subI (by omega) (by omega), Int32.toInt_ofNat_of_lt (by omega)]
        omega
      have ec : (n - (aFc a s f).1 2).toNatClampNeg = (n.toInt - ((aFc a s f).1 2).toInt).toNat := by
        rw [ek, i_cl (by omega)]
      refine WP_eq (K_frame hpg ek (by omega) (by omega)) ?_
      rw [ec]
      rw [q] at hτ
      exact WP_call (K_cutTo hF hτ hs z4 ⟨by omega, by omega⟩) (fun c' h' => WP_some h')
  · have := (h.2.2.2.2.2.2.2.2.2.2.1 s hs).2.1
    omega
  · rw [List.reverse_nil]
    show RC c (aChS a s (aCh a s)) v
    rw [aChS_same]
    exact h
theorem remAll_lg {s t : Nat} {L : List AE} : ∀ (l : List Nat) (a : AA), aRemoveAll (aLgS a t L) s l = aLgS (aRemoveAll a s l) t L
  | [], _ => rfl
  | f :: r, a => by
    show aRemoveAll (aLgS (aRemove a s f) t L) s r = aLgS (aRemoveAll (aRemove a s f) s r) t L
    exact remAll_lg r _
theorem cut_I {a : AA} {s f g i : Nat} {n x : Int32} (h : g ≠ 43) : aCut (aI a g i x) s f n = aI (aCut a s f n) g i x := by
  have e : aS (aI a g i x) 43 (16 * s + f) = aS a 43 (16 * s + f) := aS_If (fun z => h z.symm)
  unfold aCut
  dsimp only
  rw [e]
  exact aI_comm (a := aPut a s f (aU (aFc a s f).1 1 (aMin ((aFc a s f).1 1) n), (aFc a s f).2)) (fun z => h z.1)
theorem dcut_I {a : AA} {s g i : Nat} {n x : Int32} (h : g ≠ 43) : aDCut (aI a g i x) s n = aI (aDCut a s n) g i x := by
  unfold aDCut
  have e1 : aBelow (aI a g i x) s n (aCh (aI a g i x) s) = aBelow a s n (aCh a s) := rfl
  have e2 : aFrom (aI a g i x) s n (aCh (aI a g i x) s) = aFrom a s n (aCh a s) := rfl
  rw [e1, e2, remAll_I h]
  cases (aBelow a s n (aCh a s)).getLast? with
  | none => rfl
  | some f => exact cut_I (a := aChS (aRemoveAll a s (aFrom a s n (aCh a s))) s (aBelow a s n (aCh a s))) h
theorem dcut_lg {a : AA} {s t : Nat} {n : Int32} {L : List AE} : aDCut (aLgS a t L) s n = aLgS (aDCut a s n) t L := by
  unfold aDCut
  have e1 : aBelow (aLgS a t L) s n (aCh (aLgS a t L) s) = aBelow a s n (aCh a s) := rfl
  have e2 : aFrom (aLgS a t L) s n (aCh (aLgS a t L) s) = aFrom a s n (aCh a s) := rfl
  rw [e1, e2, remAll_lg]
  cases (aBelow a s n (aCh a s)).getLast? with
  | none => rfl
  | some f => rfl
theorem AFr_dcut {a : AA} {s : Nat} {n : Int32} : AFr [43] [6, 8] a (aDCut a s n) := by
  unfold aDCut
  cases (aBelow a s n (aCh a s)).getLast? with
  | none => exact AFr_w (AFr_t (rmAll_ot _ a) AFr_ch) (by decide) (by decide)
  | some f => exact AFr_w (AFr_t (AFr_t (AFr_t (rmAll_ot _ a) AFr_ch) AFr_put) AFr_I) (by decide) (by decide)
theorem cutLog_d {a : AA} {s : Nat} {n : Int32} : A_cutLog a s n = aSoil (aDCut (aFindCode (aI (aLgS (aI a 56 s (n - 1)) s ((aLg a s).take (n - 1 - aBase a s).toNatClampNeg)) 77 s (aMin (aS a 77 s) (n - 1))) s) s n) s := by
  have e0 : A_cutLog a s n = aSoil (aFindCode (aI (aLgS (aI (aDCut a s n) 56 s (n - 1)) s ((aLg a s).take (n - 1 - aBase a s).toNatClampNeg)) 77 s (aMin (aS a 77 s) (n - 1))) s) s := by
    unfold A_cutLog aDCut
    dsimp only
    cases (aBelow a s n (aCh a s)).getLast? with
    | none => rfl
    | some f => rfl
  have fr := @AFr_dcut a s n
  rw [e0]
  congr 1
  unfold aFindCode
  rw [dcut_I (by decide), dcut_I (by decide), dcut_I (by decide), dcut_lg, dcut_I (by decide)]
  have e5 : aBase (aI (aLgS (aI (aDCut a s n) 56 s (n - 1)) s ((aLg a s).take (n - 1 - aBase a s).toNatClampNeg)) 77 s (aMin (aS a 77 s) (n - 1))) s = aBase (aI (aLgS (aI a 56 s (n - 1)) s ((aLg a s).take (n - 1 - aBase a s).toNatClampNeg)) 77 s (aMin (aS a 77 s) (n - 1))) s := fr.1 55 (by decide) s
  have e8 : aS (aI (aLgS (aI (aDCut a s n) 56 s (n - 1)) s ((aLg a s).take (n - 1 - aBase a s).toNatClampNeg)) 77 s (aMin (aS a 77 s) (n - 1))) 58 s = aS (aI (aLgS (aI a 56 s (n - 1)) s ((aLg a s).take (n - 1 - aBase a s).toNatClampNeg)) 77 s (aMin (aS a 77 s) (n - 1))) 58 s := fr.1 58 (by decide) s
  have el : aLg (aI (aLgS (aI (aDCut a s n) 56 s (n - 1)) s ((aLg a s).take (n - 1 - aBase a s).toNatClampNeg)) 77 s (aMin (aS a 77 s) (n - 1))) s = aLg (aI (aLgS (aI a 56 s (n - 1)) s ((aLg a s).take (n - 1 - aBase a s).toNatClampNeg)) 77 s (aMin (aS a 77 s) (n - 1))) s := (if_pos rfl).trans (if_pos rfl).symm
  rw [e5, e8, el]
/-! an append wipes out a soiling ahead of it -/
theorem soil_soil {a : AA} {s : Nat} : aSoil (aSoil a s) s = aSoil a s := by
  by_cases z : aS a 71 s = 0
  · have e : aS (aSoil a s) 71 s = 1 := by
      unfold aSoil
      rw [if_pos z]
      unfold aAdd
      rw [aS_I, if_neg (fun y => absurd y.1 (by decide)), aS_I, if_neg (fun y => absurd y.1 (by decide)), aS_I, if_neg (fun y => absurd y.1 (by decide)), aS_I, if_pos ⟨rfl, rfl⟩]
    have e2 : ∀ b : AA, aS b 71 s = 1 → aSoil b s = b := fun b hb => by
      unfold aSoil
      rw [if_neg (by rw [hb]; decide)]
    exact e2 _ e
  · have e : aSoil a s = a := by
      unfold aSoil
      rw [if_neg z]
    rw [e, e]
/-- numbers of a soiling move through -/
def slF : List Nat := [71, 32, 31, 2]
theorem soil_I {a : AA} {s g i : Nat} {x : Int32} (h : g ≠ 71 ∧ g ≠ 32 ∧ g ≠ 31 ∧ g ≠ 2 ∧ g ≠ 1 ∧ g ≠ 72) : aSoil (aI a g i x) s = aI (aSoil a s) g i x := by
  have e : ∀ f j, f ≠ g → aS (aI a g i x) f j = aS a f j := fun f j hf => aS_If hf
  unfold aSoil aAdd
  have n1 : aNow (aI a g i x) = aNow a := e 1 0 (fun z => h.2.2.2.2.1 z.symm)
  rw [e 71 s (fun z => h.1 z.symm), n1, e 72 s (fun z => h.2.2.2.2.2 z.symm)]
  by_cases z : aS a 71 s = 0
  · rw [if_pos z, if_pos z]
    have e2 : aS (aI a g i x) 2 0 = aS a 2 0 := e 2 0 (fun z => h.2.2.2.1 z.symm)
    rw [e2]
    have e3 : aS (aI (aI (aI (aI a g i x) 71 s 1) 32 s (aNow a + aS a 72 s)) 31 s (aS a 2 0)) 2 0 = aS (aI (aI (aI a 71 s 1) 32 s (aNow a + aS a 72 s)) 31 s (aS a 2 0)) 2 0 := e2
    rw [e3, aI_comm (a := a) (f := g) (g := 71) (fun z => h.1 z.1), aI_comm (f := g) (g := 32) (fun z => h.2.1 z.1), aI_comm (f := g) (g := 31) (fun z => h.2.2.1 z.1), aI_comm (f := g) (g := 2) (fun z => h.2.2.2.1 z.1)]
  · rw [if_neg z, if_neg z]
def aAP (a : AA) (s : Nat) (e : AE) : AA :=
  let r := aSeg a s
  let F := aFc r.1 s r.2
  let a2 := aPut r.1 s r.2 (aU F.1 1 (F.1 1 + 25 + e.2.2.1), aWhole F ++ [e], F.2.2)
  let a3 := aI (aLgS a2 s (aLg a s ++ [e])) 56 s (aLast a s + 1)
  if e.2.1 = 1 then aI (aI a3 64 s (aLast a s + 1)) 65 s e.2.2.2.1 else a3
theorem A_append_P {a : AA} {s : Nat} {e : AE} : A_append a s e = aSoil (aAP a s e) s := rfl
theorem seg_I {a : AA} {s g i : Nat} {x : Int32} (h : g ≠ 43 ∧ g ≠ 55 ∧ g ≠ 56 ∧ g ≠ 57) : aSeg (aI a g i x) s = (aI (aSeg a s).1 g i x, (aSeg a s).2) := by
  have e6 : aLast (aI a g i x) s = aLast a s := aS_If (fun z => h.2.2.1 z.symm)
  have eT : aTermAt (aI a g i x) s (aLast a s) = aTermAt a s (aLast a s) := by
    have e5 : aBase (aI a g i x) s = aBase a s := aS_If (fun z => h.2.1 z.symm)
    have e7 : aS (aI a g i x) 57 s = aS a 57 s := aS_If (fun z => h.2.2.2 z.symm)
    have el : aLg (aI a g i x) = aLg a := rfl
    unfold aTermAt aHas aEnt
    rw [e5, e6, e7, el]
  have ec : aCh (aI a g i x) s = aCh a s := rfl
  have ef : aFc (aI a g i x) = aFc a := rfl
  have er : aFree (aI a g i x) s = aFree a s := rfl
  unfold aSeg
  dsimp only
  rw [ec, ef, e6, eT, er]
  by_cases z : aCh a s = [] ∨ 8000 < (aFc a s ((aCh a s).getLastD 0)).1 1
  · rw [if_pos z, if_pos z]
    generalize (aFree a s).getD 0 = f
    generalize aF 1 24 (aLast a s + 1) (aTermAt a s (aLast a s)) 0 [] ([], []) = FF
    have h1 : aI (aPut (aI a g i x) s f FF) 43 (16 * s + f) 0 = aI (aI (aPut a s f FF) 43 (16 * s + f) 0) g i x := aI_comm (a := aPut a s f FF) (fun z => h.1 z.1)
    rw [h1]
    rfl
  · rw [if_neg z, if_neg z]
theorem AP_I {a : AA} {s g i : Nat} {x : Int32} {e : AE} (h : g ≠ 43 ∧ g ≠ 55 ∧ g ≠ 56 ∧ g ≠ 57 ∧ g ≠ 64 ∧ g ≠ 65) : aAP (aI a g i x) s e = aI (aAP a s e) g i x := by
  have e6 : aLast (aI a g i x) s = aLast a s := aS_If (fun z => h.2.2.1 z.symm)
  have el : aLg (aI a g i x) = aLg a := rfl
  unfold aAP
  dsimp only
  rw [seg_I ⟨h.1, h.2.1, h.2.2.1, h.2.2.2.1⟩, e6, el]
  dsimp only
  generalize aSeg a s = r
  have ef : aFc (aI r.1 g i x) = aFc r.1 := rfl
  rw [ef]
  have h1 : aI (aLgS (aPut (aI r.1 g i x) s r.2 (aU (aFc r.1 s r.2).1 1 ((aFc r.1 s r.2).1 1 + 25 + e.2.2.1), aWhole (aFc r.1 s r.2) ++ [e], (aFc r.1 s r.2).2.2)) s (aLg a s ++ [e])) 56 s (aLast a s + 1) = aI (aI (aLgS (aPut r.1 s r.2 (aU (aFc r.1 s r.2).1 1 ((aFc r.1 s r.2).1 1 + 25 + e.2.2.1), aWhole (aFc r.1 s r.2) ++ [e], (aFc r.1 s r.2).2.2)) s (aLg a s ++ [e])) 56 s (aLast a s + 1)) g i x := aI_comm (a := aLgS (aPut r.1 s r.2 (aU (aFc r.1 s r.2).1 1 ((aFc r.1 s r.2).1 1 + 25 + e.2.2.1), aWhole (aFc r.1 s r.2) ++ [e], (aFc r.1 s r.2).2.2)) s (aLg a s ++ [e])) (fun z => h.2.2.1 z.1)
  rw [h1]
  by_cases z : e.2.1 = 1
  · rw [if_pos z, if_pos z, aI_comm (f := g) (g := 64) (fun z => h.2.2.2.2.1 z.1), aI_comm (f := g) (g := 65) (fun z => h.2.2.2.2.2 z.1)]
  · rw [if_neg z, if_neg z]
theorem AFr_AP {a : AA} {s : Nat} {e : AE} : AFr [43, 56, 64, 65] [2, 6, 8] a (aAP a s e) := by
  have fs : AFr [43] [6, 8] a (aSeg a s).1 := by
    unfold aSeg
    dsimp only
    split
    · exact AFr_w (AFr_t (AFr_t AFr_put AFr_I) AFr_ch) (by decide) (by decide)
    · exact AFr_w AFr_r (by decide) (by decide)
  have f3 : AFr [43, 56] [2, 6, 8] a (aI (aLgS (aPut (aSeg a s).1 s (aSeg a s).2 (aU (aFc (aSeg a s).1 s (aSeg a s).2).1 1 ((aFc (aSeg a s).1 s (aSeg a s).2).1 1 + 25 + e.2.2.1), aWhole (aFc (aSeg a s).1 s (aSeg a s).2) ++ [e], (aFc (aSeg a s).1 s (aSeg a s).2).2.2)) s (aLg a s ++ [e])) 56 s (aLast a s + 1)) := AFr_w (AFr_t (AFr_t (AFr_t fs AFr_put) AFr_lg) AFr_I) (by decide) (by decide)
  unfold aAP
  dsimp only
  split
  · exact AFr_w (AFr_t (AFr_t f3 AFr_I) AFr_I) (by decide) (by decide)
  · exact AFr_w f3 (by decide) (by decide)
theorem app_soil {a : AA} {s : Nat} {e : AE} : A_append (aSoil a s) s e = A_append a s e := by
  rw [A_append_P, A_append_P]
  have fr := @AFr_AP a s e
  by_cases z : aS a 71 s = 0
  · have e1 : aSoil a s = aI (aI (aI (aI a 71 s 1) 32 s (aNow a + aS a 72 s)) 31 s (aS a 2 0)) 2 0 (aS a 2 0 + 1) := by
      unfold aSoil
      rw [if_pos z]
      rfl
    have e2 : aAP (aSoil a s) s e = aSoil (aAP a s e) s := by
      rw [e1, AP_I (by decide), AP_I (by decide), AP_I (by decide), AP_I (by decide)]
      have z2 : aS (aAP a s e) 71 s = 0 := by rw [fr.1 71 (by decide)]; exact z
      have g1 : aNow (aAP a s e) = aNow a := fr.1 1 (by decide) 0
      have g2 : aS (aAP a s e) 2 0 = aS a 2 0 := fr.1 2 (by decide) 0
      have g3 : aS (aAP a s e) 72 s = aS a 72 s := fr.1 72 (by decide) s
      unfold aSoil
      rw [if_pos z2, g1, g3]
      unfold aAdd
      have g4 : aS (aI (aI (aI (aAP a s e) 71 s 1) 32 s (aNow a + aS a 72 s)) 31 s (aS (aAP a s e) 2 0)) 2 0 = aS a 2 0 := g2
      rw [g4, g2]
    rw [e2, soil_soil]
  · have e1 : aSoil a s = a := by
      unfold aSoil
      rw [if_neg z]
    rw [e1]
theorem appAll_soil {a : AA} {s : Nat} {e : AE} {r : List AE} : aAppendAll s (e :: r) (aSoil a s) = aAppendAll s (e :: r) a := by
  show aAppendAll s r (A_append (aSoil a s) s e) = aAppendAll s r (A_append a s e)
  rw [app_soil]
/-! entries are taken -/
def FA (a : AA) (s : Nat) : Prop := WLg a s ∧ WCh a s ∧ pApp a s ∧ mdOK a 0
theorem FA_soil {a : AA} {s : Nat} (h : FA (aSoil a s) s) (hm : mdOK a 0) : FA a s := by
  have fs := @AFr_soil a s
  obtain ⟨h1, h2, h3, _⟩ := h
  have e55 : aS (aSoil a s) 55 s = aS a 55 s := fs.1 55 (by decide) s
  have e56 : aS (aSoil a s) 56 s = aS a 56 s := fs.1 56 (by decide) s
  have el : aLg (aSoil a s) = aLg a := fs.2.2.2.1 (by decide)
  have ef : aFc (aSoil a s) = aFc a := fs.2.2.2.2.2.2.2.1 (by decide)
  have ec : aCh (aSoil a s) = aCh a := fs.2.2.2.2.2.2.2.2.2.1 (by decide)
  refine ⟨?_, ?_, ?_, hm⟩
  · unfold WLg aBase aLast at h1 ⊢
    rw [e55, e56, el] at h1
    exact h1
  · unfold WCh aBase aLast at h2 ⊢
    rw [e55, e56, ef, ec] at h2
    exact h2
  · unfold pApp aLast at h3 ⊢
    rw [e56, el, ef, ec] at h3
    exact h3
theorem RC_l7 {c : CS} {a : AA} {ad : Nat} {l : AL} {m : Int32} {H : List (Nat × Option AL)} {U : Nat → Int32} {N : Nat × Nat} (h : RC c a (((ad, some l) :: H, U), N)) (hk : l.1 4 = 5) : RC (csI c 8 ad 7 0 m) a (((ad, some (aU l.1 7 m, l.2)) :: H, U), N) := by
  have hl := RC_hand h List.mem_cons_self
  refine RC_fin (RC_I8 (RC_unfin h)) ?_
  obtain ⟨y1, y2, y3, y4, y5⟩ := hl
  have o : ∀ f j, f ≠ 7 → cI (csI c 8 ad 7 0 m) 8 ad f j = cI c 8 ad f j := fun f j hf => csI_f hf
  have g : ∀ f, f ≠ 7 → aU l.1 7 m f = l.1 f := fun f hf => if_neg hf
  have gk : aU l.1 7 m 4 = 5 := (g 4 (by decide)).trans hk
  refine ⟨fun j hj => ?_, fun j hj => ?_, fun _ => ?_, fun z => absurd (gk.symm.trans z) (by decide), fun z => absurd (gk.symm.trans z) (by decide)⟩
  · have hj7 : j ≠ 7 := by
      intro z
      rw [z] at hj
      exact absurd hj (by decide)
    rw [o j 0 hj7]
    exact (y1 j hj).trans (g j hj7).symm
  · have hj : j ∈ lFs (aU l.1 7 m 4) := hj
    rw [gk, lF5] at hj
    by_cases z : j = 7
    · rw [z, csI_e]
      show m = aU l.1 7 m 7
      unfold aU
      rw [if_pos rfl]
    · rw [o j 0 z]
      refine (y2 j (by rw [hk, lF5]; exact hj)).trans (g j z).symm
  · obtain ⟨x1, x2, x3⟩ := y3 hk
    exact ⟨(o 17 0 (by decide)).trans x1, x2, fun i hi => ⟨fun j hj => (o 18 _ (by decide)).trans ((x3 i hi).1 j hj), (x3 i hi).2⟩⟩
theorem c_or {x a b : Int32} : (x ||| a) ||| b = x ||| (a ||| b) := Int32.or_assoc x a b
theorem tk_cnt {b p : Int32} {n : Nat} (hb : 0 ≤ b.toInt) (hb2 : b.toInt < 1073741824) (hp : 0 ≤ p.toInt) (hn : n ≤ 6) : cmax 0 (cmin (Int32.ofNat n) (b + 250 - p)) = Int32.ofNat (min (b + 250 - p).toNatClampNeg n) := by
  have e1 : (b + 250).toInt = b.toInt + 250 := i_addI (by rw [show (250 : Int32).toInt = 250 by decide]; omega) (by rw [show (250 : Int32).toInt = 250 by decide]; omega)
  have hp2 := Int32.toInt_lt p
  have e2 : (b + 250 - p).toInt = b.toInt + 250 - p.toInt := by
    rw [i_subI (by rw [e1]; omega) (by rw [e1]; omega), e1]
  by_cases z : 0 ≤ b + 250 - p
  · have hz := i_of z
    have hzb : (b + 250 - p).toNatClampNeg < 2147483648 := by
      have := i_nat z
      have := Int32.toInt_lt (b + 250 - p)
      omega
    generalize (b + 250 - p).toNatClampNeg = k at hz hzb
    rw [hz, cmin_n (by omega) hzb, cmax_0 (by omega), Nat.min_comm]
  · have hz : (b + 250 - p).toNatClampNeg = 0 := by
      show (b + 250 - p).toInt.toNat = 0
      rw [Int32.le_iff_toInt_le, i_0] at z
      exact Int.toNat_of_nonpos (by omega)
    rw [hz, Nat.zero_min]
    have hlt : b + 250 - p < 0 := Int32.not_le.mp z
    have em : cmin (Int32.ofNat n) (b + 250 - p) = b + 250 - p := by
      rw [cmin_a]
      unfold aMin
      by_cases y : Int32.ofNat n ≤ b + 250 - p
      · rw [Int32.le_iff_toInt_le, Int32.toInt_ofNat_of_lt (by omega)] at y
        rw [Int32.lt_iff_toInt_lt, i_0] at hlt
        omega
      · rw [if_neg y]
    rw [em, cmax_a]
    unfold aMax
    rw [if_neg z]
    rfl
theorem drop_cons {l : List AE} {i : Nat} (hi : i < l.length) : l.drop i = l.getD i aE0 :: l.drop (i + 1) := getD_drop hi
theorem K_takeE {F : Nat} {c : CS} {a : AA} {s ad : Nat} {l : AL} {H : List (Nat × Option AL)} {U : Nat → Int32} {N : Nat × Nat} (hF : 400 ≤ F) (h : RC c a (((ad, some l) :: H, U), N)) (hs : s < 7) (w : WLg a s) (wc : WCh a s) (hm : mdOK a 0) (hk : l.1 4 = 5) (hp0 : 0 ≤ (l.1 7).toInt) (ht : ∀ e ∈ l.2.1, ¬ e.1 = -1)
    (hcut : (tkR a s l).2 ≠ [] → (tkR a s l).1 ≤ aLast a s → aBase a s < (tkR a s l).1) (hfa : ∀ l1 e l2, (tkR a s l).2 = l1 ++ e :: l2 → FA (aAppendAll s l1 (tk1 a s l)) s) :
    WP (k_Server_takeEntries F c s ad) (fun c' => if aClash a s (l.1 7 + 1) (tkE a s l) = true then RC c' a (((ad, some l) :: H, U), N) else
      RC c' (aI (tk2 a s l) 75 s (aMax (aS (tk2 a s l) 75 s) (aMin (l.1 9) (aMax (l.1 7 + Int32.ofNat (tkE a s l).length) (aBase (tk2 a s l) s))))) (((ad, some (aU l.1 7 (aMax (l.1 7 + Int32.ofNat (tkE a s l).length) (aBase (tk2 a s l) s)), l.2)) :: H, aU U s (U s ||| 528)), N)) := by
  obtain ⟨w1, w2, w3, w4⟩ := id w
  have l0 := RC_hand h List.mem_cons_self
  obtain ⟨y1, y2, y3, y4, y5⟩ := id l0
  obtain ⟨c17, len6, rows⟩ := y3 hk
  have e7 : cI c 8 ad 7 0 = l.1 7 := LR_f l0 hk (by rw [lF5]; decide)
  have elen : (tkE a s l).length = min (aBase a s + 250 - l.1 7).toNatClampNeg l.2.1.length := by
    unfold tkE
    rw [List.length_take]
  have hlen6 : (tkE a s l).length ≤ 6 := by omega
  have hlenl : (tkE a s l).length ≤ l.2.1.length := by omega
  have eget : ∀ i, i < (tkE a s l).length → (tkE a s l).getD i aE0 = l.2.1.getD i aE0 := by
    intro i hi
    rw [List.getD_eq_getElem?_getD, List.getD_eq_getElem?_getD]
    unfold tkE
    rw [List.getElem?_take, if_pos (by omega)]
  have hter : ∀ i, i < (tkE a s l).length → ¬ ((tkE a s l).getD i aE0).1 = -1 := by
    intro i hi
    rw [eget i hi, List.getD_eq_getElem?_getD, List.getElem?_eq_getElem (by omega)]
    exact ht _ (List.getElem_mem (by omega))
  have row : ∀ {c1 : CS} {l1 : AL} {X : AA} {V : Nat → Int32}, RC c1 X (((ad, some l1) :: H, V), N) → l1.1 4 = 5 → l1.2 = l.2 → ∀ i, i < (tkE a s l).length → ∀ j, j < 6 → cI c1 8 ad 18 (6 * i + j) = kF ((tkE a s l).getD i aE0) j := by
    intro c1 l1 X V g gk ge i hi j hj
    obtain ⟨z1, z2, z3⟩ := (RC_hand g List.mem_cons_self).2.2.1 gk
    rw [ge] at z3
    rw [eget i hi]
    exact (z3 i (by omega)).1 j hj
  unfold k_Server_takeEntries k_Server_takeEntries_b0
  rw [e7, c17, K_r h (F := 55) (cl := 9) (f := 3) (by decide) hs]
  have eb : aS a 55 s = aBase a s := rfl
  rw [eb, tk_cnt w1 (by omega) hp0 len6, ← elen]
  -- the end
  have key3 : ∀ n i (c1 : CS) (Z : AA), (tkE a s l).length + 1 ≤ i + n → i ≤ (tkE a s l).length → RC c1 Z (((ad, some l) :: H, U), N) → aAppendAll s ((tkE a s l).drop i) Z = tk2 a s l → (∀ l1 e l2, (tkE a s l).drop i = l1 ++ e :: l2 → FA (aAppendAll s l1 Z) s) → aClash a s (l.1 7 + 1) (tkE a s l) = false → WP (k_Server_takeEntries_b213 F n c1 s ad (l.1 7) (Int32.ofNat (tkE a s l).length) (Int32.ofNat i)) (fun c' => if aClash a s (l.1 7 + 1) (tkE a s l) = true then RC c' a (((ad, some l) :: H, U), N) else
      RC c' (aI (tk2 a s l) 75 s (aMax (aS (tk2 a s l) 75 s) (aMin (l.1 9) (aMax (l.1 7 + Int32.ofNat (tkE a s l).length) (aBase (tk2 a s l) s))))) (((ad, some (aU l.1 7 (aMax (l.1 7 + Int32.ofNat (tkE a s l).length) (aBase (tk2 a s l) s)), l.2)) :: H, aU U s (U s ||| 528)), N)) := by
    intro n
    induction n with
    | zero => intro i c1 Z g1 g2; omega
    | succ n ih =>
      intro i c1 Z g1 g2 g3 g4 g5 g6
      unfold k_Server_takeEntries_b213
      dsimp only
      by_cases q : i = (tkE a s l).length
      · rw [if_pos ((i_gei (by omega) (by omega)).mpr (by omega))]
        rw [q, List.drop_length] at g4
        have g4 : Z = tk2 a s l := g4
        rw [g4] at g3
        generalize tk2 a s l = T at g3
        have lT := RC_hand g3 List.mem_cons_self
        have e9 : cI c1 8 ad 9 0 = l.1 9 := LR_f lT hk (by rw [lF5]; decide)
        have e55 : cI c1 9 s 3 0 = aBase T s := K_r g3 (F := 55) (cl := 9) (f := 3) (by decide) hs
        have e75 : cI c1 9 s 9 0 = aS T 75 s := K_r g3 (F := 75) (cl := 9) (f := 9) (by decide) hs
        rw [e9, e55, e75, cmax_a, cmin_a, cmax_a]
        have h1 := RC_I (x := aMax (aS T 75 s) (aMin (l.1 9) (aMax (l.1 7 + Int32.ofNat (tkE a s l).length) (aBase T s)))) g3 (F := 75) (cl := 9) (f := 9) (i := s) (by decide) (by decide)
        refine WP_b ?_
        have h2 := RC_l7 (m := aMax (l.1 7 + Int32.ofNat (tkE a s l).length) (aBase T s)) h1 hk
        refine WP_b ?_
        have h3 := K_due (b := 528) h2 hs
        refine WP_b (WP_some ?_)
        rw [if_neg (by rw [g6]; decide)]
        exact h3
      · have hi : i < (tkE a s l).length := by omega
        rw [if_neg (fun y => by have := (i_gei (by omega) (by omega)).mp y; omega)]
        have ed := drop_cons hi
        obtain ⟨f1, f2, f3, f4⟩ := g5 [] _ _ ed
        have ex6 : Int32.ofNat i * 6 = Int32.ofNat (6 * i) := by
          rw [show (6 : Int32) = Int32.ofNat 6 from rfl, i_mc, Nat.mul_comm]
        have heok : eOK ((tkE a s l).getD i aE0) := by
          rw [eget i hi]
          exact (rows i (by omega)).2
        rw [ex6, gSA_8]
        refine WP_call (K_append (cl := 8) (f := 18) (l1 := ad) (m := 6 * i) (e := (tkE a s l).getD i aE0) (by omega) g3 hs f1 f2 f3 f4 (Or.inr ⟨rfl, rfl⟩) (show 6 * i + 6 ≤ 36 by omega) (by omega) (fun j hj => row g3 hk rfl i hi j hj) heok) (fun c2 hc => ?_)
        rw [i_s]
        refine ih (i + 1) c2 _ (by omega) (by omega) hc.1 ?_ (fun l1 e l2 he => ?_) g6
        · rw [ed] at g4
          exact g4
        · exact g5 ((tkE a s l).getD i aE0 :: l1) e l2 (by rw [ed, he]; rfl)
  -- how far they are there
  have key2 : ∀ n i, (tkE a s l).length + 1 ≤ i + n → i ≤ (tkE a s l).length → aNews a s (l.1 7 + 1) (tkE a s l) = aNews a s (l.1 7 + 1 + Int32.ofNat i) ((tkE a s l).drop i) → aClash a s (l.1 7 + 1) (tkE a s l) = false → WP (k_Server_takeEntries_b105 F n c s ad (l.1 7) (Int32.ofNat (tkE a s l).length) (Int32.ofNat i)) (fun c' => if aClash a s (l.1 7 + 1) (tkE a s l) = true then RC c' a (((ad, some l) :: H, U), N) else
      RC c' (aI (tk2 a s l) 75 s (aMax (aS (tk2 a s l) 75 s) (aMin (l.1 9) (aMax (l.1 7 + Int32.ofNat (tkE a s l).length) (aBase (tk2 a s l) s))))) (((ad, some (aU l.1 7 (aMax (l.1 7 + Int32.ofNat (tkE a s l).length) (aBase (tk2 a s l) s)), l.2)) :: H, aU U s (U s ||| 528)), N)) := by
    intro n
    induction n with
    | zero => intro i g1 g2; omega
    | succ n ih =>
      intro i g1 g2 g3 g6
      have fin : i ≤ (tkE a s l).length → tkR a s l = (l.1 7 + 1 + Int32.ofNat i, (tkE a s l).drop i) → WP (k_Server_takeEntries_b161 F c s ad (l.1 7) (Int32.ofNat (tkE a s l).length) (Int32.ofNat i)) (fun c' => if aClash a s (l.1 7 + 1) (tkE a s l) = true then RC c' a (((ad, some l) :: H, U), N) else
          RC c' (aI (tk2 a s l) 75 s (aMax (aS (tk2 a s l) 75 s) (aMin (l.1 9) (aMax (l.1 7 + Int32.ofNat (tkE a s l).length) (aBase (tk2 a s l) s))))) (((ad, some (aU l.1 7 (aMax (l.1 7 + Int32.ofNat (tkE a s l).length) (aBase (tk2 a s l) s)), l.2)) :: H, aU U s (U s ||| 528)), N)) := by
        intro q0 q1
        have r1 : (tkR a s l).1 = l.1 7 + 1 + Int32.ofNat i := by rw [q1]
        have r2 : (tkR a s l).2 = (tkE a s l).drop i := by rw [q1]
        unfold k_Server_takeEntries_b161 k_Server_takeEntries_b209
        have stay : ¬ ((tkR a s l).2 ≠ [] ∧ (tkR a s l).1 ≤ aLast a s) → WP (k_Server_takeEntries_b213 F F c s ad (l.1 7) (Int32.ofNat (tkE a s l).length) (Int32.ofNat i)) (fun c' => if aClash a s (l.1 7 + 1) (tkE a s l) = true then RC c' a (((ad, some l) :: H, U), N) else
            RC c' (aI (tk2 a s l) 75 s (aMax (aS (tk2 a s l) 75 s) (aMin (l.1 9) (aMax (l.1 7 + Int32.ofNat (tkE a s l).length) (aBase (tk2 a s l) s))))) (((ad, some (aU l.1 7 (aMax (l.1 7 + Int32.ofNat (tkE a s l).length) (aBase (tk2 a s l) s)), l.2)) :: H, aU U s (U s ||| 528)), N)) := by
          intro hn
          have et : tk1 a s l = a := if_neg hn
          refine key3 F i c a (by omega) q0 h ?_ (fun l1 e l2 he => ?_) g6
          · unfold tk2
            rw [et, r2]
          · have := hfa l1 e l2 (r2.trans he)
            rw [et] at this
            exact this
        by_cases z1 : i = (tkE a s l).length
        · rw [if_pos ((i_gei (by omega) (by omega)).mpr (by omega))]
          refine stay (fun y => y.1 ?_)
          rw [r2, z1, List.drop_length]
        · have hi : i < (tkE a s l).length := by omega
          rw [if_neg (fun y => by have := (i_gei (by omega) (by omega)).mp y; omega), K_r h (F := 56) (cl := 9) (f := 6) (by decide) hs]
          have ed := drop_cons hi
          have hne : (tkR a s l).2 ≠ [] := by
            rw [r2, ed]
            exact fun y => by cases y
          refine WP_if c2_gt (fun z => ?_) (fun z => ?_)
          · refine stay (fun y => ?_)
            rw [r1] at y
            exact (i_nle.mpr z) y.2
          · have z : l.1 7 + 1 + Int32.ofNat i ≤ aLast a s := i_nlt.mp z
            have hc := hcut hne (by rw [r1]; exact z)
            rw [r1] at hc
            have hhas : aHas a s (l.1 7 + 1 + Int32.ofNat i) = true := by
              unfold aHas
              rw [decide_eq_true hc, decide_eq_true z]
              rfl
            have et : tk1 a s l = A_cutLog a s (l.1 7 + 1 + Int32.ofNat i) := by
              unfold tk1
              rw [if_pos ⟨hne, by rw [r1]; exact z⟩, r1]
            rw [cutLog_d] at et
            refine WP_call (K_cutLogL (by omega) h hs w hhas) (fun c2 h2 => ?_)
            have hc' := Int32.lt_iff_toInt_lt.mp hc
            have hz' := Int32.le_iff_toInt_le.mp z
            obtain ⟨p1, p2, p3⟩ := wc
            have p3' : ∃ n0 : Int, 1 ≤ n0 ∧ n0 ≤ (aBase a s).toInt + 1 ∧ chOK (aFc a s) ((aLast a s).toInt + 1) n0 (aCh a s) := by
              rcases p3 with ⟨y1, y2⟩ | y
              · have := congrArg Int32.toInt y2
                omega
              · exact y
            obtain ⟨n0, n01, n02, n03⟩ := p3'
            refine WP_call (K_dCut2 (b0 := (aBase a s).toInt) (E := (aLast a s).toInt) (n0 := n0) (by omega) h2 hs w1 w4 hc' hz' p1 n01 n02 n03) (fun c3 h3 => ?_)
            have fd : AFr [43, 56, 77, 64, 65] [2, 6, 8] a (aDCut (aFindCode (aI (aLgS (aI a 56 s (l.1 7 + 1 + Int32.ofNat i - 1)) s ((aLg a s).take (l.1 7 + 1 + Int32.ofNat i - 1 - aBase a s).toNatClampNeg)) 77 s (aMin (aS a 77 s) (l.1 7 + 1 + Int32.ofNat i - 1))) s) s (l.1 7 + 1 + Int32.ofNat i)) := AFr_w (AFr_t (AFr_t (AFr_t (AFr_t AFr_I AFr_lg) AFr_I) AFr_findCode) AFr_dcut) (by decide) (by decide)
            generalize aDCut (aFindCode (aI (aLgS (aI a 56 s (l.1 7 + 1 + Int32.ofNat i - 1)) s ((aLg a s).take (l.1 7 + 1 + Int32.ofNat i - 1 - aBase a s).toNatClampNeg)) 77 s (aMin (aS a 77 s) (l.1 7 + 1 + Int32.ofNat i - 1))) s) s (l.1 7 + 1 + Int32.ofNat i) = Y at h3 et fd
            refine key3 F i c3 Y (by omega) q0 h3 ?_ (fun l1 e l2 he => ?_) g6
            · unfold tk2
              rw [et, r2, ed, appAll_soil]
            · have hf := hfa l1 e l2 (r2.trans he)
              rw [et] at hf
              cases l1 with
              | nil => exact FA_soil hf (mdOK_s hm (fd.1 2 (by decide) 0))
              | cons e1 l1 =>
                rw [appAll_soil] at hf
                exact hf
      unfold k_Server_takeEntries_b105 k_Server_takeEntries_b155
      dsimp only
      by_cases q : i = (tkE a s l).length
      · rw [if_pos ((i_gei (by omega) (by omega)).mpr (by omega))]
        refine fin g2 ?_
        unfold tkR
        rw [g3, q, List.drop_length]
        rfl
      · have hi : i < (tkE a s l).length := by omega
        rw [if_neg (fun y => by have := (i_gei (by omega) (by omega)).mp y; omega), K_r h (F := 55) (cl := 9) (f := 3) (by decide) hs, eb]
        have ed := drop_cons hi
        have eN : aNews a s (l.1 7 + 1 + Int32.ofNat i) ((tkE a s l).drop i) = if l.1 7 + 1 + Int32.ofNat i ≤ aBase a s ∨ (l.1 7 + 1 + Int32.ofNat i ≤ aLast a s ∧ aTermAt a s (l.1 7 + 1 + Int32.ofNat i) = ((tkE a s l).getD i aE0).1) then aNews a s (l.1 7 + 1 + Int32.ofNat i + 1) ((tkE a s l).drop (i + 1)) else (l.1 7 + 1 + Int32.ofNat i, (tkE a s l).drop i) := by
          rw [ed]
          rfl
        have next : l.1 7 + 1 + Int32.ofNat i ≤ aBase a s ∨ (l.1 7 + 1 + Int32.ofNat i ≤ aLast a s ∧ aTermAt a s (l.1 7 + 1 + Int32.ofNat i) = ((tkE a s l).getD i aE0).1) → WP (k_Server_takeEntries_b105 F n c s ad (l.1 7) (Int32.ofNat (tkE a s l).length) (Int32.ofNat i + 1)) (fun c' => if aClash a s (l.1 7 + 1) (tkE a s l) = true then RC c' a (((ad, some l) :: H, U), N) else
            RC c' (aI (tk2 a s l) 75 s (aMax (aS (tk2 a s l) 75 s) (aMin (l.1 9) (aMax (l.1 7 + Int32.ofNat (tkE a s l).length) (aBase (tk2 a s l) s))))) (((ad, some (aU l.1 7 (aMax (l.1 7 + Int32.ofNat (tkE a s l).length) (aBase (tk2 a s l) s)), l.2)) :: H, aU U s (U s ||| 528)), N)) := by
          intro hy
          rw [i_s]
          refine ih (i + 1) (by omega) (by omega) ?_ g6
          rw [g3, eN, if_pos hy, Int32.add_assoc, i_s]
        refine WP_if c2_le (fun y => next (Or.inl y)) (fun y => ?_)
        refine WP_eq (K_termAt h hs w) ?_
        have ex6 : Int32.ofNat i * 6 + 0 = Int32.ofNat (6 * i + 0) := by
          rw [show (6 : Int32) = Int32.ofNat 6 from rfl, i_mc, Nat.mul_comm]
          exact i_ad (s := 0)
        refine WP_eq (crd_n ex6 (show 6 * i + 0 < 36 by omega) (by omega)) ?_
        rw [row h hk rfl i hi 0 (by omega)]
        have k0 : kF ((tkE a s l).getD i aE0) 0 = ((tkE a s l).getD i aE0).1 := rfl
        rw [k0]
        refine WP_if c2_ne (fun z => ?_) (fun z => ?_)
        · refine fin g2 ?_
          unfold tkR
          rw [g3, eN, if_neg (fun u => u.elim y (fun u => z u.2))]
        · have z := Classical.not_not.mp z
          refine next (Or.inr ⟨?_, z⟩)
          refine Classical.byContradiction (fun u => hter i hi ?_)
          rw [← z]
          unfold aTermAt
          have nb : ¬ l.1 7 + 1 + Int32.ofNat i = aBase a s := fun v => y (by rw [v]; exact Int32.le_refl _)
          have nh : aHas a s (l.1 7 + 1 + Int32.ofNat i) = false := by
            unfold aHas
            rw [decide_eq_false u, Bool.and_false]
          rw [if_neg nb, nh, if_neg (by decide)]
  -- what is agreed already
  have key1 : ∀ n i, (tkE a s l).length + 1 ≤ i + n → i ≤ (tkE a s l).length → aClash a s (l.1 7 + 1) (tkE a s l) = aClash a s (l.1 7 + 1 + Int32.ofNat i) ((tkE a s l).drop i) → WP (k_Server_takeEntries_b33 F n c s ad (l.1 7) (Int32.ofNat (tkE a s l).length) (Int32.ofNat i)) (fun c' => if aClash a s (l.1 7 + 1) (tkE a s l) = true then RC c' a (((ad, some l) :: H, U), N) else
      RC c' (aI (tk2 a s l) 75 s (aMax (aS (tk2 a s l) 75 s) (aMin (l.1 9) (aMax (l.1 7 + Int32.ofNat (tkE a s l).length) (aBase (tk2 a s l) s))))) (((ad, some (aU l.1 7 (aMax (l.1 7 + Int32.ofNat (tkE a s l).length) (aBase (tk2 a s l) s)), l.2)) :: H, aU U s (U s ||| 528)), N)) := by
    intro n
    induction n with
    | zero => intro i g1 g2; omega
    | succ n ih =>
      intro i g1 g2 g3
      unfold k_Server_takeEntries_b33 k_Server_takeEntries_b96
      dsimp only
      by_cases q : i = (tkE a s l).length
      · rw [if_pos ((i_gei (by omega) (by omega)).mpr (by omega))]
        refine key2 F 0 (by omega) (Nat.zero_le _) ?_ ?_
        · rw [show Int32.ofNat 0 = (0 : Int32) from rfl, Int32.add_zero, List.drop_zero]
        · rw [g3, q, List.drop_length]
          rfl
      · have hi : i < (tkE a s l).length := by omega
        rw [if_neg (fun y => by have := (i_gei (by omega) (by omega)).mp y; omega), K_r h (F := 55) (cl := 9) (f := 3) (by decide) hs, eb, K_r h (F := 75) (cl := 9) (f := 9) (by decide) hs]
        have ed := drop_cons hi
        have eN : aClash a s (l.1 7 + 1 + Int32.ofNat i) ((tkE a s l).drop i) = ((decide (aBase a s ≤ l.1 7 + 1 + Int32.ofNat i) && decide (l.1 7 + 1 + Int32.ofNat i ≤ aS a 75 s) && !decide (aTermAt a s (l.1 7 + 1 + Int32.ofNat i) = ((tkE a s l).getD i aE0).1)) || aClash a s (l.1 7 + 1 + Int32.ofNat i + 1) ((tkE a s l).drop (i + 1))) := by
          rw [ed]
          rfl
        have next : (decide (aBase a s ≤ l.1 7 + 1 + Int32.ofNat i) && decide (l.1 7 + 1 + Int32.ofNat i ≤ aS a 75 s) && !decide (aTermAt a s (l.1 7 + 1 + Int32.ofNat i) = ((tkE a s l).getD i aE0).1)) = false → WP (k_Server_takeEntries_b33 F n c s ad (l.1 7) (Int32.ofNat (tkE a s l).length) (Int32.ofNat i + 1)) (fun c' => if aClash a s (l.1 7 + 1) (tkE a s l) = true then RC c' a (((ad, some l) :: H, U), N) else
            RC c' (aI (tk2 a s l) 75 s (aMax (aS (tk2 a s l) 75 s) (aMin (l.1 9) (aMax (l.1 7 + Int32.ofNat (tkE a s l).length) (aBase (tk2 a s l) s))))) (((ad, some (aU l.1 7 (aMax (l.1 7 + Int32.ofNat (tkE a s l).length) (aBase (tk2 a s l) s)), l.2)) :: H, aU U s (U s ||| 528)), N)) := by
          intro hy
          rw [i_s]
          refine ih (i + 1) (by omega) (by omega) ?_
          rw [g3, eN, hy, Bool.false_or, Int32.add_assoc, i_s]
        refine WP_if c2_lt (fun y => next (by rw [decide_eq_false (i_nle.mpr y)]; rfl)) (fun y => ?_)
        have y := i_nlt.mp y
        refine WP_if c2_gt (fun z => next (by rw [decide_eq_false (i_nle.mpr z), Bool.and_false]; rfl)) (fun z => ?_)
        have z := i_nlt.mp z
        refine WP_eq (K_termAt h hs w) ?_
        have ex6 : Int32.ofNat i * 6 + 0 = Int32.ofNat (6 * i + 0) := by
          rw [show (6 : Int32) = Int32.ofNat 6 from rfl, i_mc, Nat.mul_comm]
          exact i_ad (s := 0)
        refine WP_eq (crd_n ex6 (show 6 * i + 0 < 36 by omega) (by omega)) ?_
        rw [row h hk rfl i hi 0 (by omega)]
        have k0 : kF ((tkE a s l).getD i aE0) 0 = ((tkE a s l).getD i aE0).1 := rfl
        rw [k0]
        refine WP_if c2_eq (fun u => next (by rw [decide_eq_true u]; simp)) (fun u => ?_)
        refine WP_some ?_
        rw [if_pos (by rw [g3, eN, decide_eq_true y, decide_eq_true z, decide_eq_false u]; rfl)]
        exact h
  refine key1 F 0 (by omega) (Nat.zero_le _) ?_
  rw [show Int32.ofNat 0 = (0 : Int32) from rfl, Int32.add_zero, List.drop_zero]
