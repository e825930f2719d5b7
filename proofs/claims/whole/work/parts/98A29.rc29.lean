/-! what waited goes out -/
theorem fly_wt {X : AA} {s : Nat} {v : List AL} {l : AL} {t : Int32} : A_fly (aWtS X s v) l t = aWtS (A_fly X l t) s v := by
  unfold A_fly
  by_cases q : 128 ≤ (aWay X).length
  · rw [if_pos q, if_pos (show 128 ≤ (aWay (aWtS X s v)).length from q)]
    rfl
  · rw [if_neg q, if_neg (show ¬ 128 ≤ (aWay (aWtS X s v)).length from q)]
    rfl
theorem sendOut_wt {X : AA} {s : Nat} {v : List AL} {l : AL} : A_sendOut (aWtS X s v) l = aWtS (A_sendOut X l) s v := by
  unfold A_sendOut
  by_cases q1 : A_parted X (l.1 2) (l.1 3) = true
  · rw [if_pos q1, if_pos (show A_parted (aWtS X s v) (l.1 2) (l.1 3) = true from q1)]
    rfl
  · rw [if_neg q1, if_neg (show ¬ A_parted (aWtS X s v) (l.1 2) (l.1 3) = true from q1)]
    by_cases q2 : aS X 25 0 = 0 ∧ aS X 26 0 = 0 ∧ aS X 27 0 = 0
    · rw [if_pos q2, if_pos (show aS (aWtS X s v) 25 0 = 0 ∧ aS (aWtS X s v) 26 0 = 0 ∧ aS (aWtS X s v) 27 0 = 0 from q2)]
      exact fly_wt
    · rw [if_neg q2, if_neg (show ¬ (aS (aWtS X s v) 25 0 = 0 ∧ aS (aWtS X s v) 26 0 = 0 ∧ aS (aWtS X s v) 27 0 = 0) from q2)]
      by_cases q3 : (A_draw X 1000).1 < aS X 25 0
      · rw [if_pos q3, if_pos (show (A_draw (aWtS X s v) 1000).1 < aS (aWtS X s v) 25 0 from q3)]
        rfl
      · rw [if_neg q3, if_neg (show ¬ (A_draw (aWtS X s v) 1000).1 < aS (aWtS X s v) 25 0 from q3)]
        dsimp only
        have hY : A_fly (A_draw (A_draw (A_draw (aWtS X s v) 1000).2 1000).2 (aS (aWtS X s v) 27 0 + 1)).2 l (aNow (aWtS X s v) + aS (aWtS X s v) 23 (16 * (l.1 2) + l.1 3).toNatClampNeg + (A_draw (A_draw (A_draw (aWtS X s v) 1000).2 1000).2 (aS (aWtS X s v) 27 0 + 1)).1) = aWtS (A_fly (A_draw (A_draw (A_draw X 1000).2 1000).2 (aS X 27 0 + 1)).2 l (aNow X + aS X 23 (16 * (l.1 2) + l.1 3).toNatClampNeg + (A_draw (A_draw (A_draw X 1000).2 1000).2 (aS X 27 0 + 1)).1)) s v := fly_wt (X := (A_draw (A_draw (A_draw X 1000).2 1000).2 (aS X 27 0 + 1)).2)
        rw [hY]
        generalize A_fly (A_draw (A_draw (A_draw X 1000).2 1000).2 (aS X 27 0 + 1)).2 l (aNow X + aS X 23 (16 * (l.1 2) + l.1 3).toNatClampNeg + (A_draw (A_draw (A_draw X 1000).2 1000).2 (aS X 27 0 + 1)).1) = Z
        by_cases q4 : (A_draw (A_draw X 1000).2 1000).1 < aS X 26 0
        · rw [if_pos q4, if_pos (show (A_draw (A_draw (aWtS X s v) 1000).2 1000).1 < aS (aWtS X s v) 26 0 from q4)]
          exact fly_wt (X := (A_draw Z (aS X 27 0 + 1)).2)
        · rw [if_neg q4, if_neg (show ¬ (A_draw (A_draw (aWtS X s v) 1000).2 1000).1 < aS (aWtS X s v) 26 0 from q4)]
theorem aWtS_wtS {X : AA} {s : Nat} {v w : List AL} : aWtS (aWtS X s v) s w = aWtS X s w := by
  have e : aU (aU (aWt X) s v) s w = aU (aWt X) s w := by
    funext j
    unfold aU
    by_cases q : j = s
    · rw [if_pos q, if_pos q]
    · rw [if_neg q, if_neg q, if_neg q]
  show ((X.1, aWay X, aU (aU (aWt X) s v) s w, X.2.2.2) : AA) = (X.1, aWay X, aU (aWt X) s w, X.2.2.2)
  rw [e]
theorem aWtS_same {X : AA} {s : Nat} : aWtS X s (aWt X s) = X := by
  have e : aU (aWt X) s (aWt X s) = aWt X := aU_self
  show ((X.1, aWay X, aU (aWt X) s (aWt X s), X.2.2.2) : AA) = X
  rw [e]
  rfl
theorem gh_o {c : CS} {s cl i f : Nat} {r : List Nat} (h : ¬ (cl = 13 ∧ i = s ∧ f = 7)) : Sm c (gh s r c) cl i f := ⟨fun _ => rfl, fun _ => rfl, rfl, if_neg h⟩
theorem gh_k {c : CS} {s : Nat} {r : List Nat} : Ck [423] s c (gh s r c) := by
  intro cl i f _ z
  refine gh_o (fun u => ?_)
  obtain ⟨u1, u2, u3⟩ := u
  subst u1
  subst u2
  subst u3
  rcases z with z | ⟨_, z⟩
  · exact z (by decide)
  · exact z rfl
/-- the first of the waiting letters comes to the hand -/
theorem RC_ghd {c : CS} {a : AA} {s x : Nat} {r : List Nat} {l : AL} {ws : List AL} {H : List (Nat × Option AL)} {U : Nat → Int32} {N : Nat × Nat} (h : RC c a ((H, U), N)) (hs : s < 7) (hL : cS c 13 s 7 = x :: r) (hw : aWt a s = l :: ws) : RC (gh s r c) (aWtS a s ws) (((x, some l) :: H, U), N) := by
  have hF := @gh_k c s r
  have hk := h.2.2.2.2.2.2.2.2.2.2.2.2.2.2.2.2.2.2.2.1
  have eS : ∀ t, cS (gh s r c) 13 t 7 = if t = s then r else cS c 13 t 7 := by
    intro t
    show (if 13 = 13 ∧ t = s ∧ 7 = 7 then r else cS c 13 t 7) = _
    by_cases q : t = s
    · rw [if_pos q, if_pos ⟨rfl, q, rfl⟩]
    · rw [if_neg q, if_neg (fun z => q z.2.1)]
  have eW : ∀ t, aWt (aWtS a s ws) t = if t = s then ws else aWt a t := fun t => rfl
  have e15 : cS (gh s r c) 14 0 15 = cS c 14 0 15 := rfl
  have e16 : cS (gh s r c) 14 0 16 = cS c 14 0 16 := rfl
  have hf2 := hk.2.2.1 s hs
  rw [hL, hw] at hf2
  have cnt : ∀ y, nC (gh s r c) ((x, some l) :: H) y = nC c H y := by
    intro y
    have h1 := sumN_upd (f := fun t => (cS (gh s r c) 13 t 7).count y) (g := fun t => (cS c 13 t 7).count y) 7 hs (fun t _ ht => by rw [eS, if_neg ht])
    have h2 : (cS (gh s r c) 13 s 7).count y = r.count y := by rw [eS, if_pos rfl]
    have h3 : (cS c 13 s 7).count y = r.count y + if x = y then 1 else 0 := by
      rw [hL, List.count_cons]
      by_cases q : x = y
      · rw [if_pos (by simp [q]), if_pos q]
      · rw [if_neg (by simp [q]), if_neg q]
    simp only [h2, h3] at h1
    unfold nC
    rw [cnt_H, e15, e16]
    omega
  have hlt : KLt (gh s r c) (aWtS a s ws) ((x, some l) :: H) := by
    refine ⟨fun y => ?_, hk.2.1, fun t ht => ?_, fun z hz m hm => ?_, hk.2.2.2.2.1, fun t ht => ?_, hk.2.2.2.2.2.2⟩
    · rw [cnt]
      exact hk.1 y
    · rw [eS, eW]
      by_cases q : t = s
      · rw [if_pos q, if_pos q]
        exact hf2.2
      · rw [if_neg q, if_neg q]
        exact hk.2.2.1 t ht
    · rcases List.mem_cons.mp hz with rfl | hz
      · cases hm
        exact hf2.1
      · exact hk.2.2.2.1 z hz m hm
    · rw [eS]
      by_cases q : t = s
      · rw [if_pos q]
        have := hk.2.2.2.2.2.1 s hs
        rw [hL, List.length_cons] at this
        omega
      · rw [if_neg q]
        exact hk.2.2.2.2.2.1 t ht
  have hrm : KRm (gh s r c) (((x, some l) :: H, U), N) := by
    obtain ⟨r1, r2, r3, r4⟩ := h.2.2.2.2.2.2.2.2.2.2.2.2.2.2.2.2.2.2.2.2.1
    have en : nL (gh s r c) ((x, some l) :: H) = nL c H := by
      have h1 := sumN_upd (f := fun t => (cS (gh s r c) 13 t 7).length) (g := fun t => (cS c 13 t 7).length) 7 hs (fun t _ ht => by rw [eS, if_neg ht])
      have h2 : (cS (gh s r c) 13 s 7).length = r.length := by rw [eS, if_pos rfl]
      have h3 : (cS c 13 s 7).length = r.length + 1 := by rw [hL]; rfl
      simp only [h2, h3] at h1
      unfold nL
      rw [e15, e16, List.length_cons]
      omega
    refine ⟨?_, ?_, ?_, r4⟩
    · show 16 * (cT c).1 ≤ 16 * N.1 + 48 * nL (gh s r c) ((x, some l) :: H) + gA gw1 c
      rw [en]
      exact r1
    · show (cT c).2 ≤ N.2 + 256 * nL (gh s r c) ((x, some l) :: H) + gA gw2 c
      rw [en]
      exact r2
    · show nL (gh s r c) ((x, some l) :: H) ≤ 360
      rw [en]
      exact r3
  exact ⟨KSc_fr hF (by decide) h.1, fun s hs hu => KFr_fr hF (by decide) (h.2.1 s hs hu), fun s hs => KHd_fr hF (by decide) (h.2.2.1 s hs), fun s hs hr => KLd_fr hF (by decide) (h.2.2.2.1 s hs hr), fun s hs hu => KRq_fr hF (by decide) (h.2.2.2.2.1 s hs hu), KBl_fr hF (by decide) h.2.2.2.2.2.1, KDa_fr hF (by decide) h.2.2.2.2.2.2.1, fun s hs => KLw_fr hF (by decide) (h.2.2.2.2.2.2.2.1 s hs), fun s hs => KG_fr hF (by decide) (h.2.2.2.2.2.2.2.2.1 s hs), fun s hs => KPg_fr hF (by decide) (h.2.2.2.2.2.2.2.2.2.1 s hs), fun s hs => KCh_fr hF (by decide) (h.2.2.2.2.2.2.2.2.2.2.1 s hs), fun s hs => KMc_fr hF (by decide) (h.2.2.2.2.2.2.2.2.2.2.2.1 s hs), fun s hs => KPc_fr hF (by decide) (h.2.2.2.2.2.2.2.2.2.2.2.2.1 s hs), fun k hk => KCl_fr hF (by decide) (h.2.2.2.2.2.2.2.2.2.2.2.2.2.1 k hk), fun k hk => KDn_fr hF (by decide) (h.2.2.2.2.2.2.2.2.2.2.2.2.2.2.1 k hk), KAk_fr hF (by decide) h.2.2.2.2.2.2.2.2.2.2.2.2.2.2.2.1, KFc_fr hF (by decide) h.2.2.2.2.2.2.2.2.2.2.2.2.2.2.2.2.1, fun s hs => KId_fr hF (by decide) (h.2.2.2.2.2.2.2.2.2.2.2.2.2.2.2.2.2.1 s hs), fun k hk => KIc_fr hF (by decide) (h.2.2.2.2.2.2.2.2.2.2.2.2.2.2.2.2.2.2.1 k hk), hlt, hrm, h.2.2.2.2.2.2.2.2.2.2.2.2.2.2.2.2.2.2.2.2.2.1, h.2.2.2.2.2.2.2.2.2.2.2.2.2.2.2.2.2.2.2.2.2.2⟩
theorem RC_ghc {c : CS} {a : AA} {v : CV} {s : Nat} (h : RC (gh s [] c) a v) : RC (clclr c 13 s 7) a v := by
  have eL : cL (clclr c 13 s 7) = cL (gh s [] c) := by
    funext x y z
    show (if x = 13 ∧ y = s ∧ z = 7 then cL c 13 s 7 else cL c x y z) = cL c x y z
    by_cases q : x = 13 ∧ y = s ∧ z = 7
    · rw [if_pos q, q.1, q.2.1, q.2.2]
    · rw [if_neg q]
  have eS : cS (clclr c 13 s 7) = cS (gh s [] c) := rfl
  have eT : cT (clclr c 13 s 7) = cT (gh s [] c) := rfl
  have eo : ∀ cl i f, ¬ (cl = 13 ∧ i = s ∧ f = 7) → Sm (gh s [] c) (clclr c 13 s 7) cl i f := fun cl i f q => ⟨fun y => if_neg (fun z => q ⟨z.1, z.2.1, z.2.2.1⟩), fun _ => rfl, by rw [eL], by rw [eS]⟩
  have hF : Ck [423] s (gh s [] c) (clclr c 13 s 7) := by
    intro cl i f _ z
    refine eo cl i f (fun u => ?_)
    obtain ⟨u1, u2, u3⟩ := u
    subst u1
    subst u2
    subst u3
    rcases z with z | ⟨_, z⟩
    · exact z (by decide)
    · exact z rfl
  have hlt : KLt (clclr c 13 s 7) a v.1.1 := KLt_s (by rw [eS]) (by rw [eS]) (fun t _ => by rw [eS]) (by rw [eT]; exact Nat.le_refl _) (fun ad f _ _ _ => eo 8 ad f (fun z => absurd z.1 (by decide))) h.2.2.2.2.2.2.2.2.2.2.2.2.2.2.2.2.2.2.2.1
  exact ⟨KSc_fr hF (by decide) h.1, fun s hs hu => KFr_fr hF (by decide) (h.2.1 s hs hu), fun s hs => KHd_fr hF (by decide) (h.2.2.1 s hs), fun s hs hr => KLd_fr hF (by decide) (h.2.2.2.1 s hs hr), fun s hs hu => KRq_fr hF (by decide) (h.2.2.2.2.1 s hs hu), KBl_fr hF (by decide) h.2.2.2.2.2.1, KDa_fr hF (by decide) h.2.2.2.2.2.2.1, fun s hs => KLw_fr hF (by decide) (h.2.2.2.2.2.2.2.1 s hs), fun s hs => KG_fr hF (by decide) (h.2.2.2.2.2.2.2.2.1 s hs), fun s hs => KPg_fr hF (by decide) (h.2.2.2.2.2.2.2.2.2.1 s hs), fun s hs => KCh_fr hF (by decide) (h.2.2.2.2.2.2.2.2.2.2.1 s hs), fun s hs => KMc_fr hF (by decide) (h.2.2.2.2.2.2.2.2.2.2.2.1 s hs), fun s hs => KPc_fr hF (by decide) (h.2.2.2.2.2.2.2.2.2.2.2.2.1 s hs), fun k hk => KCl_fr hF (by decide) (h.2.2.2.2.2.2.2.2.2.2.2.2.2.1 k hk), fun k hk => KDn_fr hF (by decide) (h.2.2.2.2.2.2.2.2.2.2.2.2.2.2.1 k hk), KAk_fr hF (by decide) h.2.2.2.2.2.2.2.2.2.2.2.2.2.2.2.1, KFc_fr hF (by decide) h.2.2.2.2.2.2.2.2.2.2.2.2.2.2.2.2.1, fun s hs => KId_fr hF (by decide) (h.2.2.2.2.2.2.2.2.2.2.2.2.2.2.2.2.2.1 s hs), fun k hk => KIc_fr hF (by decide) (h.2.2.2.2.2.2.2.2.2.2.2.2.2.2.2.2.2.2.1 k hk), hlt, KRm_eq eL eS eT h.2.2.2.2.2.2.2.2.2.2.2.2.2.2.2.2.2.2.2.2.1, h.2.2.2.2.2.2.2.2.2.2.2.2.2.2.2.2.2.2.2.2.2.1, h.2.2.2.2.2.2.2.2.2.2.2.2.2.2.2.2.2.2.2.2.2.2⟩
theorem K_postWaiting {F : Nat} {c : CS} {a : AA} {s : Nat} {H : List (Nat × Option AL)} {U : Nat → Int32} {N : Nat × Nat} (hF : 130 ≤ F) (h : RC c a ((H, U), N)) (hs : s < 7) (wf : ∀ l ∈ aWt a s, wfL l) (hH : H.length ≤ 5) : WP (k_Server_postWaiting F c s) (fun c' => RC c' (A_sendAllOut (aWtS a s []) (aWt a s)) ((H, U), N)) := by
  have hlen := F2_len (h.2.2.2.2.2.2.2.2.2.2.2.2.2.2.2.2.2.2.2.1.2.2.1 s hs)
  have h32 := h.2.2.2.2.2.2.2.2.2.2.2.2.2.2.2.2.2.2.2.1.2.2.2.2.2.1 s hs
  generalize hL : cS c 13 s 7 = L at hlen h32
  unfold k_Server_postWaiting k_Server_postWaiting_b0
  have key : ∀ (n i : Nat) (c : CS) (X : AA), L.length + 1 ≤ i + n → i ≤ L.length → cS c 13 s 7 = L → aWt X s = (aWt a s).drop i → A_sendAllOut (aWtS X s []) ((aWt a s).drop i) = A_sendAllOut (aWtS a s []) (aWt a s) → RC (gh s (L.drop i) c) X ((H, U), N) → WP (k_Server_postWaiting_b2 F n c s (Int32.ofNat i)) (fun c' => RC c' (A_sendAllOut (aWtS a s []) (aWt a s)) ((H, U), N)) := by
    intro n
    induction n with
    | zero => intro i c X h1 h2; omega
    | succ n ih =>
      intro i c X h1 h2 h3 h4 h5 h6
      have esz : clsz c 13 s 7 = Int32.ofNat L.length := by
        unfold clsz
        rw [h3]
      unfold k_Server_postWaiting_b2
      dsimp only
      rw [esz]
      refine WP_if (i_gei (by omega) (by omega)) (fun q => ?_) (fun q => ?_)
      · have : i = L.length := by omega
        subst this
        have d0 : (aWt a s).drop L.length = [] := List.drop_of_length_le (by omega)
        rw [d0] at h4 h5
        rw [List.drop_of_length_le (Nat.le_refl _)] at h6
        rw [← h5]
        have eX : A_sendAllOut (aWtS X s []) [] = X := by
          show aWtS X s [] = X
          rw [← h4]
          exact aWtS_same
        rw [eX]
        exact WP_b (WP_some (RC_ghc h6))
      · have hi : i < L.length := by omega
        have hi2 : i < (aWt a s).length := by omega
        have dL : L.drop i = L[i] :: L.drop (i + 1) := List.drop_eq_getElem_cons hi
        have dW : (aWt a s).drop i = (aWt a s)[i] :: (aWt a s).drop (i + 1) := List.drop_eq_getElem_cons hi2
        have hwf := wf _ (List.getElem_mem hi2)
        rw [clget_n (n := i) rfl (by omega) (show (cS c 13 s 7)[i]? = some L[i] by rw [h3]; exact List.getElem?_eq_getElem hi)]
        refine WP_b ?_
        rw [dW] at h4 h5
        rw [dL] at h6
        generalize L[i] = x at h6
        generalize (aWt a s)[i] = l at h4 h5 hwf
        have h7 := RC_ghd (r := L.drop (i + 1)) (ws := (aWt a s).drop (i + 1)) h6 hs (if_pos ⟨rfl, rfl, rfl⟩) h4
        rw [gh_gh] at h7
        obtain ⟨c1', e1, h8⟩ := K_post hF h7 hwf hH
        rw [post_gh] at e1
        cases hp : k_World_post F c 0 x with
        | none =>
          rw [hp] at e1
          exact absurd e1 (fun z => by cases (show (none : Option CS) = some c1' from z))
        | some c1 =>
          rw [hp] at e1
          have e2 : gh s (L.drop (i + 1)) c1 = c1' := Option.some.inj e1
          have e3 : gh s L c1 = c1 := by
            have y := @post_gh s L F c x
            rw [← h3, gh_self, hp] at y
            have y2 : c1 = gh s (cS c 13 s 7) c1 := Option.some.inj y
            rw [h3] at y2
            exact y2.symm
          have e4 : cS c1 13 s 7 = L := by
            rw [← e3]
            exact if_pos ⟨rfl, rfl, rfl⟩
          refine WP_b ?_
          rw [i_s]
          rw [← e2] at h8
          refine ih (i + 1) c1 _ (by omega) (by omega) e4 ?_ ?_ h8
          · rw [sendOut_wt]
            exact if_pos rfl
          · rw [sendOut_wt, aWtS_wtS, ← sendOut_wt]
            exact h5
  refine key F 0 c a (by omega) (by omega) hL rfl rfl ?_
  show RC (gh s L c) a ((H, U), N)
  rw [← hL, gh_self]
  exact h
